/-! the law's own ring, method by method (rows laid by wip/p38/spec_sim.py) -/
set_option maxHeartbeats 4000000 in
set_option maxRecDepth 100000 in
theorem c_X3_at (γ : xG) (l : Launch) (s0 a n : Nat) (f : xRow) (x : Int32) (z : Int) (hz : x.toInt = z) (hn0 : 3 ≤ n) (hn1 : n ≤ 12) (h1 : -(n : Int) ≤ z) (h2 : z < 2 * (n : Int)) : xR γ l yX3_at wsX3_at ({ frames := 0, cells := 0, slots := 0, locals := 0 } : Room) [.ref s0, .ref a, .int x] ([xA γ a n f]) (some (.int (f (xWr n z)))) := by
  refine xR.of (cc := cX3_at) (maxL := 3) (ret := (some .int)) (by decide +kernel) rfl (Nat.le_of_ble_eq_true rfl) ?_
  intro p e s m below meth c hx hb hr hml hts hown hlocks hP hK ls hl
  generalize hargs : ([.ref s0, .ref a, .int x] : List Value).toArray = args at hts ⊢
  obtain ⟨Q, hQ⟩ : ∃ Q9, Q9 = MQ below (xRQ (some (.int (f (xWr n z))))) args s 0 0 (fun _ => False) := ⟨_, rfl⟩
  rw [← hQ]
  have hown : s.vm.findClass RX3 = some m.cls := hown
  have hl : lv_has ls 3 [(0, .ref s0), (1, .ref a), (2, .int x)] := hl
  have hw : xWr n z < n := xWr_lt (by omega) h1 h2
  refine lv_aload_n hx hb dX3_at_0 rfl (lv_at hl 1 rfl) ?_
  refine lv_iload_n hx hb dX3_at_1 rfl (lv_at hl 2 rfl) ?_
  refine lv_aload_n hx hb dX3_at_2 rfl (lv_at hl 1 rfl) ?_
  refine va_alen (v := nI n) hx hb hK hP 0 0 rfl rfl rfl dX3_at_3 ?_
  refine lv_irem hx hb dX3_at_4 (nI_ne0 (by omega) (by omega)) ?_
  refine lv_aload_n hx hb dX3_at_5 rfl (lv_at hl 1 rfl) ?_
  refine va_alen (v := nI n) hx hb hK hP 0 0 rfl rfl rfl dX3_at_6 ?_
  refine lv_iadd hx hb dX3_at_7 ?_
  refine lv_aload_n hx hb dX3_at_8 rfl (lv_at hl 1 rfl) ?_
  refine va_alen (v := nI n) hx hb hK hP 0 0 rfl rfl rfl dX3_at_9 ?_
  refine lv_irem hx hb dX3_at_10 (nI_ne0 (by omega) (by omega)) ?_
  refine x_top (y := nI (xWr n z)) (xAt hz hn0 hn1 h1 h2) ?_
  refine x_iald (f := f) hx hb hK hP 0 rfl (xWr n z) rfl (by omega) (by omega) dX3_at_11 ?_
  subst hQ
  exact xR_i hx hb hr hlocks dX3_at_12 (rfl)

theorem hdv_X3_at : yX3_at.cls = RX3 ∧ yX3_at.cls ≠ "java/lang/invoke/MethodHandle" ∧ yX3_at.cls ≠ "java/lang/invoke/VarHandle" ∧ (parseMethodDescriptor yX3_at.desc).map (fun d => d.parameters.length) = some 2 := by decide +kernel
set_option maxHeartbeats 4000000 in
set_option maxRecDepth 100000 in
theorem c_X3_bend (γ : xG) (l : Launch) (s0 r tq : Nat) (td : Int32) (a n : Nat) (f : xRow) (p9 : Nat) (hn0 : 3 ≤ n) (hn1 : n ≤ 12) (hp : p9 < n) : xR γ l yX3_bend wsX3_bend ({ frames := 1, cells := 0, slots := 0, locals := 22 } : Room) [.ref s0, .ref a, .int (nI p9)] ([xO s0 3 [.ref r, .ref tq, .int td], xA γ a n f]) (some (.int (xBn n f p9))) := by
  refine xR.of (cc := cX3_bend) (maxL := 3) (ret := (some .int)) (by decide +kernel) rfl (Nat.le_of_ble_eq_true rfl) ?_
  intro p e s m below meth c hx hb hr hml hts hown hlocks hP hK ls hl
  generalize hargs : ([.ref s0, .ref a, .int (nI p9)] : List Value).toArray = args at hts ⊢
  obtain ⟨Q, hQ⟩ : ∃ Q9, Q9 = MQ below (xRQ (some (.int (xBn n f p9)))) args s 0 0 (fun _ => False) := ⟨_, rfl⟩
  rw [← hQ]
  have hown : s.vm.findClass RX3 = some m.cls := hown
  have hl : lv_has ls 3 [(0, .ref s0), (1, .ref a), (2, .int (nI p9))] := hl
  refine lv_iconst (v := 2) hx hb dX3_bend_0 (by decide) ?_
  refine lv_aload_n hx hb dX3_bend_1 rfl (lv_at hl 1 rfl) ?_
  refine lv_iload_n hx hb dX3_bend_2 rfl (lv_at hl 2 rfl) ?_
  refine x_iald (f := f) hx hb hK hP 1 rfl p9 rfl (by omega) (by omega) dX3_bend_3 ?_
  refine lv_imul hx hb dX3_bend_4 ?_
  refine lv_aload_n hx hb dX3_bend_5 rfl (lv_at hl 0 rfl) ?_
  refine lv_aload_n hx hb dX3_bend_6 rfl (lv_at hl 1 rfl) ?_
  refine lv_iload_n hx hb dX3_bend_7 rfl (lv_at hl 2 rfl) ?_
  refine lv_iconst (v := 1) hx hb dX3_bend_8 (by decide) ?_
  refine lv_iadd hx hb dX3_bend_9 ?_
  refine x_top (y := nI p9 + 1) (rfl) ?_
  refine xVR (q0 := 0) (ci := 3) (As := [.ref a, .int (nI p9 + 1)]) (rest := [.int (2 * (f p9))]) (stk := [.int (f (xWr n ((p9 : Int) + 1))), .int (2 * (f p9))]) ⟨hx, hb, hml, hown, hts⟩ (c_X3_at γ l s0 a n f (nI p9 + 1) ((p9 : Int) + 1) (xaddI (nI_toInt (n := p9) (by omega)) (show (1 : Int32).toInt = 1 from rfl) (by omega) (by omega)) (by omega) (by omega) (by omega) (by omega)) (cwV 2 hts gX3_bend_X3_at rfl rfl rfl hdv_X3_at ⟨(Nat.le_of_ble_eq_true rfl), (Nat.le_of_ble_eq_true rfl)⟩) hK hP [1] rfl rfl rfl rfl hl.1 rfl (Nat.le_of_ble_eq_true rfl) dX3_bend_10 ⟨(Nat.le_of_ble_eq_true rfl), (Nat.le_of_ble_eq_true rfl)⟩ rfl ?_
  refine lv_isub hx hb dX3_bend_13 ?_
  refine lv_aload_n hx hb dX3_bend_14 rfl (lv_at hl 0 rfl) ?_
  refine lv_aload_n hx hb dX3_bend_15 rfl (lv_at hl 1 rfl) ?_
  refine lv_iload_n hx hb dX3_bend_16 rfl (lv_at hl 2 rfl) ?_
  refine lv_iconst (v := 1) hx hb dX3_bend_17 (by decide) ?_
  refine lv_isub hx hb dX3_bend_18 ?_
  refine x_top (y := nI p9 - 1) (rfl) ?_
  refine xVR (q0 := 0) (ci := 3) (As := [.ref a, .int (nI p9 - 1)]) (rest := [.int ((2 * (f p9)) - (f (xWr n ((p9 : Int) + 1))))]) (stk := [.int (f (xWr n ((p9 : Int) - 1))), .int ((2 * (f p9)) - (f (xWr n ((p9 : Int) + 1))))]) ⟨hx, hb, hml, hown, hts⟩ (c_X3_at γ l s0 a n f (nI p9 - 1) ((p9 : Int) - 1) (xsubI (nI_toInt (n := p9) (by omega)) (show (1 : Int32).toInt = 1 from rfl) (by omega) (by omega)) (by omega) (by omega) (by omega) (by omega)) (cwV 2 hts gX3_bend_X3_at rfl rfl rfl hdv_X3_at ⟨(Nat.le_of_ble_eq_true rfl), (Nat.le_of_ble_eq_true rfl)⟩) hK hP [1] rfl rfl rfl rfl hl.1 rfl (Nat.le_of_ble_eq_true rfl) dX3_bend_19 ⟨(Nat.le_of_ble_eq_true rfl), (Nat.le_of_ble_eq_true rfl)⟩ rfl ?_
  refine lv_isub hx hb dX3_bend_22 ?_
  subst hQ
  exact xR_i hx hb hr hlocks dX3_bend_23 (rfl)

theorem wdX3_tipped_cl1_22 : Cond.methodLink RX3 22 ⟨"[I", "clone", "()Ljava/lang/Object;"⟩ ∈ wsX3_tipped := by decide +kernel
theorem wdX3_tipped_cl2 : Cond.sameMethod "[I" "java/lang/Object" "clone" "()Ljava/lang/Object;" ∈ wsX3_tipped := by decide +kernel
theorem wdX3_tipped_cl3 : Cond.native ⟨"java/lang/Object", "clone", "()Ljava/lang/Object;"⟩ ∈ wsX3_tipped := by decide +kernel
theorem wdX3_tipped_cl4 : Cond.instanceMethod ⟨"java/lang/Object", "clone", "()Ljava/lang/Object;"⟩ ∈ wsX3_tipped := by decide +kernel
theorem wdX3_tipped_cl5 : Cond.selects "[I" ⟨"[I", "clone", "()Ljava/lang/Object;"⟩ ⟨"java/lang/Object", "clone", "()Ljava/lang/Object;"⟩ ∈ wsX3_tipped := by decide +kernel
theorem wdX3_tipped_n13a : Cond.classLink RX3 13 "[I" ∈ wsX3_tipped := by decide +kernel
set_option maxHeartbeats 4000000 in
set_option maxRecDepth 100000 in
theorem c_X3_tipped (γ : xG) (l : Launch) (s0 a n : Nat) (f : xRow) (p9 : Nat) (t : Int32) (hn0 : 3 ≤ n) (hn1 : n ≤ 12) (hp : p9 < n) : xC γ l yX3_tipped wsX3_tipped ({ frames := 1, cells := 1, slots := 12, locals := 14 } : Room) [.ref s0, .ref a, .int (nI p9), .int t] xAz ([xA γ a n f]) (fun r9 w9 v9 => ∃ b9 : Nat, r9 = some (.ref b9) ∧ w9 = [xA γ a n f] ∧ v9 = [xA γ b9 n (xTip n f p9 t)]) 1 12 := by
  refine xC.of (cc := cX3_tipped) (maxL := 6) (ret := (some (.array .int))) (by decide +kernel) rfl (Nat.le_of_ble_eq_true rfl) ?_
  intro p e s m below meth c hx hb hr hml hts hown hlocks hin hP hK hEx A hA hAw hD ls hl
  have hS : va_S A s.heap s.heap [] := va_S.rf
  generalize hargs : ([.ref s0, .ref a, .int (nI p9), .int t] : List Value).toArray = args at hts ⊢
  obtain ⟨Q, hQ⟩ : ∃ Q9, Q9 = MQ below (xCQ γ ([xA γ a n f]).length A (fun r9 w9 v9 => ∃ b9 : Nat, r9 = some (.ref b9) ∧ w9 = [xA γ a n f] ∧ v9 = [xA γ b9 n (xTip n f p9 t)])) args s 1 12 A := ⟨_, rfl⟩
  rw [← hQ]
  have hown : s.vm.findClass RX3 = some m.cls := hown
  have hl : lv_has ls 6 [(0, .ref s0), (1, .ref a), (2, .int (nI p9)), (3, .int t)] := hl
  have hap9 : xWr n ((p9 : Int) + 1) < n := xWr_lt (by omega) (by omega) (by omega)
  have hbp9 : xWr n ((p9 : Int) - 1) < n := xWr_lt (by omega) (by omega) (by omega)
  refine lv_aload_n hx hb dX3_tipped_0 rfl (lv_at hl 1 rfl) ?_
  refine va_alen (v := nI n) hx hb hK hP 0 0 rfl rfl rfl dX3_tipped_1 ?_
  refine lv_istore (lv' := [(4, .int (nI n)), (0, .ref s0), (1, .ref a), (2, .int (nI p9)), (3, .int t)]) hx hb dX3_tipped_2 hl (by decide) rfl (fun ls hl => ?_)
  refine lv_aload_n hx hb dX3_tipped_4 rfl (lv_at hl 2 rfl) ?_
  refine x_cloneI hx hb (hml.trans hl.1.symm) hown (hts _ wdX3_tipped_cl1_22) (hts _ wdX3_tipped_cl2) (hts _ wdX3_tipped_cl3) (hts _ wdX3_tipped_cl4) (hts _ wdX3_tipped_cl5) hEx.1 hK hP hD hS hA 0 rfl (Nat.le_of_ble_eq_true rfl) (Nat.le_of_ble_eq_true rfl) (by omega : _ ≤ 1) (by omega : _ ≤ 12) dX3_tipped_5 (fun q5x H hP hD hS => ?_)
  have hP : xP γ ([xA γ a n f, xA γ q5x n f]) H := hP
  have hD : va_D A ([xA γ a n f, xA γ q5x n f]) := hD
  refine x_castI hx hb hown (hts _ wdX3_tipped_n13a) hK hP 1 rfl dX3_tipped_8 ?_
  refine lv_astore (lv' := [(5, .ref q5x), (4, .int (nI n)), (0, .ref s0), (1, .ref a), (2, .int (nI p9)), (3, .int t)]) hx hb dX3_tipped_11 hl (by decide) rfl (fun ls hl => ?_)
  refine lv_aload hx hb dX3_tipped_13 (lv_at hl 0 rfl) ?_
  refine lv_iload_n hx hb dX3_tipped_15 rfl (lv_at hl 4 rfl) ?_
  refine lv_dup2_11 hx hb dX3_tipped_16 rfl rfl ?_
  refine x_iald (f := f) hx hb hK hP 1 rfl p9 rfl (by omega) (by omega) dX3_tipped_17 ?_
  refine lv_iconst (v := 2) hx hb dX3_tipped_18 (by decide) ?_
  refine lv_iload_n hx hb dX3_tipped_19 rfl (lv_at hl 5 rfl) ?_
  refine lv_imul hx hb dX3_tipped_20 ?_
  refine lv_isub hx hb dX3_tipped_21 ?_
  refine x_iast (f := f) hx hb hK hP hD hS 1 rfl p9 rfl (by omega) (by omega) dX3_tipped_22 (fun H locs hP hD hS => ?_)
  rw [show upd f p9 (f p9 - 2 * t) = xAdd f p9 ((-2) * t) from by unfold xAdd; rw [xm2]] at hP hD
  have hP : xP γ ([xA γ a n f, xA γ q5x n (xAdd f p9 ((-2) * t))]) H := hP
  have hD : va_D A ([xA γ a n f, xA γ q5x n (xAdd f p9 ((-2) * t))]) := hD
  refine lv_aload hx hb dX3_tipped_23 (lv_at hl 0 rfl) ?_
  refine lv_iload_n hx hb dX3_tipped_25 rfl (lv_at hl 4 rfl) ?_
  refine lv_iconst (v := 1) hx hb dX3_tipped_26 (by decide) ?_
  refine lv_iadd hx hb dX3_tipped_27 ?_
  refine lv_iload hx hb dX3_tipped_28 (lv_at hl 1 rfl) ?_
  refine lv_irem hx hb dX3_tipped_30 (nI_ne0 (by omega) (by omega)) ?_
  refine x_top (y := nI (xWr n ((p9 : Int) + 1))) (xRe (xaddI (nI_toInt (n := p9) (by omega)) (show (1 : Int32).toInt = 1 from rfl) (by omega) (by omega)) hn0 hn1 (by omega) (by omega)) ?_
  refine lv_dup2_11 hx hb dX3_tipped_31 rfl rfl ?_
  refine x_iald (f := xAdd f p9 ((-2) * t)) hx hb hK hP 1 rfl (xWr n ((p9 : Int) + 1)) rfl (by omega) (by omega) dX3_tipped_32 ?_
  refine lv_iload_n hx hb dX3_tipped_33 rfl (lv_at hl 5 rfl) ?_
  refine lv_iadd hx hb dX3_tipped_34 ?_
  refine x_iast (f := xAdd f p9 ((-2) * t)) hx hb hK hP hD hS 1 rfl (xWr n ((p9 : Int) + 1)) rfl (by omega) (by omega) dX3_tipped_35 (fun H locs hP hD hS => ?_)
  have hP : xP γ ([xA γ a n f, xA γ q5x n (xAdd (xAdd f p9 ((-2) * t)) (xWr n ((p9 : Int) + 1)) t)]) H := hP
  have hD : va_D A ([xA γ a n f, xA γ q5x n (xAdd (xAdd f p9 ((-2) * t)) (xWr n ((p9 : Int) + 1)) t)]) := hD
  refine lv_aload hx hb dX3_tipped_36 (lv_at hl 0 rfl) ?_
  refine lv_iload_n hx hb dX3_tipped_38 rfl (lv_at hl 4 rfl) ?_
  refine lv_iload hx hb dX3_tipped_39 (lv_at hl 1 rfl) ?_
  refine lv_iadd hx hb dX3_tipped_41 ?_
  refine lv_iconst (v := 1) hx hb dX3_tipped_42 (by decide) ?_
  refine lv_isub hx hb dX3_tipped_43 ?_
  refine lv_iload hx hb dX3_tipped_44 (lv_at hl 1 rfl) ?_
  refine lv_irem hx hb dX3_tipped_46 (nI_ne0 (by omega) (by omega)) ?_
  refine x_top (y := nI (xWr n ((p9 : Int) - 1))) ((congrArg (fun y : Int32 => y - y / nI n * nI n) (show nI p9 + nI n - 1 = (nI p9 - 1) + nI n by grind)).trans (xOn (xsubI (nI_toInt (n := p9) (by omega)) (show (1 : Int32).toInt = 1 from rfl) (by omega) (by omega)) hn0 hn1 (by omega) (by omega))) ?_
  refine lv_dup2_11 hx hb dX3_tipped_47 rfl rfl ?_
  refine x_iald (f := xAdd (xAdd f p9 ((-2) * t)) (xWr n ((p9 : Int) + 1)) t) hx hb hK hP 1 rfl (xWr n ((p9 : Int) - 1)) rfl (by omega) (by omega) dX3_tipped_48 ?_
  refine lv_iload_n hx hb dX3_tipped_49 rfl (lv_at hl 5 rfl) ?_
  refine lv_iadd hx hb dX3_tipped_50 ?_
  refine x_iast (f := xAdd (xAdd f p9 ((-2) * t)) (xWr n ((p9 : Int) + 1)) t) hx hb hK hP hD hS 1 rfl (xWr n ((p9 : Int) - 1)) rfl (by omega) (by omega) dX3_tipped_51 (fun H locs hP hD hS => ?_)
  have hP : xP γ ([xA γ a n f, xA γ q5x n (xTip n f p9 t)]) H := hP
  have hD : va_D A ([xA γ a n f, xA γ q5x n (xTip n f p9 t)]) := hD
  refine lv_aload hx hb dX3_tipped_52 (lv_at hl 0 rfl) ?_
  have hP : xP γ ([xA γ a n f] ++ [xA γ q5x n (xTip n f p9 t)]) H := hP
  have hD : va_D A ([xA γ a n f] ++ [xA γ q5x n (xTip n f p9 t)]) := hD
  subst hQ
  exact xC_a (Wa := [xA γ a n f]) (Wb := [xA γ q5x n (xTip n f p9 t)]) hx hb hr (Or.inr ⟨_, rfl⟩) hlocks dX3_tipped_54 hP hD rfl hS (by omega : _ ≤ 1) (by omega : _ ≤ 12) (⟨_, rfl, rfl, rfl⟩)

theorem hdv_X3_bend : yX3_bend.cls = RX3 ∧ yX3_bend.cls ≠ "java/lang/invoke/MethodHandle" ∧ yX3_bend.cls ≠ "java/lang/invoke/VarHandle" ∧ (parseMethodDescriptor yX3_bend.desc).map (fun d => d.parameters.length) = some 2 := by decide +kernel
set_option maxHeartbeats 4000000 in
set_option maxRecDepth 100000 in
theorem c_X3_steep (γ : xG) (l : Launch) (s0 r tq : Nat) (td : Int32) (a n : Nat) (f : xRow) (hn0 : 3 ≤ n) (hn1 : n ≤ 12) : xR γ l yX3_steep wsX3_steep ({ frames := 2, cells := 0, slots := 0, locals := 44 } : Room) [.ref s0, .ref a] ([xO s0 3 [.ref r, .ref tq, .int td], xA γ a n f]) (some (.int (xFi (xSt n f) n))) := by
  refine xR.of (cc := cX3_steep) (maxL := 3) (ret := (some .int)) (by decide +kernel) rfl (Nat.le_of_ble_eq_true rfl) ?_
  intro p e s m below meth c hx hb hr hml hts hown hlocks hP hK ls hl
  generalize hargs : ([.ref s0, .ref a] : List Value).toArray = args at hts ⊢
  obtain ⟨Q, hQ⟩ : ∃ Q9, Q9 = MQ below (xRQ (some (.int (xFi (xSt n f) n)))) args s 0 0 (fun _ => False) := ⟨_, rfl⟩
  rw [← hQ]
  have hown : s.vm.findClass RX3 = some m.cls := hown
  have hl : lv_has ls 3 [(0, .ref s0), (1, .ref a)] := hl
  refine lv_iconst (v := 0) hx hb dX3_steep_0 (by decide) ?_
  refine lv_istore_n (lv' := [(2, .int 0), (0, .ref s0), (1, .ref a)]) hx hb dX3_steep_1 rfl hl (by decide) rfl (fun ls hl => ?_)
  have loop2 : ∀ j : Nat, ∀ (k : Nat), k + j = n → (∀ i, i < k → xSt n f i = false) → ∀ ls : Array Slot, lv_has ls 3 [(0, .ref s0), (1, .ref a), (2, .int (nI k))] → W p l e ({ frames := 2, cells := 0, slots := 0, locals := 44 } : Room) s m args below meth c s.heap [] 0 0 Q (F0 m 2 ls []) := by
    intro j
    induction j with
    | zero =>
      intro k hj hno ls hl
      refine lv_iload_n hx hb dX3_steep_2 rfl (lv_at hl 2 rfl) ?_
      refine lv_aload_n hx hb dX3_steep_3 rfl (lv_at hl 1 rfl) ?_
      refine va_alen (v := nI n) hx hb hK hP 1 0 rfl rfl rfl dX3_steep_4 ?_
      refine lv_icmp_ge (tgt := 26) hx hb dX3_steep_5 (by decide) (fun _ => ?_) (fun c => absurd (nI_le (a := n) (b := k) (by omega) (by omega)) c)
      refine lv_iconst (v := (-1)) hx hb dX3_steep_26 (by decide) ?_
      subst hQ
      exact xR_i hx hb hr hlocks dX3_steep_27 ((xFi_none (fun i hi => hno i (by omega))).symm)
    | succ j ih2 =>
      intro k hj hno ls hl
      refine lv_iload_n hx hb dX3_steep_2 rfl (lv_at hl 2 rfl) ?_
      refine lv_aload_n hx hb dX3_steep_3 rfl (lv_at hl 1 rfl) ?_
      refine va_alen (v := nI n) hx hb hK hP 1 0 rfl rfl rfl dX3_steep_4 ?_
      refine lv_icmp_ge (tgt := 26) hx hb dX3_steep_5 (by decide) (fun c => absurd c (nI_ge (a := k) (b := n) (by omega) (by omega))) (fun _ => ?_)
      refine lv_aload_n hx hb dX3_steep_8 rfl (lv_at hl 0 rfl) ?_
      refine lv_aload_n hx hb dX3_steep_9 rfl (lv_at hl 1 rfl) ?_
      refine lv_iload_n hx hb dX3_steep_10 rfl (lv_at hl 2 rfl) ?_
      refine xVR (q0 := 0) (ci := 3) (As := [.ref a, .int (nI k)]) (rest := []) (stk := [.int (xBn n f k)]) ⟨hx, hb, hml, hown, hts⟩ (c_X3_bend γ l s0 r tq td a n f k (by omega) (by omega) (by omega)) (cwV 2 hts gX3_steep_X3_bend rfl rfl rfl hdv_X3_bend ⟨(Nat.le_of_ble_eq_true rfl), (Nat.le_of_ble_eq_true rfl)⟩) hK hP [0, 1] rfl rfl rfl rfl hl.1 rfl (Nat.le_of_ble_eq_true rfl) dX3_steep_11 ⟨(Nat.le_of_ble_eq_true rfl), (Nat.le_of_ble_eq_true rfl)⟩ rfl ?_
      refine lv_iconst (v := 3) hx hb dX3_steep_14 (by decide) ?_
      refine lv_icmp_le (tgt := 20) hx hb dX3_steep_15 (by decide) (fun c15 => ?_) (fun c15 => ?_)
      · refine lv_iinc (v := nI (k + 1)) (lv' := [(2, .int (nI (k + 1))), (0, .ref s0), (1, .ref a)]) hx hb dX3_steep_20 hl (k := 2) rfl (nI_add k 1) (by decide) rfl (fun ls hl => ?_)
        refine lv_goto (tgt := 2) hx hb dX3_steep_23 (by decide) ?_
        exact ih2 (k + 1) (by omega) (fun i hi => by rcases (show i < k ∨ i = k by omega) with h | h; exact hno i h; (rw [h]; exact xSt_f c15)) ls (lv_sub hl [1, 2, 0] rfl)
      · refine lv_iload_n hx hb dX3_steep_18 rfl (lv_at hl 2 rfl) ?_
        subst hQ
        exact xR_i hx hb hr hlocks dX3_steep_19 ((xFi_some (xSt_t c15) hno (by omega)).symm)
  exact loop2 n 0 (by omega) (fun i h => absurd h (Nat.not_lt_zero i)) ls (lv_sub hl [1, 2, 0] rfl)

theorem wdX3_spread_c31 : Cond.constant RX3 31 (2147483647) ∈ wsX3_spread := by decide +kernel
theorem wdX3_spread_c32 : Cond.constant RX3 32 ((-2147483648)) ∈ wsX3_spread := by decide +kernel
theorem wdX3_spread_m33a : Cond.methodLink RX3 33 Lib.Math.min.name ∈ wsX3_spread := by decide +kernel
theorem wdX3_spread_m33b : Cond.static Lib.Math.min.name ∈ wsX3_spread := by decide +kernel
theorem wdX3_spread_m33c : Cond.initialized "java/lang/Math" ∈ wsX3_spread := by decide +kernel
theorem wdX3_spread_m33d : Cond.code Lib.Math.min.name Lib.Math.min.code 2 (some .int) ∈ wsX3_spread := by decide +kernel
theorem wdX3_spread_m39a : Cond.methodLink RX3 39 Lib.Math.max.name ∈ wsX3_spread := by decide +kernel
theorem wdX3_spread_m39b : Cond.static Lib.Math.max.name ∈ wsX3_spread := by decide +kernel
theorem wdX3_spread_m39c : Cond.initialized "java/lang/Math" ∈ wsX3_spread := by decide +kernel
theorem wdX3_spread_m39d : Cond.code Lib.Math.max.name Lib.Math.max.code 2 (some .int) ∈ wsX3_spread := by decide +kernel
set_option maxHeartbeats 4000000 in
set_option maxRecDepth 100000 in
theorem c_X3_spread (γ : xG) (l : Launch) (a n : Nat) (f : xRow) (hn0 : 3 ≤ n) (hn1 : n ≤ 12) : xR γ l yX3_spread wsX3_spread ({ frames := 1, cells := 0, slots := 0, locals := 15 } : Room) [.ref a] ([xA γ a n f]) (some (.int (xSpn n f))) := by
  refine xR.of (cc := cX3_spread) (maxL := 7) (ret := (some .int)) (by decide +kernel) rfl (Nat.le_of_ble_eq_true rfl) ?_
  intro p e s m below meth c hx hb hr hml hts hown hlocks hP hK ls hl
  generalize hargs : ([.ref a] : List Value).toArray = args at hts ⊢
  obtain ⟨Q, hQ⟩ : ∃ Q9, Q9 = MQ below (xRQ (some (.int (xSpn n f)))) args s 0 0 (fun _ => False) := ⟨_, rfl⟩
  rw [← hQ]
  have hown : s.vm.findClass RX3 = some m.cls := hown
  have hl : lv_has ls 7 [(0, .ref a)] := hl
  refine lv_ldc hx hb hown (hts _ wdX3_spread_c31) dX3_spread_0 ?_
  refine lv_istore_n (lv' := [(1, .int 2147483647), (0, .ref a)]) hx hb dX3_spread_2 rfl hl (by decide) rfl (fun ls hl => ?_)
  refine lv_ldc hx hb hown (hts _ wdX3_spread_c32) dX3_spread_3 ?_
  refine lv_istore_n (lv' := [(2, .int (-2147483648)), (1, .int 2147483647), (0, .ref a)]) hx hb dX3_spread_5 rfl hl (by decide) rfl (fun ls hl => ?_)
  refine lv_aload_n hx hb dX3_spread_6 rfl (lv_at hl 2 rfl) ?_
  refine lv_astore_n (lv' := [(3, .ref a), (2, .int (-2147483648)), (1, .int 2147483647), (0, .ref a)]) hx hb dX3_spread_7 rfl hl (by decide) rfl (fun ls hl => ?_)
  refine lv_aload_n hx hb dX3_spread_8 rfl (lv_at hl 0 rfl) ?_
  refine va_alen (v := nI n) hx hb hK hP 0 0 rfl rfl rfl dX3_spread_9 ?_
  refine lv_istore (lv' := [(4, .int (nI n)), (3, .ref a), (2, .int (-2147483648)), (1, .int 2147483647), (0, .ref a)]) hx hb dX3_spread_10 hl (by decide) rfl (fun ls hl => ?_)
  refine lv_iconst (v := 0) hx hb dX3_spread_12 (by decide) ?_
  refine lv_istore (lv' := [(5, .int 0), (4, .int (nI n)), (3, .ref a), (2, .int (-2147483648)), (1, .int 2147483647), (0, .ref a)]) hx hb dX3_spread_13 hl (by decide) rfl (fun ls hl => ?_)
  have loop15 : ∀ j : Nat, ∀ (k : Nat), k + j = n → ∀ ls : Array Slot, lv_has ls 7 [(1, .int (xMf f k)), (2, .int (xHf f k)), (3, .ref a), (4, .int (nI n)), (5, .int (nI k))] → W p l e ({ frames := 1, cells := 0, slots := 0, locals := 15 } : Room) s m args below meth c s.heap [] 0 0 Q (F0 m 15 ls []) := by
    intro j
    induction j with
    | zero =>
      intro k hj ls hl
      refine lv_iload hx hb dX3_spread_15 (lv_at hl 4 rfl) ?_
      refine lv_iload hx hb dX3_spread_17 (lv_at hl 3 rfl) ?_
      refine lv_icmp_ge (tgt := 48) hx hb dX3_spread_19 (by decide) (fun _ => ?_) (fun c => absurd (nI_le (a := n) (b := k) (by omega) (by omega)) c)
      refine lv_iload_n hx hb dX3_spread_48 rfl (lv_at hl 1 rfl) ?_
      refine lv_iload_n hx hb dX3_spread_49 rfl (lv_at hl 0 rfl) ?_
      refine lv_isub hx hb dX3_spread_50 ?_
      subst hQ
      exact xR_i hx hb hr hlocks dX3_spread_51 (xSpn_at (by omega) hn0)
    | succ j ih15 =>
      intro k hj ls hl
      refine lv_iload hx hb dX3_spread_15 (lv_at hl 4 rfl) ?_
      refine lv_iload hx hb dX3_spread_17 (lv_at hl 3 rfl) ?_
      refine lv_icmp_ge (tgt := 48) hx hb dX3_spread_19 (by decide) (fun c => absurd c (nI_ge (a := k) (b := n) (by omega) (by omega))) (fun _ => ?_)
      refine lv_aload_n hx hb dX3_spread_22 rfl (lv_at hl 2 rfl) ?_
      refine lv_iload hx hb dX3_spread_23 (lv_at hl 4 rfl) ?_
      refine x_iald (f := f) hx hb hK hP 0 rfl k rfl (by omega) (by omega) dX3_spread_25 ?_
      refine lv_istore (lv' := [(6, .int (f k)), (1, .int (xMf f k)), (2, .int (xHf f k)), (3, .ref a), (4, .int (nI n)), (5, .int (nI k))]) hx hb dX3_spread_26 hl (by decide) rfl (fun ls hl => ?_)
      refine lv_iload_n hx hb dX3_spread_28 rfl (lv_at hl 1 rfl) ?_
      refine lv_iload hx hb dX3_spread_29 (lv_at hl 0 rfl) ?_
      refine va_mmin hx hb (hml.trans hl.1.symm) hown (hts _ wdX3_spread_m33a) (hts _ wdX3_spread_m33b) (hts _ wdX3_spread_m33c) (hts _ wdX3_spread_m33d) (Nat.le_of_ble_eq_true rfl) (Nat.le_of_ble_eq_true rfl) (Nat.le_of_ble_eq_true rfl) (Nat.le_of_ble_eq_true rfl) dX3_spread_31 ?_
      refine lv_istore_n (lv' := [(1, .int (if (f k) < (xMf f k) then (f k) else (xMf f k))), (6, .int (f k)), (2, .int (xHf f k)), (3, .ref a), (4, .int (nI n)), (5, .int (nI k))]) hx hb dX3_spread_34 rfl hl (by decide) rfl (fun ls hl => ?_)
      refine lv_iload_n hx hb dX3_spread_35 rfl (lv_at hl 2 rfl) ?_
      refine lv_iload hx hb dX3_spread_36 (lv_at hl 1 rfl) ?_
      refine va_mmax hx hb (hml.trans hl.1.symm) hown (hts _ wdX3_spread_m39a) (hts _ wdX3_spread_m39b) (hts _ wdX3_spread_m39c) (hts _ wdX3_spread_m39d) (Nat.le_of_ble_eq_true rfl) (Nat.le_of_ble_eq_true rfl) (Nat.le_of_ble_eq_true rfl) (Nat.le_of_ble_eq_true rfl) dX3_spread_38 ?_
      refine lv_istore_n (lv' := [(2, .int (if (xHf f k) < (f k) then (f k) else (xHf f k))), (1, .int (if (f k) < (xMf f k) then (f k) else (xMf f k))), (6, .int (f k)), (3, .ref a), (4, .int (nI n)), (5, .int (nI k))]) hx hb dX3_spread_41 rfl hl (by decide) rfl (fun ls hl => ?_)
      refine lv_iinc (v := nI (k + 1)) (lv' := [(5, .int (nI (k + 1))), (2, .int (if (xHf f k) < (f k) then (f k) else (xHf f k))), (1, .int (if (f k) < (xMf f k) then (f k) else (xMf f k))), (6, .int (f k)), (3, .ref a), (4, .int (nI n))]) hx hb dX3_spread_42 hl (k := 5) rfl (nI_add k 1) (by decide) rfl (fun ls hl => ?_)
      refine lv_goto (tgt := 15) hx hb dX3_spread_45 (by decide) ?_
      exact ih15 (k + 1) (by omega) ls (lv_sub hl [2, 1, 4, 5, 0] rfl)
  exact loop15 n 0 (by omega) ls (lv_sub hl [4, 3, 2, 1, 0] rfl)

set_option maxHeartbeats 4000000 in
set_option maxRecDepth 100000 in
theorem c_X3_sum (γ : xG) (l : Launch) (a n : Nat) (f : xRow) (hn0 : 3 ≤ n) (hn1 : n ≤ 12) : xR γ l yX3_sum wsX3_sum ({ frames := 0, cells := 0, slots := 0, locals := 0 } : Room) [.ref a] ([xA γ a n f]) (some (.int (xTot f n))) := by
  refine xR.of (cc := cX3_sum) (maxL := 6) (ret := (some .int)) (by decide +kernel) rfl (Nat.le_of_ble_eq_true rfl) ?_
  intro p e s m below meth c hx hb hr hml hts hown hlocks hP hK ls hl
  generalize hargs : ([.ref a] : List Value).toArray = args at hts ⊢
  obtain ⟨Q, hQ⟩ : ∃ Q9, Q9 = MQ below (xRQ (some (.int (xTot f n)))) args s 0 0 (fun _ => False) := ⟨_, rfl⟩
  rw [← hQ]
  have hown : s.vm.findClass RX3 = some m.cls := hown
  have hl : lv_has ls 6 [(0, .ref a)] := hl
  refine lv_iconst (v := 0) hx hb dX3_sum_0 (by decide) ?_
  refine lv_istore_n (lv' := [(1, .int 0), (0, .ref a)]) hx hb dX3_sum_1 rfl hl (by decide) rfl (fun ls hl => ?_)
  refine lv_aload_n hx hb dX3_sum_2 rfl (lv_at hl 1 rfl) ?_
  refine lv_astore_n (lv' := [(2, .ref a), (1, .int 0), (0, .ref a)]) hx hb dX3_sum_3 rfl hl (by decide) rfl (fun ls hl => ?_)
  refine lv_aload_n hx hb dX3_sum_4 rfl (lv_at hl 0 rfl) ?_
  refine va_alen (v := nI n) hx hb hK hP 0 0 rfl rfl rfl dX3_sum_5 ?_
  refine lv_istore_n (lv' := [(3, .int (nI n)), (2, .ref a), (1, .int 0), (0, .ref a)]) hx hb dX3_sum_6 rfl hl (by decide) rfl (fun ls hl => ?_)
  refine lv_iconst (v := 0) hx hb dX3_sum_7 (by decide) ?_
  refine lv_istore (lv' := [(4, .int 0), (3, .int (nI n)), (2, .ref a), (1, .int 0), (0, .ref a)]) hx hb dX3_sum_8 hl (by decide) rfl (fun ls hl => ?_)
  have loop10 : ∀ j : Nat, ∀ (k : Nat), k + j = n → ∀ ls : Array Slot, lv_has ls 6 [(1, .int (xTot f k)), (2, .ref a), (3, .int (nI n)), (4, .int (nI k))] → W p l e ({ frames := 0, cells := 0, slots := 0, locals := 0 } : Room) s m args below meth c s.heap [] 0 0 Q (F0 m 10 ls []) := by
    intro j
    induction j with
    | zero =>
      intro k hj ls hl
      refine lv_iload hx hb dX3_sum_10 (lv_at hl 3 rfl) ?_
      refine lv_iload_n hx hb dX3_sum_12 rfl (lv_at hl 2 rfl) ?_
      refine lv_icmp_ge (tgt := 33) hx hb dX3_sum_13 (by decide) (fun _ => ?_) (fun c => absurd (nI_le (a := n) (b := k) (by omega) (by omega)) c)
      refine lv_iload_n hx hb dX3_sum_33 rfl (lv_at hl 0 rfl) ?_
      subst hQ
      exact xR_i hx hb hr hlocks dX3_sum_34 (congrArg (xTot f) (show k = n by omega))
    | succ j ih10 =>
      intro k hj ls hl
      refine lv_iload hx hb dX3_sum_10 (lv_at hl 3 rfl) ?_
      refine lv_iload_n hx hb dX3_sum_12 rfl (lv_at hl 2 rfl) ?_
      refine lv_icmp_ge (tgt := 33) hx hb dX3_sum_13 (by decide) (fun c => absurd c (nI_ge (a := k) (b := n) (by omega) (by omega))) (fun _ => ?_)
      refine lv_aload_n hx hb dX3_sum_16 rfl (lv_at hl 1 rfl) ?_
      refine lv_iload hx hb dX3_sum_17 (lv_at hl 3 rfl) ?_
      refine x_iald (f := f) hx hb hK hP 0 rfl k rfl (by omega) (by omega) dX3_sum_19 ?_
      refine lv_istore (lv' := [(5, .int (f k)), (1, .int (xTot f k)), (2, .ref a), (3, .int (nI n)), (4, .int (nI k))]) hx hb dX3_sum_20 hl (by decide) rfl (fun ls hl => ?_)
      refine lv_iload_n hx hb dX3_sum_22 rfl (lv_at hl 1 rfl) ?_
      refine lv_iload hx hb dX3_sum_23 (lv_at hl 0 rfl) ?_
      refine lv_iadd hx hb dX3_sum_25 ?_
      refine lv_istore_n (lv' := [(1, .int ((xTot f k) + (f k))), (5, .int (f k)), (2, .ref a), (3, .int (nI n)), (4, .int (nI k))]) hx hb dX3_sum_26 rfl hl (by decide) rfl (fun ls hl => ?_)
      refine lv_iinc (v := nI (k + 1)) (lv' := [(4, .int (nI (k + 1))), (1, .int ((xTot f k) + (f k))), (5, .int (f k)), (2, .ref a), (3, .int (nI n))]) hx hb dX3_sum_27 hl (k := 4) rfl (nI_add k 1) (by decide) rfl (fun ls hl => ?_)
      refine lv_goto (tgt := 10) hx hb dX3_sum_30 (by decide) ?_
      exact ih10 (k + 1) (by omega) ls (lv_sub hl [1, 3, 4, 0] rfl)
  exact loop10 n 0 (by omega) ls (lv_sub hl [3, 2, 1, 0] rfl)

set_option maxHeartbeats 4000000 in
set_option maxRecDepth 100000 in
theorem c_X3_moment (γ : xG) (l : Launch) (a n : Nat) (f : xRow) (hn0 : 3 ≤ n) (hn1 : n ≤ 12) : xR γ l yX3_moment wsX3_moment ({ frames := 0, cells := 0, slots := 0, locals := 0 } : Room) [.ref a] ([xA γ a n f]) (some (.int (xMm n f))) := by
  refine xR.of (cc := cX3_moment) (maxL := 3) (ret := (some .int)) (by decide +kernel) rfl (Nat.le_of_ble_eq_true rfl) ?_
  intro p e s m below meth c hx hb hr hml hts hown hlocks hP hK ls hl
  generalize hargs : ([.ref a] : List Value).toArray = args at hts ⊢
  obtain ⟨Q, hQ⟩ : ∃ Q9, Q9 = MQ below (xRQ (some (.int (xMm n f)))) args s 0 0 (fun _ => False) := ⟨_, rfl⟩
  rw [← hQ]
  have hown : s.vm.findClass RX3 = some m.cls := hown
  have hl : lv_has ls 3 [(0, .ref a)] := hl
  refine lv_iconst (v := 0) hx hb dX3_moment_0 (by decide) ?_
  refine lv_istore_n (lv' := [(1, .int 0), (0, .ref a)]) hx hb dX3_moment_1 rfl hl (by decide) rfl (fun ls hl => ?_)
  refine lv_iconst (v := 0) hx hb dX3_moment_2 (by decide) ?_
  refine lv_istore_n (lv' := [(2, .int 0), (1, .int 0), (0, .ref a)]) hx hb dX3_moment_3 rfl hl (by decide) rfl (fun ls hl => ?_)
  have loop4 : ∀ j : Nat, ∀ (k : Nat), k + j = n → ∀ ls : Array Slot, lv_has ls 3 [(0, .ref a), (1, .int (xMom f k)), (2, .int (nI k))] → W p l e ({ frames := 0, cells := 0, slots := 0, locals := 0 } : Room) s m args below meth c s.heap [] 0 0 Q (F0 m 4 ls []) := by
    intro j
    induction j with
    | zero =>
      intro k hj ls hl
      refine lv_iload_n hx hb dX3_moment_4 rfl (lv_at hl 2 rfl) ?_
      refine lv_aload_n hx hb dX3_moment_5 rfl (lv_at hl 0 rfl) ?_
      refine va_alen (v := nI n) hx hb hK hP 0 0 rfl rfl rfl dX3_moment_6 ?_
      refine lv_icmp_ge (tgt := 24) hx hb dX3_moment_7 (by decide) (fun _ => ?_) (fun c => absurd (nI_le (a := n) (b := k) (by omega) (by omega)) c)
      refine lv_iload_n hx hb dX3_moment_24 rfl (lv_at hl 1 rfl) ?_
      refine lv_aload_n hx hb dX3_moment_25 rfl (lv_at hl 0 rfl) ?_
      refine va_alen (v := nI n) hx hb hK hP 0 0 rfl rfl rfl dX3_moment_26 ?_
      refine lv_irem hx hb dX3_moment_27 (nI_ne0 (by omega) (by omega)) ?_
      refine lv_aload_n hx hb dX3_moment_28 rfl (lv_at hl 0 rfl) ?_
      refine va_alen (v := nI n) hx hb hK hP 0 0 rfl rfl rfl dX3_moment_29 ?_
      refine lv_iadd hx hb dX3_moment_30 ?_
      refine lv_aload_n hx hb dX3_moment_31 rfl (lv_at hl 0 rfl) ?_
      refine va_alen (v := nI n) hx hb hK hP 0 0 rfl rfl rfl dX3_moment_32 ?_
      refine lv_irem hx hb dX3_moment_33 (nI_ne0 (by omega) (by omega)) ?_
      subst hQ
      exact xR_i hx hb hr hlocks dX3_moment_34 (xMm_at (by omega) hn0 hn1)
    | succ j ih4 =>
      intro k hj ls hl
      refine lv_iload_n hx hb dX3_moment_4 rfl (lv_at hl 2 rfl) ?_
      refine lv_aload_n hx hb dX3_moment_5 rfl (lv_at hl 0 rfl) ?_
      refine va_alen (v := nI n) hx hb hK hP 0 0 rfl rfl rfl dX3_moment_6 ?_
      refine lv_icmp_ge (tgt := 24) hx hb dX3_moment_7 (by decide) (fun c => absurd c (nI_ge (a := k) (b := n) (by omega) (by omega))) (fun _ => ?_)
      refine lv_iload_n hx hb dX3_moment_10 rfl (lv_at hl 1 rfl) ?_
      refine lv_iload_n hx hb dX3_moment_11 rfl (lv_at hl 2 rfl) ?_
      refine lv_aload_n hx hb dX3_moment_12 rfl (lv_at hl 0 rfl) ?_
      refine lv_iload_n hx hb dX3_moment_13 rfl (lv_at hl 2 rfl) ?_
      refine x_iald (f := f) hx hb hK hP 0 rfl k rfl (by omega) (by omega) dX3_moment_14 ?_
      refine lv_imul hx hb dX3_moment_15 ?_
      refine lv_iadd hx hb dX3_moment_16 ?_
      refine x_top (y := xMom f (k + 1)) (xMom_s) ?_
      refine lv_istore_n (lv' := [(1, .int (xMom f (k + 1))), (0, .ref a), (2, .int (nI k))]) hx hb dX3_moment_17 rfl hl (by decide) rfl (fun ls hl => ?_)
      refine lv_iinc (v := nI (k + 1)) (lv' := [(2, .int (nI (k + 1))), (1, .int (xMom f (k + 1))), (0, .ref a)]) hx hb dX3_moment_18 hl (k := 2) rfl (nI_add k 1) (by decide) rfl (fun ls hl => ?_)
      refine lv_goto (tgt := 4) hx hb dX3_moment_21 (by decide) ?_
      exact ih4 (k + 1) (by omega) ls (lv_sub hl [2, 1, 0] rfl)
  exact loop4 n 0 (by omega) ls (lv_sub hl [2, 1, 0] rfl)

theorem flX3_tilt_7 : Cond.fieldLink RX3 7 "RingSeesawLaw$Sim" "ring" "[I" ∈ wsX3_tilt := by decide +kernel
theorem iwX3_tilt_3 : ∀ w ∈ wsX30, w ∈ wsX3_tilt := by decide +kernel
set_option maxHeartbeats 4000000 in
set_option maxRecDepth 100000 in
theorem c_X3_tilt (γ : xG) (l : Launch) (s0 r tq : Nat) (td : Int32) (n : Nat) (f : xRow) (p9 : Nat) (hn0 : 3 ≤ n) (hn1 : n ≤ 12) (hp : p9 < n) : xR γ l yX3_tilt wsX3_tilt ({ frames := 1, cells := 0, slots := 0, locals := 22 } : Room) [.ref s0, .int (nI p9)] ([xO s0 3 [.ref r, .ref tq, .int td], xA γ r n f]) (some (.int (xTlt n f p9))) := by
  refine xR.of (cc := cX3_tilt) (maxL := 4) (ret := (some .int)) (by decide +kernel) rfl (Nat.le_of_ble_eq_true rfl) ?_
  intro p e s m below meth c hx hb hr hml hts hown hlocks hP hK ls hl
  generalize hargs : ([.ref s0, .int (nI p9)] : List Value).toArray = args at hts ⊢
  obtain ⟨Q, hQ⟩ : ∃ Q9, Q9 = MQ below (xRQ (some (.int (xTlt n f p9)))) args s 0 0 (fun _ => False) := ⟨_, rfl⟩
  rw [← hQ]
  have hown : s.vm.findClass RX3 = some m.cls := hown
  have hl : lv_has ls 4 [(0, .ref s0), (1, .int (nI p9))] := hl
  refine lv_iconst (v := 0) hx hb dX3_tilt_0 (by decide) ?_
  refine lv_istore_n (lv' := [(2, .int 0), (0, .ref s0), (1, .int (nI p9))]) hx hb dX3_tilt_1 rfl hl (by decide) rfl (fun ls hl => ?_)
  refine lv_iconst (v := 1) hx hb dX3_tilt_2 (by decide) ?_
  refine lv_istore_n (lv' := [(3, .int 1), (2, .int 0), (0, .ref s0), (1, .int (nI p9))]) hx hb dX3_tilt_3 rfl hl (by decide) rfl (fun ls hl => ?_)
  have loop4 : ∀ j : Nat, ∀ (k : Nat), k + j = (n - 1) / 2 → ∀ ls : Array Slot, lv_has ls 4 [(0, .ref s0), (1, .int (nI p9)), (2, .int (xTl n f p9 k)), (3, .int (nI (k + 1)))] → W p l e ({ frames := 1, cells := 0, slots := 0, locals := 22 } : Room) s m args below meth c s.heap [] 0 0 Q (F0 m 4 ls []) := by
    intro j
    induction j with
    | zero =>
      intro k hj ls hl
      refine lv_iload_n hx hb dX3_tilt_4 rfl (lv_at hl 3 rfl) ?_
      refine lv_aload_n hx hb dX3_tilt_5 rfl (lv_at hl 0 rfl) ?_
      refine va_get (D := γ.1) (ci := 3) (v := .ref r) (C := RX3) (T := TX3) (N := 3) hx hb hts iwX3_tilt_3 hown hK hP 0 rfl rfl 0 (by decide) (hts _ flX3_tilt_7) (fun _ h9 => h9) rfl dX3_tilt_6 ?_
      refine va_alen (v := nI n) hx hb hK hP 1 0 rfl rfl rfl dX3_tilt_9 ?_
      refine lv_iconst (v := 1) hx hb dX3_tilt_10 (by decide) ?_
      refine lv_isub hx hb dX3_tilt_11 ?_
      refine x_top (y := nI (n - 1)) (pk_sub (a := n) (b := 1) (by omega)) ?_
      refine lv_iconst (v := 2) hx hb dX3_tilt_12 (by decide) ?_
      refine lv_idiv hx hb dX3_tilt_13 (by decide) ?_
      refine x_top (y := nI ((n - 1) / 2)) (pk_div (a := n - 1) (d := 2) (by omega) (by omega) (by omega)) ?_
      refine lv_icmp_gt (tgt := 51) hx hb dX3_tilt_14 (by decide) (fun _ => ?_) (fun c => absurd (nI_lt (a := (n - 1) / 2) (b := k + 1) (by omega) (by omega)) c)
      refine lv_iload_n hx hb dX3_tilt_51 rfl (lv_at hl 2 rfl) ?_
      subst hQ
      exact xR_i hx hb hr hlocks dX3_tilt_52 (by rw [show k = (n - 1) / 2 by omega]; rfl)
    | succ j ih4 =>
      intro k hj ls hl
      refine lv_iload_n hx hb dX3_tilt_4 rfl (lv_at hl 3 rfl) ?_
      refine lv_aload_n hx hb dX3_tilt_5 rfl (lv_at hl 0 rfl) ?_
      refine va_get (D := γ.1) (ci := 3) (v := .ref r) (C := RX3) (T := TX3) (N := 3) hx hb hts iwX3_tilt_3 hown hK hP 0 rfl rfl 0 (by decide) (hts _ flX3_tilt_7) (fun _ h9 => h9) rfl dX3_tilt_6 ?_
      refine va_alen (v := nI n) hx hb hK hP 1 0 rfl rfl rfl dX3_tilt_9 ?_
      refine lv_iconst (v := 1) hx hb dX3_tilt_10 (by decide) ?_
      refine lv_isub hx hb dX3_tilt_11 ?_
      refine x_top (y := nI (n - 1)) (pk_sub (a := n) (b := 1) (by omega)) ?_
      refine lv_iconst (v := 2) hx hb dX3_tilt_12 (by decide) ?_
      refine lv_idiv hx hb dX3_tilt_13 (by decide) ?_
      refine x_top (y := nI ((n - 1) / 2)) (pk_div (a := n - 1) (d := 2) (by omega) (by omega) (by omega)) ?_
      refine lv_icmp_gt (tgt := 51) hx hb dX3_tilt_14 (by decide) (fun c => absurd c (nI_nlt (a := (n - 1) / 2) (b := k + 1) (by omega) (by omega))) (fun _ => ?_)
      have hwa : xWr n ((p9 : Int) + ((k + 1 : Nat) : Int)) < n := xWr_lt (by omega) (by omega) (by omega)
      have hwb : xWr n ((p9 : Int) - ((k + 1 : Nat) : Int)) < n := xWr_lt (by omega) (by omega) (by omega)
      refine lv_iload_n hx hb dX3_tilt_17 rfl (lv_at hl 2 rfl) ?_
      refine lv_aload_n hx hb dX3_tilt_18 rfl (lv_at hl 0 rfl) ?_
      refine lv_aload_n hx hb dX3_tilt_19 rfl (lv_at hl 0 rfl) ?_
      refine va_get (D := γ.1) (ci := 3) (v := .ref r) (C := RX3) (T := TX3) (N := 3) hx hb hts iwX3_tilt_3 hown hK hP 0 rfl rfl 0 (by decide) (hts _ flX3_tilt_7) (fun _ h9 => h9) rfl dX3_tilt_20 ?_
      refine lv_iload_n hx hb dX3_tilt_23 rfl (lv_at hl 1 rfl) ?_
      refine lv_iload_n hx hb dX3_tilt_24 rfl (lv_at hl 3 rfl) ?_
      refine lv_iadd hx hb dX3_tilt_25 ?_
      refine x_top (y := nI p9 + nI (k + 1)) (rfl) ?_
      refine xVR (q0 := 0) (ci := 3) (As := [.ref r, .int (nI p9 + nI (k + 1))]) (rest := [.int (xTl n f p9 k)]) (stk := [.int (f (xWr n ((p9 : Int) + ((k + 1 : Nat) : Int)))), .int (xTl n f p9 k)]) ⟨hx, hb, hml, hown, hts⟩ (c_X3_at γ l s0 r n f (nI p9 + nI (k + 1)) ((p9 : Int) + ((k + 1 : Nat) : Int)) (xaddI (nI_toInt (n := p9) (by omega)) (nI_toInt (n := k + 1) (by omega)) (by omega) (by omega)) (by omega) (by omega) (by omega) (by omega)) (cwV 2 hts gX3_tilt_X3_at rfl rfl rfl hdv_X3_at ⟨(Nat.le_of_ble_eq_true rfl), (Nat.le_of_ble_eq_true rfl)⟩) hK hP [1] rfl rfl rfl rfl hl.1 rfl (Nat.le_of_ble_eq_true rfl) dX3_tilt_26 ⟨(Nat.le_of_ble_eq_true rfl), (Nat.le_of_ble_eq_true rfl)⟩ rfl ?_
      refine lv_aload_n hx hb dX3_tilt_29 rfl (lv_at hl 0 rfl) ?_
      refine lv_aload_n hx hb dX3_tilt_30 rfl (lv_at hl 0 rfl) ?_
      refine va_get (D := γ.1) (ci := 3) (v := .ref r) (C := RX3) (T := TX3) (N := 3) hx hb hts iwX3_tilt_3 hown hK hP 0 rfl rfl 0 (by decide) (hts _ flX3_tilt_7) (fun _ h9 => h9) rfl dX3_tilt_31 ?_
      refine lv_iload_n hx hb dX3_tilt_34 rfl (lv_at hl 1 rfl) ?_
      refine lv_iload_n hx hb dX3_tilt_35 rfl (lv_at hl 3 rfl) ?_
      refine lv_isub hx hb dX3_tilt_36 ?_
      refine x_top (y := nI p9 - nI (k + 1)) (rfl) ?_
      refine xVR (q0 := 0) (ci := 3) (As := [.ref r, .int (nI p9 - nI (k + 1))]) (rest := [.int (f (xWr n ((p9 : Int) + ((k + 1 : Nat) : Int)))), .int (xTl n f p9 k)]) (stk := [.int (f (xWr n ((p9 : Int) - ((k + 1 : Nat) : Int)))), .int (f (xWr n ((p9 : Int) + ((k + 1 : Nat) : Int)))), .int (xTl n f p9 k)]) ⟨hx, hb, hml, hown, hts⟩ (c_X3_at γ l s0 r n f (nI p9 - nI (k + 1)) ((p9 : Int) - ((k + 1 : Nat) : Int)) (xsubI (nI_toInt (n := p9) (by omega)) (nI_toInt (n := k + 1) (by omega)) (by omega) (by omega)) (by omega) (by omega) (by omega) (by omega)) (cwV 2 hts gX3_tilt_X3_at rfl rfl rfl hdv_X3_at ⟨(Nat.le_of_ble_eq_true rfl), (Nat.le_of_ble_eq_true rfl)⟩) hK hP [1] rfl rfl rfl rfl hl.1 rfl (Nat.le_of_ble_eq_true rfl) dX3_tilt_37 ⟨(Nat.le_of_ble_eq_true rfl), (Nat.le_of_ble_eq_true rfl)⟩ rfl ?_
      refine lv_isub hx hb dX3_tilt_40 ?_
      refine lv_iload_n hx hb dX3_tilt_41 rfl (lv_at hl 3 rfl) ?_
      refine lv_imul hx hb dX3_tilt_42 ?_
      refine lv_iadd hx hb dX3_tilt_43 ?_
      refine lv_istore_n (lv' := [(2, .int ((xTl n f p9 k) + (((f (xWr n ((p9 : Int) + ((k + 1 : Nat) : Int)))) - (f (xWr n ((p9 : Int) - ((k + 1 : Nat) : Int))))) * (nI (k + 1))))), (0, .ref s0), (1, .int (nI p9)), (3, .int (nI (k + 1)))]) hx hb dX3_tilt_44 rfl hl (by decide) rfl (fun ls hl => ?_)
      refine lv_iinc (v := nI (k + 1 + 1)) (lv' := [(3, .int (nI (k + 1 + 1))), (2, .int ((xTl n f p9 k) + (((f (xWr n ((p9 : Int) + ((k + 1 : Nat) : Int)))) - (f (xWr n ((p9 : Int) - ((k + 1 : Nat) : Int))))) * (nI (k + 1))))), (0, .ref s0), (1, .int (nI p9))]) hx hb dX3_tilt_45 hl (k := 3) rfl (nI_add (k + 1) 1) (by decide) rfl (fun ls hl => ?_)
      refine lv_goto (tgt := 4) hx hb dX3_tilt_48 (by decide) ?_
      exact ih4 (k + 1) (by omega) ls (lv_sub hl [2, 3, 1, 0] rfl)
  exact loop4 ((n - 1) / 2) 0 (by omega) ls (lv_sub hl [2, 3, 1, 0] rfl)

theorem hds_X3_sum : yX3_sum.cls ≠ "java/lang/invoke/MethodHandle" ∧ yX3_sum.cls ≠ "java/lang/invoke/VarHandle" ∧ (parseMethodDescriptor yX3_sum.desc).map (fun d => d.parameters.length) = some 1 := by decide +kernel
theorem hds_X3_moment : yX3_moment.cls ≠ "java/lang/invoke/MethodHandle" ∧ yX3_moment.cls ≠ "java/lang/invoke/VarHandle" ∧ (parseMethodDescriptor yX3_moment.desc).map (fun d => d.parameters.length) = some 1 := by decide +kernel
theorem flX3_can_14 : Cond.fieldLink RX3 14 "RingSeesawLaw$Sim" "targets" "[[I" ∈ wsX3_can := by decide +kernel
theorem iwX3_can_3 : ∀ w ∈ wsX30, w ∈ wsX3_can := by decide +kernel
set_option maxHeartbeats 4000000 in
set_option maxRecDepth 100000 in
theorem c_X3_can (γ : xG) (l : Launch) (s0 r tq : Nat) (td : Int32) (a n : Nat) (f : xRow) (ta : Nat → Nat) (kc k : Nat) (g : xRow) (hn0 : 3 ≤ n) (hn1 : n ≤ 12) (hk : k < kc) (hkc : kc ≤ 6) : xR γ l yX3_can wsX3_can ({ frames := 1, cells := 0, slots := 0, locals := 25 } : Room) [.ref s0, .ref a, .int (nI k)] ([xA γ (ta k) n g, xO s0 3 [.ref r, .ref tq, .int td], xT γ tq kc (fun t9 => some (ta t9)), xA γ a n f]) (some (.int (if xCB n f g = true then 1 else 0))) := by
  refine xR.of (cc := cX3_can) (maxL := 3) (ret := (some .boolean)) (by decide +kernel) rfl (Nat.le_of_ble_eq_true rfl) ?_
  intro p e s m below meth c hx hb hr hml hts hown hlocks hP hK ls hl
  generalize hargs : ([.ref s0, .ref a, .int (nI k)] : List Value).toArray = args at hts ⊢
  obtain ⟨Q, hQ⟩ : ∃ Q9, Q9 = MQ below (xRQ (some (.int (if xCB n f g = true then 1 else 0)))) args s 0 0 (fun _ => False) := ⟨_, rfl⟩
  rw [← hQ]
  have hown : s.vm.findClass RX3 = some m.cls := hown
  have hl : lv_has ls 3 [(0, .ref s0), (1, .ref a), (2, .int (nI k))] := hl
  refine lv_aload_n hx hb dX3_can_0 rfl (lv_at hl 1 rfl) ?_
  refine xSR (As := [.ref a]) (rest := []) (stk := [.int (xTot f n)]) ⟨hx, hb, hml, hown, hts⟩ (c_X3_sum γ l a n f (by omega) (by omega)) (va_cwS 1 hts gX3_can_X3_sum rfl rfl rfl hds_X3_sum ⟨(Nat.le_of_ble_eq_true rfl), (Nat.le_of_ble_eq_true rfl)⟩) hK hP [3] rfl rfl hl.1 rfl (Nat.le_of_ble_eq_true rfl) dX3_can_1 ⟨(Nat.le_of_ble_eq_true rfl), (Nat.le_of_ble_eq_true rfl)⟩ rfl ?_
  refine lv_aload_n hx hb dX3_can_4 rfl (lv_at hl 0 rfl) ?_
  refine va_get (D := γ.1) (ci := 3) (v := .ref tq) (C := RX3) (T := TX3) (N := 3) hx hb hts iwX3_can_3 hown hK hP 1 rfl rfl 1 (by decide) (hts _ flX3_can_14) (fun _ h9 => h9) rfl dX3_can_5 ?_
  refine lv_iload_n hx hb dX3_can_8 rfl (lv_at hl 2 rfl) ?_
  refine x_tald (f := fun t9 => some (ta t9)) (v := ta k) hx hb hK hP 2 rfl k rfl (by omega) (by omega) (rfl) dX3_can_9 ?_
  refine xSR (As := [.ref (ta k)]) (rest := [.int (xTot f n)]) (stk := [.int (xTot g n), .int (xTot f n)]) ⟨hx, hb, hml, hown, hts⟩ (c_X3_sum γ l (ta k) n g (by omega) (by omega)) (va_cwS 1 hts gX3_can_X3_sum rfl rfl rfl hds_X3_sum ⟨(Nat.le_of_ble_eq_true rfl), (Nat.le_of_ble_eq_true rfl)⟩) hK hP [0] rfl rfl hl.1 rfl (Nat.le_of_ble_eq_true rfl) dX3_can_10 ⟨(Nat.le_of_ble_eq_true rfl), (Nat.le_of_ble_eq_true rfl)⟩ rfl ?_
  refine lv_icmp_ne (tgt := 36) hx hb dX3_can_13 (by decide) (fun c8 => ?_) (fun c8 => ?_)
  · refine lv_iconst (v := 0) hx hb dX3_can_36 (by decide) ?_
    subst hQ
    exact xR_z hx hb hr hlocks dX3_can_37 (Or.inl rfl) (xB_0 (xCB_0 c8))
  · refine lv_aload_n hx hb dX3_can_16 rfl (lv_at hl 1 rfl) ?_
    refine xSR (As := [.ref a]) (rest := []) (stk := [.int (xMm n f)]) ⟨hx, hb, hml, hown, hts⟩ (c_X3_moment γ l a n f (by omega) (by omega)) (va_cwS 1 hts gX3_can_X3_moment rfl rfl rfl hds_X3_moment ⟨(Nat.le_of_ble_eq_true rfl), (Nat.le_of_ble_eq_true rfl)⟩) hK hP [3] rfl rfl hl.1 rfl (Nat.le_of_ble_eq_true rfl) dX3_can_17 ⟨(Nat.le_of_ble_eq_true rfl), (Nat.le_of_ble_eq_true rfl)⟩ rfl ?_
    refine lv_aload_n hx hb dX3_can_20 rfl (lv_at hl 0 rfl) ?_
    refine va_get (D := γ.1) (ci := 3) (v := .ref tq) (C := RX3) (T := TX3) (N := 3) hx hb hts iwX3_can_3 hown hK hP 1 rfl rfl 1 (by decide) (hts _ flX3_can_14) (fun _ h9 => h9) rfl dX3_can_21 ?_
    refine lv_iload_n hx hb dX3_can_24 rfl (lv_at hl 2 rfl) ?_
    refine x_tald (f := fun t9 => some (ta t9)) (v := ta k) hx hb hK hP 2 rfl k rfl (by omega) (by omega) (rfl) dX3_can_25 ?_
    refine xSR (As := [.ref (ta k)]) (rest := [.int (xMm n f)]) (stk := [.int (xMm n g), .int (xMm n f)]) ⟨hx, hb, hml, hown, hts⟩ (c_X3_moment γ l (ta k) n g (by omega) (by omega)) (va_cwS 1 hts gX3_can_X3_moment rfl rfl rfl hds_X3_moment ⟨(Nat.le_of_ble_eq_true rfl), (Nat.le_of_ble_eq_true rfl)⟩) hK hP [0] rfl rfl hl.1 rfl (Nat.le_of_ble_eq_true rfl) dX3_can_26 ⟨(Nat.le_of_ble_eq_true rfl), (Nat.le_of_ble_eq_true rfl)⟩ rfl ?_
    refine lv_icmp_ne (tgt := 36) hx hb dX3_can_29 (by decide) (fun c19 => ?_) (fun c19 => ?_)
    · refine lv_iconst (v := 0) hx hb dX3_can_36 (by decide) ?_
      subst hQ
      exact xR_z hx hb hr hlocks dX3_can_37 (Or.inl rfl) (xB_0 (xCB_1 c19))
    · refine lv_iconst (v := 1) hx hb dX3_can_32 (by decide) ?_
      refine lv_goto (tgt := 37) hx hb dX3_can_33 (by decide) ?_
      subst hQ
      exact xR_z hx hb hr hlocks dX3_can_37 (Or.inr rfl) (xB_1 (xCB_2 c8 c19))

theorem flX3_tipsTo_7 : Cond.fieldLink RX3 7 "RingSeesawLaw$Sim" "ring" "[I" ∈ wsX3_tipsTo := by decide +kernel
theorem iwX3_tipsTo_3 : ∀ w ∈ wsX30, w ∈ wsX3_tipsTo := by decide +kernel
theorem wdX3_tipsTo_naint : Cond.arrayClass .int ∈ wsX3_tipsTo := by decide +kernel
theorem flX3_tipsTo_14 : Cond.fieldLink RX3 14 "RingSeesawLaw$Sim" "targets" "[[I" ∈ wsX3_tipsTo := by decide +kernel
set_option maxHeartbeats 4000000 in
set_option maxRecDepth 100000 in
theorem c_X3_tipsTo (γ : xG) (l : Launch) (s0 r tq : Nat) (td : Int32) (n : Nat) (f : xRow) (ta : Nat → Nat) (kc k : Nat) (g : xRow) (hn0 : 3 ≤ n) (hn1 : n ≤ 12) (hk : k < kc) (hkc : kc ≤ 6) : xC γ l yX3_tipsTo wsX3_tipsTo ({ frames := 0, cells := 2, slots := 24, locals := 0 } : Room) [.ref s0, .int (nI k)] (fun _ => True) ([xA γ (ta k) n g, xO s0 3 [.ref r, .ref tq, .int td], xA γ r n f, xT γ tq kc (fun t9 => some (ta t9))]) (fun r9 w9 v9 => ∃ (b9 : Nat) (h9 : xRow), r9 = some (.ref b9) ∧ (∀ i, i < n → h9 i = xHt n f g i) ∧ w9 = [xA γ (ta k) n g, xO s0 3 [.ref r, .ref tq, .int td], xA γ r n f, xT γ tq kc (fun t9 => some (ta t9))] ∧ v9 = [xA γ b9 n h9]) 2 24 := by
  refine xC.of (cc := cX3_tipsTo) (maxL := 7) (ret := (some (.array .int))) (by decide +kernel) rfl (Nat.le_of_ble_eq_true rfl) ?_
  intro p e s m below meth c hx hb hr hml hts hown hlocks hin hP hK hEx A hA hAw hD ls hl
  have hS : va_S A s.heap s.heap [] := va_S.rf
  generalize hargs : ([.ref s0, .int (nI k)] : List Value).toArray = args at hts ⊢
  obtain ⟨Q, hQ⟩ : ∃ Q9, Q9 = MQ below (xCQ γ ([xA γ (ta k) n g, xO s0 3 [.ref r, .ref tq, .int td], xA γ r n f, xT γ tq kc (fun t9 => some (ta t9))]).length A (fun r9 w9 v9 => ∃ (b9 : Nat) (h9 : xRow), r9 = some (.ref b9) ∧ (∀ i, i < n → h9 i = xHt n f g i) ∧ w9 = [xA γ (ta k) n g, xO s0 3 [.ref r, .ref tq, .int td], xA γ r n f, xT γ tq kc (fun t9 => some (ta t9))] ∧ v9 = [xA γ b9 n h9])) args s 2 24 A := ⟨_, rfl⟩
  rw [← hQ]
  have hown : s.vm.findClass RX3 = some m.cls := hown
  have hl : lv_has ls 7 [(0, .ref s0), (1, .int (nI k))] := hl
  refine lv_aload_n hx hb dX3_tipsTo_0 rfl (lv_at hl 0 rfl) ?_
  refine va_get (D := γ.1) (ci := 3) (v := .ref r) (C := RX3) (T := TX3) (N := 3) hx hb hts iwX3_tipsTo_3 hown hK hP 1 rfl rfl 0 (by decide) (hts _ flX3_tipsTo_7) (fun _ h9 => h9) rfl dX3_tipsTo_1 ?_
  refine va_alen (v := nI n) hx hb hK hP 2 0 rfl rfl rfl dX3_tipsTo_4 ?_
  refine lv_istore_n (lv' := [(2, .int (nI n)), (0, .ref s0), (1, .int (nI k))]) hx hb dX3_tipsTo_5 rfl hl (by decide) rfl (fun ls hl => ?_)
  refine lv_iload_n hx hb dX3_tipsTo_6 rfl (lv_at hl 0 rfl) ?_
  refine x_newI hx hb (hts _ wdX3_tipsTo_naint) hK hP hD hS hA n (nI_pos (by omega)) (nI_clamp (by omega)) (show n * 4 ≤ 536870912 by omega) (by omega : _ ≤ 2) (by omega : _ ≤ 24) dX3_tipsTo_7 (fun q7x H hP hD hS => ?_)
  have hP : xP γ ([xA γ (ta k) n g, xO s0 3 [.ref r, .ref tq, .int td], xA γ r n f, xT γ tq kc (fun t9 => some (ta t9)), xA γ q7x n (fun _ => 0)]) H := hP
  have hD : va_D A ([xA γ (ta k) n g, xO s0 3 [.ref r, .ref tq, .int td], xA γ r n f, xT γ tq kc (fun t9 => some (ta t9)), xA γ q7x n (fun _ => 0)]) := hD
  refine lv_astore_n (lv' := [(3, .ref q7x), (2, .int (nI n)), (0, .ref s0), (1, .int (nI k))]) hx hb dX3_tipsTo_9 rfl hl (by decide) rfl (fun ls hl => ?_)
  refine lv_iconst (v := 0) hx hb dX3_tipsTo_10 (by decide) ?_
  refine lv_istore (lv' := [(4, .int 0), (3, .ref q7x), (2, .int (nI n)), (0, .ref s0), (1, .int (nI k))]) hx hb dX3_tipsTo_11 hl (by decide) rfl (fun ls hl => ?_)
  refine lv_iconst (v := 1) hx hb dX3_tipsTo_13 (by decide) ?_
  refine lv_istore (lv' := [(5, .int 1), (4, .int 0), (3, .ref q7x), (2, .int (nI n)), (0, .ref s0), (1, .int (nI k))]) hx hb dX3_tipsTo_14 hl (by decide) rfl (fun ls hl => ?_)
  have loop16 : ∀ j : Nat, ∀ (i9 : Nat) (u : xRow), i9 + 1 + j = n → (∀ i, i ≤ i9 → u i = xLs f g i) → ∀ (H : Heap) (locs : List Loc), xP γ ([xA γ (ta k) n g, xO s0 3 [.ref r, .ref tq, .int td], xA γ r n f, xT γ tq kc (fun t9 => some (ta t9)), xA γ q7x n u]) H → va_D A ([xA γ (ta k) n g, xO s0 3 [.ref r, .ref tq, .int td], xA γ r n f, xT γ tq kc (fun t9 => some (ta t9)), xA γ q7x n u]) → va_S A s.heap H locs → ∀ ls : Array Slot, lv_has ls 7 [(0, .ref s0), (1, .int (nI k)), (2, .int (nI n)), (3, .ref q7x), (4, .int (xAl f g i9)), (5, .int (nI (i9 + 1)))] → W p l e ({ frames := 0, cells := 2, slots := 24, locals := 0 } : Room) s m args below meth c H locs (0 + 1) (0 + n) Q (F0 m 16 ls []) := by
    intro j
    induction j with
    | zero =>
      intro i9 u hj hu H locs hP hD hS ls hl
      refine lv_iload hx hb dX3_tipsTo_16 (lv_at hl 5 rfl) ?_
      refine lv_iload_n hx hb dX3_tipsTo_18 rfl (lv_at hl 2 rfl) ?_
      refine lv_icmp_ge (tgt := 65) hx hb dX3_tipsTo_19 (by decide) (fun _ => ?_) (fun c => absurd (nI_le (a := n) (b := i9 + 1) (by omega) (by omega)) c)
      have hi9 : i9 = n - 1 := by omega
      rw [hi9] at hl
      refine lv_iload_n hx hb dX3_tipsTo_65 rfl (lv_at hl 2 rfl) ?_
      refine x_newI hx hb (hts _ wdX3_tipsTo_naint) hK hP hD hS hA n (nI_pos (by omega)) (nI_clamp (by omega)) (show n * 4 ≤ 536870912 by omega) (by omega : _ ≤ 2) (by omega : _ ≤ 24) dX3_tipsTo_66 (fun q66x H hP hD hS => ?_)
      have hP : xP γ ([xA γ (ta k) n g, xO s0 3 [.ref r, .ref tq, .int td], xA γ r n f, xT γ tq kc (fun t9 => some (ta t9)), xA γ q7x n u, xA γ q66x n (fun _ => 0)]) H := hP
      have hD : va_D A ([xA γ (ta k) n g, xO s0 3 [.ref r, .ref tq, .int td], xA γ r n f, xT γ tq kc (fun t9 => some (ta t9)), xA γ q7x n u, xA γ q66x n (fun _ => 0)]) := hD
      refine lv_astore (lv' := [(5, .ref q66x), (0, .ref s0), (1, .int (nI k)), (2, .int (nI n)), (3, .ref q7x), (4, .int (xAl f g (n - 1)))]) hx hb dX3_tipsTo_68 hl (by decide) rfl (fun ls hl => ?_)
      refine lv_iconst (v := 1) hx hb dX3_tipsTo_70 (by decide) ?_
      refine lv_istore (lv' := [(6, .int 1), (5, .ref q66x), (0, .ref s0), (1, .int (nI k)), (2, .int (nI n)), (3, .ref q7x), (4, .int (xAl f g (n - 1)))]) hx hb dX3_tipsTo_71 hl (by decide) rfl (fun ls hl => ?_)
      have loop73 : ∀ j : Nat, ∀ (i9 : Nat) (v : xRow), i9 + 1 + j = n → (∀ i, i ≤ i9 → v i = xMd n f g i) → ∀ (H : Heap) (locs : List Loc), xP γ ([xA γ (ta k) n g, xO s0 3 [.ref r, .ref tq, .int td], xA γ r n f, xT γ tq kc (fun t9 => some (ta t9)), xA γ q7x n u, xA γ q66x n v]) H → va_D A ([xA γ (ta k) n g, xO s0 3 [.ref r, .ref tq, .int td], xA γ r n f, xT γ tq kc (fun t9 => some (ta t9)), xA γ q7x n u, xA γ q66x n v]) → va_S A s.heap H locs → ∀ ls : Array Slot, lv_has ls 7 [(2, .int (nI n)), (3, .ref q7x), (4, .int (xAl f g (n - 1))), (5, .ref q66x), (6, .int (nI (i9 + 1)))] → W p l e ({ frames := 0, cells := 2, slots := 24, locals := 0 } : Room) s m args below meth c H locs ((0 + 1) + 1) ((0 + n) + n) Q (F0 m 73 ls []) := by
        intro j
        induction j with
        | zero =>
          intro i9 v hj hv H locs hP hD hS ls hl
          refine lv_iload hx hb dX3_tipsTo_73 (lv_at hl 4 rfl) ?_
          refine lv_iload_n hx hb dX3_tipsTo_75 rfl (lv_at hl 0 rfl) ?_
          refine lv_icmp_ge (tgt := 109) hx hb dX3_tipsTo_76 (by decide) (fun _ => ?_) (fun c => absurd (nI_le (a := n) (b := i9 + 1) (by omega) (by omega)) c)
          refine lv_aload hx hb dX3_tipsTo_109 (lv_at hl 3 rfl) ?_
          have hP := hP.sub (ws' := [xA γ (ta k) n g, xO s0 3 [.ref r, .ref tq, .int td], xA γ r n f, xT γ tq kc (fun t9 => some (ta t9)), xA γ q66x n v]) [0, 1, 2, 3, 5] rfl
          have hD := hD.sub (ws' := [xA γ (ta k) n g, xO s0 3 [.ref r, .ref tq, .int td], xA γ r n f, xT γ tq kc (fun t9 => some (ta t9)), xA γ q66x n v]) [0, 1, 2, 3, 5] (by decide) rfl
          have hP : xP γ ([xA γ (ta k) n g, xO s0 3 [.ref r, .ref tq, .int td], xA γ r n f, xT γ tq kc (fun t9 => some (ta t9))] ++ [xA γ q66x n v]) H := hP
          have hD : va_D A ([xA γ (ta k) n g, xO s0 3 [.ref r, .ref tq, .int td], xA γ r n f, xT γ tq kc (fun t9 => some (ta t9))] ++ [xA γ q66x n v]) := hD
          subst hQ
          exact xC_a (Wa := [xA γ (ta k) n g, xO s0 3 [.ref r, .ref tq, .int td], xA γ r n f, xT γ tq kc (fun t9 => some (ta t9))]) (Wb := [xA γ q66x n v]) hx hb hr (Or.inr ⟨_, rfl⟩) hlocks dX3_tipsTo_111 hP hD rfl hS (by omega : _ ≤ 2) (by omega : _ ≤ 24) (⟨_, _, rfl, fun i hi => (hv i (by omega)).trans (xMd_ht hn0 i), rfl, rfl⟩)
        | succ j ih73 =>
          intro i9 v hj hv H locs hP hD hS ls hl
          refine lv_iload hx hb dX3_tipsTo_73 (lv_at hl 4 rfl) ?_
          refine lv_iload_n hx hb dX3_tipsTo_75 rfl (lv_at hl 0 rfl) ?_
          refine lv_icmp_ge (tgt := 109) hx hb dX3_tipsTo_76 (by decide) (fun c => absurd c (nI_ge (a := i9 + 1) (b := n) (by omega) (by omega))) (fun _ => ?_)
          refine lv_aload hx hb dX3_tipsTo_79 (lv_at hl 3 rfl) ?_
          refine lv_iload hx hb dX3_tipsTo_81 (lv_at hl 4 rfl) ?_
          refine lv_aload hx hb dX3_tipsTo_83 (lv_at hl 3 rfl) ?_
          refine lv_iload hx hb dX3_tipsTo_85 (lv_at hl 4 rfl) ?_
          refine lv_iconst (v := 1) hx hb dX3_tipsTo_87 (by decide) ?_
          refine lv_isub hx hb dX3_tipsTo_88 ?_
          refine x_top (y := nI i9) (nI_pred i9) ?_
          refine x_iald (f := v) hx hb hK hP 5 rfl i9 rfl (by omega) (by omega) dX3_tipsTo_89 ?_
          refine lv_iload hx hb dX3_tipsTo_90 (lv_at hl 2 rfl) ?_
          refine lv_iload_n hx hb dX3_tipsTo_92 rfl (lv_at hl 0 rfl) ?_
          refine lv_idiv hx hb dX3_tipsTo_93 (nI_ne0 (by omega) (by omega)) ?_
          refine lv_iadd hx hb dX3_tipsTo_94 ?_
          refine lv_aload_n hx hb dX3_tipsTo_95 rfl (lv_at hl 1 rfl) ?_
          refine lv_iload hx hb dX3_tipsTo_96 (lv_at hl 4 rfl) ?_
          refine lv_iconst (v := 1) hx hb dX3_tipsTo_98 (by decide) ?_
          refine lv_isub hx hb dX3_tipsTo_99 ?_
          refine x_top (y := nI i9) (nI_pred i9) ?_
          refine x_iald (f := u) hx hb hK hP 4 rfl i9 rfl (by omega) (by omega) dX3_tipsTo_100 ?_
          refine lv_isub hx hb dX3_tipsTo_101 ?_
          refine x_iast (f := v) hx hb hK hP hD hS 5 rfl (i9 + 1) rfl (by omega) (by omega) dX3_tipsTo_102 (fun H locs hP hD hS => ?_)
          have hP : xP γ ([xA γ (ta k) n g, xO s0 3 [.ref r, .ref tq, .int td], xA γ r n f, xT γ tq kc (fun t9 => some (ta t9)), xA γ q7x n u, xA γ q66x n (upd v (i9 + 1) (((v i9) + ((xAl f g (n - 1)) / (nI n))) - (u i9)))]) H := hP
          have hD : va_D A ([xA γ (ta k) n g, xO s0 3 [.ref r, .ref tq, .int td], xA γ r n f, xT γ tq kc (fun t9 => some (ta t9)), xA γ q7x n u, xA γ q66x n (upd v (i9 + 1) (((v i9) + ((xAl f g (n - 1)) / (nI n))) - (u i9)))]) := hD
          refine lv_iinc (v := nI (i9 + 1 + 1)) (lv' := [(6, .int (nI (i9 + 1 + 1))), (2, .int (nI n)), (3, .ref q7x), (4, .int (xAl f g (n - 1))), (5, .ref q66x)]) hx hb dX3_tipsTo_103 hl (k := 4) rfl (nI_add (i9 + 1) 1) (by decide) rfl (fun ls hl => ?_)
          refine lv_goto (tgt := 73) hx hb dX3_tipsTo_106 (by decide) ?_
          exact ih73 (i9 + 1) (upd v (i9 + 1) (((v i9) + ((xAl f g (n - 1)) / (nI n))) - (u i9))) (by omega) (fun i hi => by unfold upd; split; (rename_i e; rw [e, hv i9 (Nat.le_refl _), hu i9 (by omega)]; rfl); exact hv i (by omega)) _ _ hP hD hS ls (lv_sub hl [1, 2, 3, 4, 0] rfl)
      exact loop73 (n - 1) 0 (fun _ => 0) (by omega) (fun i hi => by rw [show i = 0 by omega]; rfl) _ _ hP hD hS ls (lv_sub hl [4, 5, 6, 1, 0] rfl)
    | succ j ih16 =>
      intro i9 u hj hu H locs hP hD hS ls hl
      refine lv_iload hx hb dX3_tipsTo_16 (lv_at hl 5 rfl) ?_
      refine lv_iload_n hx hb dX3_tipsTo_18 rfl (lv_at hl 2 rfl) ?_
      refine lv_icmp_ge (tgt := 65) hx hb dX3_tipsTo_19 (by decide) (fun c => absurd c (nI_ge (a := i9 + 1) (b := n) (by omega) (by omega))) (fun _ => ?_)
      refine lv_aload_n hx hb dX3_tipsTo_22 rfl (lv_at hl 3 rfl) ?_
      refine lv_iload hx hb dX3_tipsTo_23 (lv_at hl 5 rfl) ?_
      refine lv_aload_n hx hb dX3_tipsTo_25 rfl (lv_at hl 3 rfl) ?_
      refine lv_iload hx hb dX3_tipsTo_26 (lv_at hl 5 rfl) ?_
      refine lv_iconst (v := 1) hx hb dX3_tipsTo_28 (by decide) ?_
      refine lv_isub hx hb dX3_tipsTo_29 ?_
      refine x_top (y := nI i9) (nI_pred i9) ?_
      refine x_iald (f := u) hx hb hK hP 4 rfl i9 rfl (by omega) (by omega) dX3_tipsTo_30 ?_
      refine lv_aload_n hx hb dX3_tipsTo_31 rfl (lv_at hl 0 rfl) ?_
      refine va_get (D := γ.1) (ci := 3) (v := .ref r) (C := RX3) (T := TX3) (N := 3) hx hb hts iwX3_tipsTo_3 hown hK hP 1 rfl rfl 0 (by decide) (hts _ flX3_tipsTo_7) (fun _ h9 => h9) rfl dX3_tipsTo_32 ?_
      refine lv_iload hx hb dX3_tipsTo_35 (lv_at hl 5 rfl) ?_
      refine x_iald (f := f) hx hb hK hP 2 rfl (i9 + 1) rfl (by omega) (by omega) dX3_tipsTo_37 ?_
      refine lv_iadd hx hb dX3_tipsTo_38 ?_
      refine lv_aload_n hx hb dX3_tipsTo_39 rfl (lv_at hl 0 rfl) ?_
      refine va_get (D := γ.1) (ci := 3) (v := .ref tq) (C := RX3) (T := TX3) (N := 3) hx hb hts iwX3_tipsTo_3 hown hK hP 1 rfl rfl 1 (by decide) (hts _ flX3_tipsTo_14) (fun _ h9 => h9) rfl dX3_tipsTo_40 ?_
      refine lv_iload_n hx hb dX3_tipsTo_43 rfl (lv_at hl 1 rfl) ?_
      refine x_tald (f := fun t9 => some (ta t9)) (v := ta k) hx hb hK hP 3 rfl k rfl (by omega) (by omega) (rfl) dX3_tipsTo_44 ?_
      refine lv_iload hx hb dX3_tipsTo_45 (lv_at hl 5 rfl) ?_
      refine x_iald (f := g) hx hb hK hP 0 rfl (i9 + 1) rfl (by omega) (by omega) dX3_tipsTo_47 ?_
      refine lv_isub hx hb dX3_tipsTo_48 ?_
      refine x_iast (f := u) hx hb hK hP hD hS 4 rfl (i9 + 1) rfl (by omega) (by omega) dX3_tipsTo_49 (fun H locs hP hD hS => ?_)
      have hP : xP γ ([xA γ (ta k) n g, xO s0 3 [.ref r, .ref tq, .int td], xA γ r n f, xT γ tq kc (fun t9 => some (ta t9)), xA γ q7x n (upd u (i9 + 1) (((u i9) + (f (i9 + 1))) - (g (i9 + 1))))]) H := hP
      have hD : va_D A ([xA γ (ta k) n g, xO s0 3 [.ref r, .ref tq, .int td], xA γ r n f, xT γ tq kc (fun t9 => some (ta t9)), xA γ q7x n (upd u (i9 + 1) (((u i9) + (f (i9 + 1))) - (g (i9 + 1))))]) := hD
      refine lv_iload hx hb dX3_tipsTo_50 (lv_at hl 4 rfl) ?_
      refine lv_aload_n hx hb dX3_tipsTo_52 rfl (lv_at hl 3 rfl) ?_
      refine lv_iload hx hb dX3_tipsTo_53 (lv_at hl 5 rfl) ?_
      refine x_iald (f := upd u (i9 + 1) (((u i9) + (f (i9 + 1))) - (g (i9 + 1)))) hx hb hK hP 4 rfl (i9 + 1) rfl (by omega) (by omega) dX3_tipsTo_55 ?_
      refine lv_iadd hx hb dX3_tipsTo_56 ?_
      refine x_top (y := xAl f g (i9 + 1)) (by rw [show upd u (i9 + 1) (u i9 + f (i9 + 1) - g (i9 + 1)) (i9 + 1) = xLs f g (i9 + 1) from by unfold upd; rw [if_pos rfl, hu i9 (Nat.le_refl _)]; rfl]; rfl) ?_
      refine lv_istore (lv' := [(4, .int (xAl f g (i9 + 1))), (0, .ref s0), (1, .int (nI k)), (2, .int (nI n)), (3, .ref q7x), (5, .int (nI (i9 + 1)))]) hx hb dX3_tipsTo_57 hl (by decide) rfl (fun ls hl => ?_)
      refine lv_iinc (v := nI (i9 + 1 + 1)) (lv' := [(5, .int (nI (i9 + 1 + 1))), (4, .int (xAl f g (i9 + 1))), (0, .ref s0), (1, .int (nI k)), (2, .int (nI n)), (3, .ref q7x)]) hx hb dX3_tipsTo_59 hl (k := 5) rfl (nI_add (i9 + 1) 1) (by decide) rfl (fun ls hl => ?_)
      refine lv_goto (tgt := 16) hx hb dX3_tipsTo_62 (by decide) ?_
      exact ih16 (i9 + 1) (upd u (i9 + 1) (((u i9) + (f (i9 + 1))) - (g (i9 + 1)))) (by omega) (fun i hi => by unfold upd; split; (rename_i e; rw [e, hu i9 (Nat.le_refl _)]; rfl); exact hu i (by omega)) _ _ hP hD hS ls (lv_sub hl [2, 3, 4, 5, 1, 0] rfl)
  exact loop16 (n - 1) 0 (fun _ => 0) (by omega) (fun i hi => by rw [show i = 0 by omega]; rfl) _ _ hP hD hS ls (lv_sub hl [4, 5, 3, 2, 1, 0] rfl)

theorem hdv_X3_tipsTo : yX3_tipsTo.cls = RX3 ∧ yX3_tipsTo.cls ≠ "java/lang/invoke/MethodHandle" ∧ yX3_tipsTo.cls ≠ "java/lang/invoke/VarHandle" ∧ (parseMethodDescriptor yX3_tipsTo.desc).map (fun d => d.parameters.length) = some 1 := by decide +kernel
theorem wdX3_fewest_m53a : Cond.methodLink RX3 53 Lib.Math.abs.name ∈ wsX3_fewest := by decide +kernel
theorem wdX3_fewest_m53b : Cond.static Lib.Math.abs.name ∈ wsX3_fewest := by decide +kernel
theorem wdX3_fewest_m53c : Cond.initialized "java/lang/Math" ∈ wsX3_fewest := by decide +kernel
theorem wdX3_fewest_m53d : Cond.code Lib.Math.abs.name Lib.Math.abs.code 1 (some .int) ∈ wsX3_fewest := by decide +kernel
set_option maxHeartbeats 4000000 in
set_option maxRecDepth 100000 in
theorem c_X3_fewest (γ : xG) (l : Launch) (s0 r tq : Nat) (td : Int32) (n : Nat) (f : xRow) (ta : Nat → Nat) (kc k : Nat) (g : xRow) (hn0 : 3 ≤ n) (hn1 : n ≤ 12) (hk : k < kc) (hkc : kc ≤ 6) (hf : xBd f) (hg : xBd g) (hcb : xCB n f g = true) : xC γ l yX3_fewest wsX3_fewest ({ frames := 1, cells := 2, slots := 24, locals := 26 } : Room) [.ref s0, .int (nI k)] (fun _ => True) ([xA γ (ta k) n g, xO s0 3 [.ref r, .ref tq, .int td], xA γ r n f, xT γ tq kc (fun t9 => some (ta t9))]) (fun r9 w9 v9 => r9 = some (.int (xWay n f g)) ∧ w9 = [xA γ (ta k) n g, xO s0 3 [.ref r, .ref tq, .int td], xA γ r n f, xT γ tq kc (fun t9 => some (ta t9))] ∧ v9 = []) 2 24 := by
  refine xC.of (cc := cX3_fewest) (maxL := 9) (ret := (some .int)) (by decide +kernel) rfl (Nat.le_of_ble_eq_true rfl) ?_
  intro p e s m below meth c hx hb hr hml hts hown hlocks hin hP hK hEx A hA hAw hD ls hl
  have hS : va_S A s.heap s.heap [] := va_S.rf
  generalize hargs : ([.ref s0, .int (nI k)] : List Value).toArray = args at hts ⊢
  obtain ⟨Q, hQ⟩ : ∃ Q9, Q9 = MQ below (xCQ γ ([xA γ (ta k) n g, xO s0 3 [.ref r, .ref tq, .int td], xA γ r n f, xT γ tq kc (fun t9 => some (ta t9))]).length A (fun r9 w9 v9 => r9 = some (.int (xWay n f g)) ∧ w9 = [xA γ (ta k) n g, xO s0 3 [.ref r, .ref tq, .int td], xA γ r n f, xT γ tq kc (fun t9 => some (ta t9))] ∧ v9 = [])) args s 2 24 A := ⟨_, rfl⟩
  rw [← hQ]
  have hown : s.vm.findClass RX3 = some m.cls := hown
  have hl : lv_has ls 9 [(0, .ref s0), (1, .int (nI k))] := hl
  refine lv_aload_n hx hb dX3_fewest_0 rfl (lv_at hl 0 rfl) ?_
  refine lv_iload_n hx hb dX3_fewest_1 rfl (lv_at hl 1 rfl) ?_
  refine xVC (q0 := 1) (ci := 3) (As := [.int (nI k)]) (rest := []) ⟨hx, hb, hml, hown, hts⟩ (c_X3_tipsTo γ l s0 r tq td n f ta kc k g (by omega) (by omega) (by omega) (by omega)) (cwV 1 hts gX3_fewest_X3_tipsTo rfl rfl rfl hdv_X3_tipsTo ⟨(Nat.le_of_ble_eq_true rfl), (Nat.le_of_ble_eq_true rfl)⟩) (fun _ _ _ _ h => h) (fun _ _ _ => trivial) hK hP hD hS hA [0, 1, 2, 3] rfl rfl rfl rfl rfl hl.1 rfl (Nat.le_of_ble_eq_true rfl) dX3_fewest_2 ⟨(by omega : _ ≤ 2), (by omega : _ ≤ 24)⟩ (fun r9 w9 v9 H locs hw hP hD hS => ?_)
  obtain ⟨b79x, h80x, rfl, eh80x, rfl, rfl⟩ := hw
  have hP : xP γ (([xA γ (ta k) n g, xO s0 3 [.ref r, .ref tq, .int td], xA γ r n f, xT γ tq kc (fun t9 => some (ta t9))]) ++ [xA γ b79x n h80x]) H := hP
  have hD : va_D A (([xA γ (ta k) n g, xO s0 3 [.ref r, .ref tq, .int td], xA γ r n f, xT γ tq kc (fun t9 => some (ta t9))]) ++ [xA γ b79x n h80x]) := hD
  have hP : xP γ ([xA γ (ta k) n g, xO s0 3 [.ref r, .ref tq, .int td], xA γ r n f, xT γ tq kc (fun t9 => some (ta t9)), xA γ b79x n h80x]) H := hP
  have hD : va_D A ([xA γ (ta k) n g, xO s0 3 [.ref r, .ref tq, .int td], xA γ r n f, xT γ tq kc (fun t9 => some (ta t9)), xA γ b79x n h80x]) := hD
  refine W.eq (g2 := F0 m 5 ls [.ref b79x]) rfl ?_
  refine lv_astore_n (lv' := [(2, .ref b79x), (0, .ref s0), (1, .int (nI k))]) hx hb dX3_fewest_5 rfl hl (by decide) rfl (fun ls hl => ?_)
  refine lv_aload_n hx hb dX3_fewest_6 rfl (lv_at hl 0 rfl) ?_
  refine va_alen (v := nI n) hx hb hK hP 4 0 rfl rfl rfl dX3_fewest_7 ?_
  refine lv_istore_n (lv' := [(3, .int (nI n)), (2, .ref b79x), (0, .ref s0), (1, .int (nI k))]) hx hb dX3_fewest_8 rfl hl (by decide) rfl (fun ls hl => ?_)
  refine lv_iconst (v := 1) hx hb dX3_fewest_9 (by decide) ?_
  refine lv_istore (lv' := [(4, .int 1), (3, .int (nI n)), (2, .ref b79x), (0, .ref s0), (1, .int (nI k))]) hx hb dX3_fewest_10 hl (by decide) rfl (fun ls hl => ?_)
  have loop12 : ∀ j : Nat, ∀ (i9 : Nat) (u : xRow), i9 + 1 + j = n → (xPm n u h80x) → (xSrt u (i9 + 1)) → ∀ (H : Heap) (locs : List Loc), xP γ ([xA γ (ta k) n g, xO s0 3 [.ref r, .ref tq, .int td], xA γ r n f, xT γ tq kc (fun t9 => some (ta t9)), xA γ b79x n u]) H → va_D A ([xA γ (ta k) n g, xO s0 3 [.ref r, .ref tq, .int td], xA γ r n f, xT γ tq kc (fun t9 => some (ta t9)), xA γ b79x n u]) → va_S A s.heap H locs → ∀ ls : Array Slot, lv_has ls 9 [(2, .ref b79x), (3, .int (nI n)), (4, .int (nI (i9 + 1)))] → W p l e ({ frames := 1, cells := 2, slots := 24, locals := 26 } : Room) s m args below meth c H locs (0 + 2) (0 + 24) Q (F0 m 12 ls []) := by
    intro j
    induction j with
    | zero =>
      intro i9 u hj hpm hsr H locs hP hD hS ls hl
      refine lv_iload hx hb dX3_fewest_12 (lv_at hl 2 rfl) ?_
      refine lv_iload_n hx hb dX3_fewest_14 rfl (lv_at hl 1 rfl) ?_
      refine lv_icmp_ge (tgt := 72) hx hb dX3_fewest_15 (by decide) (fun _ => ?_) (fun c => absurd (nI_le (a := n) (b := i9 + 1) (by omega) (by omega)) c)
      have hi9 : i9 = n - 1 := by omega
      refine lv_iconst (v := 0) hx hb dX3_fewest_72 (by decide) ?_
      refine lv_istore (lv' := [(4, .int 0), (2, .ref b79x), (3, .int (nI n))]) hx hb dX3_fewest_73 hl (by decide) rfl (fun ls hl => ?_)
      refine lv_aload_n hx hb dX3_fewest_75 rfl (lv_at hl 1 rfl) ?_
      refine lv_astore (lv' := [(5, .ref b79x), (4, .int 0), (2, .ref b79x), (3, .int (nI n))]) hx hb dX3_fewest_76 hl (by decide) rfl (fun ls hl => ?_)
      refine lv_aload hx hb dX3_fewest_78 (lv_at hl 0 rfl) ?_
      refine va_alen (v := nI n) hx hb hK hP 4 0 rfl rfl rfl dX3_fewest_80 ?_
      refine lv_istore (lv' := [(6, .int (nI n)), (5, .ref b79x), (4, .int 0), (2, .ref b79x), (3, .int (nI n))]) hx hb dX3_fewest_81 hl (by decide) rfl (fun ls hl => ?_)
      refine lv_iconst (v := 0) hx hb dX3_fewest_83 (by decide) ?_
      refine lv_istore (lv' := [(7, .int 0), (6, .int (nI n)), (5, .ref b79x), (4, .int 0), (2, .ref b79x), (3, .int (nI n))]) hx hb dX3_fewest_84 hl (by decide) rfl (fun ls hl => ?_)
      have loop86 : ∀ j : Nat, ∀ (k9 : Nat), k9 + j = n → ∀ ls : Array Slot, lv_has ls 9 [(2, .ref b79x), (3, .int (nI n)), (4, .int (xAw u (u (n / 2)) k9)), (5, .ref b79x), (6, .int (nI n)), (7, .int (nI k9))] → W p l e ({ frames := 1, cells := 2, slots := 24, locals := 26 } : Room) s m args below meth c H locs (0 + 2) (0 + 24) Q (F0 m 86 ls []) := by
        intro j
        induction j with
        | zero =>
          intro k9 hj ls hl
          refine lv_iload hx hb dX3_fewest_86 (lv_at hl 5 rfl) ?_
          refine lv_iload hx hb dX3_fewest_88 (lv_at hl 4 rfl) ?_
          refine lv_icmp_ge (tgt := 122) hx hb dX3_fewest_90 (by decide) (fun _ => ?_) (fun c => absurd (nI_le (a := n) (b := k9) (by omega) (by omega)) c)
          refine lv_iload hx hb dX3_fewest_122 (lv_at hl 2 rfl) ?_
          have hP := hP.sub (ws' := [xA γ (ta k) n g, xO s0 3 [.ref r, .ref tq, .int td], xA γ r n f, xT γ tq kc (fun t9 => some (ta t9))]) [0, 1, 2, 3] rfl
          have hD := hD.sub (ws' := [xA γ (ta k) n g, xO s0 3 [.ref r, .ref tq, .int td], xA γ r n f, xT γ tq kc (fun t9 => some (ta t9))]) [0, 1, 2, 3] (by decide) rfl
          have hP : xP γ ([xA γ (ta k) n g, xO s0 3 [.ref r, .ref tq, .int td], xA γ r n f, xT γ tq kc (fun t9 => some (ta t9))] ++ []) H := hP
          have hD : va_D A ([xA γ (ta k) n g, xO s0 3 [.ref r, .ref tq, .int td], xA γ r n f, xT γ tq kc (fun t9 => some (ta t9))] ++ []) := hD
          subst hQ
          exact xC_i (Wa := [xA γ (ta k) n g, xO s0 3 [.ref r, .ref tq, .int td], xA γ r n f, xT γ tq kc (fun t9 => some (ta t9))]) (Wb := []) hx hb hr hlocks dX3_fewest_124 hP hD rfl hS (by omega : _ ≤ 2) (by omega : _ ≤ 24) (⟨by rw [show k9 = n by omega, xMed_way hn0 hn1 hf hg hcb (h := h80x) eh80x hpm (hi9 ▸ hsr : xSrt u (n - 1 + 1))], rfl, rfl⟩)
        | succ j ih86 =>
          intro k9 hj ls hl
          refine lv_iload hx hb dX3_fewest_86 (lv_at hl 5 rfl) ?_
          refine lv_iload hx hb dX3_fewest_88 (lv_at hl 4 rfl) ?_
          refine lv_icmp_ge (tgt := 122) hx hb dX3_fewest_90 (by decide) (fun c => absurd c (nI_ge (a := k9) (b := n) (by omega) (by omega))) (fun _ => ?_)
          refine lv_aload hx hb dX3_fewest_93 (lv_at hl 3 rfl) ?_
          refine lv_iload hx hb dX3_fewest_95 (lv_at hl 5 rfl) ?_
          refine x_iald (f := u) hx hb hK hP 4 rfl k9 rfl (by omega) (by omega) dX3_fewest_97 ?_
          refine lv_istore (lv' := [(8, .int (u k9)), (2, .ref b79x), (3, .int (nI n)), (4, .int (xAw u (u (n / 2)) k9)), (5, .ref b79x), (6, .int (nI n)), (7, .int (nI k9))]) hx hb dX3_fewest_98 hl (by decide) rfl (fun ls hl => ?_)
          refine lv_iload hx hb dX3_fewest_100 (lv_at hl 3 rfl) ?_
          refine lv_iload hx hb dX3_fewest_102 (lv_at hl 0 rfl) ?_
          refine lv_aload_n hx hb dX3_fewest_104 rfl (lv_at hl 1 rfl) ?_
          refine lv_iload_n hx hb dX3_fewest_105 rfl (lv_at hl 2 rfl) ?_
          refine lv_iconst (v := 2) hx hb dX3_fewest_106 (by decide) ?_
          refine lv_idiv hx hb dX3_fewest_107 (by decide) ?_
          refine x_top (y := nI (n / 2)) (pk_div (a := n) (d := 2) (by omega) (by omega) (by omega)) ?_
          refine x_iald (f := u) hx hb hK hP 4 rfl (n / 2) rfl (by omega) (by omega) dX3_fewest_108 ?_
          refine lv_isub hx hb dX3_fewest_109 ?_
          refine va_mabs hx hb (hml.trans hl.1.symm) hown (hts _ wdX3_fewest_m53a) (hts _ wdX3_fewest_m53b) (hts _ wdX3_fewest_m53c) (hts _ wdX3_fewest_m53d) (Nat.le_of_ble_eq_true rfl) (Nat.le_of_ble_eq_true rfl) (Nat.le_of_ble_eq_true rfl) (Nat.le_of_ble_eq_true rfl) dX3_fewest_110 ?_
          refine lv_iadd hx hb dX3_fewest_113 ?_
          refine x_top (y := xAw u (u (n / 2)) (k9 + 1)) (rfl) ?_
          refine lv_istore (lv' := [(4, .int (xAw u (u (n / 2)) (k9 + 1))), (8, .int (u k9)), (2, .ref b79x), (3, .int (nI n)), (5, .ref b79x), (6, .int (nI n)), (7, .int (nI k9))]) hx hb dX3_fewest_114 hl (by decide) rfl (fun ls hl => ?_)
          refine lv_iinc (v := nI (k9 + 1)) (lv' := [(7, .int (nI (k9 + 1))), (4, .int (xAw u (u (n / 2)) (k9 + 1))), (8, .int (u k9)), (2, .ref b79x), (3, .int (nI n)), (5, .ref b79x), (6, .int (nI n))]) hx hb dX3_fewest_116 hl (k := 6) rfl (nI_add k9 1) (by decide) rfl (fun ls hl => ?_)
          refine lv_goto (tgt := 86) hx hb dX3_fewest_119 (by decide) ?_
          exact ih86 (k9 + 1) (by omega) ls (lv_sub hl [3, 4, 1, 5, 6, 0] rfl)
      exact loop86 n 0 (by omega) ls (lv_sub hl [4, 5, 3, 2, 1, 0] rfl)
    | succ j ih12 =>
      intro i9 u hj hpm hsr H locs hP hD hS ls hl
      refine lv_iload hx hb dX3_fewest_12 (lv_at hl 2 rfl) ?_
      refine lv_iload_n hx hb dX3_fewest_14 rfl (lv_at hl 1 rfl) ?_
      refine lv_icmp_ge (tgt := 72) hx hb dX3_fewest_15 (by decide) (fun c => absurd c (nI_ge (a := i9 + 1) (b := n) (by omega) (by omega))) (fun _ => ?_)
      refine lv_aload_n hx hb dX3_fewest_18 rfl (lv_at hl 0 rfl) ?_
      refine lv_iload hx hb dX3_fewest_19 (lv_at hl 2 rfl) ?_
      refine x_iald (f := u) hx hb hK hP 4 rfl (i9 + 1) rfl (by omega) (by omega) dX3_fewest_21 ?_
      refine lv_istore (lv' := [(5, .int (u (i9 + 1))), (2, .ref b79x), (3, .int (nI n)), (4, .int (nI (i9 + 1)))]) hx hb dX3_fewest_22 hl (by decide) rfl (fun ls hl => ?_)
      refine lv_iload hx hb dX3_fewest_24 (lv_at hl 3 rfl) ?_
      refine lv_istore (lv' := [(6, .int (nI (i9 + 1))), (5, .int (u (i9 + 1))), (2, .ref b79x), (3, .int (nI n)), (4, .int (nI (i9 + 1)))]) hx hb dX3_fewest_26 hl (by decide) rfl (fun ls hl => ?_)
      have loop28 : ∀ j : Nat, ∀ (v : xRow), (j < n) → (xIn n v h80x (i9 + 1) j (u (i9 + 1))) → ∀ (H : Heap) (locs : List Loc), xP γ ([xA γ (ta k) n g, xO s0 3 [.ref r, .ref tq, .int td], xA γ r n f, xT γ tq kc (fun t9 => some (ta t9)), xA γ b79x n v]) H → va_D A ([xA γ (ta k) n g, xO s0 3 [.ref r, .ref tq, .int td], xA γ r n f, xT γ tq kc (fun t9 => some (ta t9)), xA γ b79x n v]) → va_S A s.heap H locs → ∀ ls : Array Slot, lv_has ls 9 [(2, .ref b79x), (3, .int (nI n)), (4, .int (nI (i9 + 1))), (5, .int (u (i9 + 1))), (6, .int (nI j))] → W p l e ({ frames := 1, cells := 2, slots := 24, locals := 26 } : Room) s m args below meth c H locs (0 + 2) (0 + 24) Q (F0 m 28 ls []) := by
        intro j
        induction j with
        | zero =>
          intro v hj hin H locs hP hD hS ls hl
          refine lv_iload hx hb dX3_fewest_28 (lv_at hl 4 rfl) ?_
          refine lv_if_le (tgt := 60) hx hb dX3_fewest_30 (by decide) (fun _ => ?_) (fun c => absurd (nI_le (a := 0) (b := 0) (by omega) (by omega)) c)
          have hex : xEx v 0 (u (i9 + 1)) := xEx_0
          refine lv_aload_n hx hb dX3_fewest_60 rfl (lv_at hl 0 rfl) ?_
          refine lv_iload hx hb dX3_fewest_61 (lv_at hl 4 rfl) ?_
          refine lv_iload hx hb dX3_fewest_63 (lv_at hl 3 rfl) ?_
          refine x_iast (f := v) hx hb hK hP hD hS 4 rfl 0 rfl (by omega) (by omega) dX3_fewest_65 (fun H locs hP hD hS => ?_)
          have hP : xP γ ([xA γ (ta k) n g, xO s0 3 [.ref r, .ref tq, .int td], xA γ r n f, xT γ tq kc (fun t9 => some (ta t9)), xA γ b79x n (upd v 0 (u (i9 + 1)))]) H := hP
          have hD : va_D A ([xA γ (ta k) n g, xO s0 3 [.ref r, .ref tq, .int td], xA γ r n f, xT γ tq kc (fun t9 => some (ta t9)), xA γ b79x n (upd v 0 (u (i9 + 1)))]) := hD
          refine lv_iinc (v := nI (i9 + 1 + 1)) (lv' := [(4, .int (nI (i9 + 1 + 1))), (2, .ref b79x), (3, .int (nI n)), (5, .int (u (i9 + 1))), (6, .int (nI 0))]) hx hb dX3_fewest_66 hl (k := 2) rfl (nI_add (i9 + 1) 1) (by decide) rfl (fun ls hl => ?_)
          refine lv_goto (tgt := 12) hx hb dX3_fewest_69 (by decide) ?_
          exact ih12 (i9 + 1) (upd v 0 (u (i9 + 1))) (by omega) (xIn_pm hin) (xIn_srt hin hex) _ _ hP hD hS ls (lv_sub hl [1, 2, 0] rfl)
        | succ j ih28 =>
          intro v hj hin H locs hP hD hS ls hl
          refine lv_iload hx hb dX3_fewest_28 (lv_at hl 4 rfl) ?_
          refine lv_if_le (tgt := 60) hx hb dX3_fewest_30 (by decide) (fun c => absurd c (nI_nle (n := j + 1) (by omega) (by omega))) (fun _ => ?_)
          refine lv_aload_n hx hb dX3_fewest_33 rfl (lv_at hl 0 rfl) ?_
          refine lv_iload hx hb dX3_fewest_34 (lv_at hl 4 rfl) ?_
          refine lv_iconst (v := 1) hx hb dX3_fewest_36 (by decide) ?_
          refine lv_isub hx hb dX3_fewest_37 ?_
          refine x_top (y := nI j) (nI_pred j) ?_
          refine x_iald (f := v) hx hb hK hP 4 rfl j rfl (by omega) (by omega) dX3_fewest_38 ?_
          refine lv_iload hx hb dX3_fewest_39 (lv_at hl 3 rfl) ?_
          refine lv_icmp_le (tgt := 60) hx hb dX3_fewest_41 (by decide) (fun c41 => ?_) (fun c41 => ?_)
          · have hex : xEx v (j + 1) (u (i9 + 1)) := xEx_s c41
            refine lv_aload_n hx hb dX3_fewest_60 rfl (lv_at hl 0 rfl) ?_
            refine lv_iload hx hb dX3_fewest_61 (lv_at hl 4 rfl) ?_
            refine lv_iload hx hb dX3_fewest_63 (lv_at hl 3 rfl) ?_
            refine x_iast (f := v) hx hb hK hP hD hS 4 rfl (j + 1) rfl (by omega) (by omega) dX3_fewest_65 (fun H locs hP hD hS => ?_)
            have hP : xP γ ([xA γ (ta k) n g, xO s0 3 [.ref r, .ref tq, .int td], xA γ r n f, xT γ tq kc (fun t9 => some (ta t9)), xA γ b79x n (upd v (j + 1) (u (i9 + 1)))]) H := hP
            have hD : va_D A ([xA γ (ta k) n g, xO s0 3 [.ref r, .ref tq, .int td], xA γ r n f, xT γ tq kc (fun t9 => some (ta t9)), xA γ b79x n (upd v (j + 1) (u (i9 + 1)))]) := hD
            refine lv_iinc (v := nI (i9 + 1 + 1)) (lv' := [(4, .int (nI (i9 + 1 + 1))), (2, .ref b79x), (3, .int (nI n)), (5, .int (u (i9 + 1))), (6, .int (nI (j + 1)))]) hx hb dX3_fewest_66 hl (k := 2) rfl (nI_add (i9 + 1) 1) (by decide) rfl (fun ls hl => ?_)
            refine lv_goto (tgt := 12) hx hb dX3_fewest_69 (by decide) ?_
            exact ih12 (i9 + 1) (upd v (j + 1) (u (i9 + 1))) (by omega) (xIn_pm hin) (xIn_srt hin hex) _ _ hP hD hS ls (lv_sub hl [1, 2, 0] rfl)
          · refine lv_aload_n hx hb dX3_fewest_44 rfl (lv_at hl 0 rfl) ?_
            refine lv_iload hx hb dX3_fewest_45 (lv_at hl 4 rfl) ?_
            refine lv_aload_n hx hb dX3_fewest_47 rfl (lv_at hl 0 rfl) ?_
            refine lv_iload hx hb dX3_fewest_48 (lv_at hl 4 rfl) ?_
            refine lv_iconst (v := 1) hx hb dX3_fewest_50 (by decide) ?_
            refine lv_isub hx hb dX3_fewest_51 ?_
            refine x_top (y := nI j) (nI_pred j) ?_
            refine x_iald (f := v) hx hb hK hP 4 rfl j rfl (by omega) (by omega) dX3_fewest_52 ?_
            refine x_iast (f := v) hx hb hK hP hD hS 4 rfl (j + 1) rfl (by omega) (by omega) dX3_fewest_53 (fun H locs hP hD hS => ?_)
            have hP : xP γ ([xA γ (ta k) n g, xO s0 3 [.ref r, .ref tq, .int td], xA γ r n f, xT γ tq kc (fun t9 => some (ta t9)), xA γ b79x n (upd v (j + 1) (v j))]) H := hP
            have hD : va_D A ([xA γ (ta k) n g, xO s0 3 [.ref r, .ref tq, .int td], xA γ r n f, xT γ tq kc (fun t9 => some (ta t9)), xA γ b79x n (upd v (j + 1) (v j))]) := hD
            refine lv_iinc (v := nI j) (lv' := [(6, .int (nI j)), (2, .ref b79x), (3, .int (nI n)), (4, .int (nI (i9 + 1))), (5, .int (u (i9 + 1)))]) hx hb dX3_fewest_54 hl (k := 4) rfl (pk_m1 j) (by decide) rfl (fun ls hl => ?_)
            refine lv_goto (tgt := 28) hx hb dX3_fewest_57 (by decide) ?_
            exact ih28 (upd v (j + 1) (v j)) (by omega) (xIn_s hin c41 (by omega)) _ _ hP hD hS ls (lv_sub hl [1, 2, 3, 4, 0] rfl)
      exact loop28 (i9 + 1) u (by omega) (xIn_0 hpm hsr (by omega)) _ _ hP hD hS ls (lv_sub hl [2, 3, 4, 1, 0] rfl)
  exact loop12 (n - 1) 0 h80x (by omega) (fun _ => rfl) (xSrt_1) _ _ hP hD hS ls (lv_sub hl [2, 1, 0] rfl)

theorem hdv_X3_steep : yX3_steep.cls = RX3 ∧ yX3_steep.cls ≠ "java/lang/invoke/MethodHandle" ∧ yX3_steep.cls ≠ "java/lang/invoke/VarHandle" ∧ (parseMethodDescriptor yX3_steep.desc).map (fun d => d.parameters.length) = some 1 := by decide +kernel
theorem hdv_X3_tipped : yX3_tipped.cls = RX3 ∧ yX3_tipped.cls ≠ "java/lang/invoke/MethodHandle" ∧ yX3_tipped.cls ≠ "java/lang/invoke/VarHandle" ∧ (parseMethodDescriptor yX3_tipped.desc).map (fun d => d.parameters.length) = some 3 := by decide +kernel
theorem flX3_settle_64 : Cond.fieldLink RX3 64 "RingSeesawLaw$Sim" "tips" "I" ∈ wsX3_settle := by decide +kernel
theorem iwX3_settle_3 : ∀ w ∈ wsX30, w ∈ wsX3_settle := by decide +kernel
theorem flX3_settle_7 : Cond.fieldLink RX3 7 "RingSeesawLaw$Sim" "ring" "[I" ∈ wsX3_settle := by decide +kernel
set_option maxHeartbeats 4000000 in
set_option maxRecDepth 100000 in
theorem c_X3_settle (γ : xG) (l : Launch) (s0 r tq : Nat) (td : Int32) (n : Nat) (f : xRow) (k : Nat) (hn0 : 3 ≤ n) (hn1 : n ≤ 12) (hk : k ≤ 200) : xC γ l yX3_settle wsX3_settle ({ frames := 3, cells := 200, slots := 2400, locals := 66 } : Room) [.ref s0, .int (nI k)] xAz ([xO s0 3 [.ref r, .ref tq, .int td], xA γ r n f]) (fun r9 w9 v9 => ∃ b9 : Nat, r9 = some (.int (nI (xStl n k f).1)) ∧ w9 = [xO s0 3 [.ref b9, .ref tq, .int (td + nI (xStl n k f).1)], xA γ b9 n (xStl n k f).2] ∧ v9 = []) 200 2400 := by
  refine xC.of (cc := cX3_settle) (maxL := 4) (ret := (some .int)) (by decide +kernel) rfl (Nat.le_of_ble_eq_true rfl) ?_
  intro p e s m below meth c hx hb hr hml hts hown hlocks hin hP hK hEx A hA hAw hD ls hl
  have hS : va_S A s.heap s.heap [] := va_S.rf
  generalize hargs : ([.ref s0, .int (nI k)] : List Value).toArray = args at hts ⊢
  obtain ⟨Q, hQ⟩ : ∃ Q9, Q9 = MQ below (xCQ γ ([xO s0 3 [.ref r, .ref tq, .int td], xA γ r n f]).length A (fun r9 w9 v9 => ∃ b9 : Nat, r9 = some (.int (nI (xStl n k f).1)) ∧ w9 = [xO s0 3 [.ref b9, .ref tq, .int (td + nI (xStl n k f).1)], xA γ b9 n (xStl n k f).2] ∧ v9 = [])) args s 200 2400 A := ⟨_, rfl⟩
  rw [← hQ]
  have hown : s.vm.findClass RX3 = some m.cls := hown
  have hl : lv_has ls 4 [(0, .ref s0), (1, .int (nI k))] := hl
  refine lv_iconst (v := 0) hx hb dX3_settle_0 (by decide) ?_
  refine lv_istore_n (lv' := [(2, .int 0), (0, .ref s0), (1, .int (nI k))]) hx hb dX3_settle_1 rfl hl (by decide) rfl (fun ls hl => ?_)
  refine lv_iconst (v := 0) hx hb dX3_settle_2 (by decide) ?_
  refine lv_istore_n (lv' := [(3, .int 0), (2, .int 0), (0, .ref s0), (1, .int (nI k))]) hx hb dX3_settle_3 rfl hl (by decide) rfl (fun ls hl => ?_)
  have loop4 : ∀ j : Nat, ∀ (d : Nat) (r : Nat) (g : xRow), d + j = k → (xStl n k f = (d + (xStl n j g).1, (xStl n j g).2)) → ∀ (H : Heap) (locs : List Loc), xP γ ([xO s0 3 [.ref r, .ref tq, .int td], xA γ r n g]) H → va_D A ([xO s0 3 [.ref r, .ref tq, .int td], xA γ r n g]) → va_S A s.heap H locs → ∀ ls : Array Slot, lv_has ls 4 [(0, .ref s0), (1, .int (nI k)), (2, .int (nI d)), (3, .int (nI d))] → W p l e ({ frames := 3, cells := 200, slots := 2400, locals := 66 } : Room) s m args below meth c H locs (200 - j) (2400 - 12 * j) Q (F0 m 4 ls []) := by
    intro j
    induction j with
    | zero =>
      intro d r g hj hst H locs hP hD hS ls hl
      refine lv_iload_n hx hb dX3_settle_4 rfl (lv_at hl 3 rfl) ?_
      refine lv_iload_n hx hb dX3_settle_5 rfl (lv_at hl 1 rfl) ?_
      refine lv_icmp_ge (tgt := 50) hx hb dX3_settle_6 (by decide) (fun _ => ?_) (fun c => absurd (nI_le (a := k) (b := d) (by omega) (by omega)) c)
      refine lv_aload_n hx hb dX3_settle_50 rfl (lv_at hl 0 rfl) ?_
      refine lv_dup hx hb dX3_settle_51 rfl ?_
      refine va_get (D := γ.1) (ci := 3) (v := .int td) (C := RX3) (T := TX3) (N := 3) hx hb hts iwX3_settle_3 hown hK hP 0 rfl rfl 2 (by decide) (hts _ flX3_settle_64) (fun _ h9 => h9) rfl dX3_settle_52 ?_
      refine lv_iload_n hx hb dX3_settle_55 rfl (lv_at hl 2 rfl) ?_
      refine lv_iadd hx hb dX3_settle_56 ?_
      refine va_put (D := γ.1) (ci := 3) (v := .int (td + (nI d))) (ty := .int) (C := RX3) (T := TX3) (N := 3) hx hb hts iwX3_settle_3 tyX3 tyX3_ok nmX3 hown hK hP hD hS 0 rfl rfl 2 (by decide) (hts _ flX3_settle_64) (fun _ h9 => h9) rfl (by decide +kernel) rfl rfl (Nat.le_of_ble_eq_true rfl) dX3_settle_57 (fun H locs hP hD hS => ?_)
      have hP : xP γ ([xO s0 3 [.ref r, .ref tq, .int (td + (nI d))], xA γ r n g]) H := hP
      have hD : va_D A ([xO s0 3 [.ref r, .ref tq, .int (td + (nI d))], xA γ r n g]) := hD
      refine lv_iload_n hx hb dX3_settle_60 rfl (lv_at hl 2 rfl) ?_
      have hP : xP γ ([xO s0 3 [.ref r, .ref tq, .int (td + (nI d))], xA γ r n g] ++ []) H := hP
      have hD : va_D A ([xO s0 3 [.ref r, .ref tq, .int (td + (nI d))], xA γ r n g] ++ []) := hD
      subst hQ
      exact xC_i (Wa := [xO s0 3 [.ref r, .ref tq, .int (td + (nI d))], xA γ r n g]) (Wb := []) hx hb hr hlocks dX3_settle_61 hP hD rfl hS (by omega : _ ≤ 200) (by omega : _ ≤ 2400) (⟨_, by rw [hst]; rfl, by rw [hst]; rfl, rfl⟩)
    | succ j ih4 =>
      intro d r g hj hst H locs hP hD hS ls hl
      refine lv_iload_n hx hb dX3_settle_4 rfl (lv_at hl 3 rfl) ?_
      refine lv_iload_n hx hb dX3_settle_5 rfl (lv_at hl 1 rfl) ?_
      refine lv_icmp_ge (tgt := 50) hx hb dX3_settle_6 (by decide) (fun c => absurd c (nI_ge (a := d) (b := k) (by omega) (by omega))) (fun _ => ?_)
      refine lv_aload_n hx hb dX3_settle_9 rfl (lv_at hl 0 rfl) ?_
      refine lv_aload_n hx hb dX3_settle_10 rfl (lv_at hl 0 rfl) ?_
      refine va_get (D := γ.1) (ci := 3) (v := .ref r) (C := RX3) (T := TX3) (N := 3) hx hb hts iwX3_settle_3 hown hK hP 0 rfl rfl 0 (by decide) (hts _ flX3_settle_7) (fun _ h9 => h9) rfl dX3_settle_11 ?_
      refine xVR (q0 := 0) (ci := 3) (As := [.ref r]) (rest := []) (stk := [.int (xFi (xSt n g) n)]) ⟨hx, hb, hml, hown, hts⟩ (c_X3_steep γ l s0 r tq td r n g (by omega) (by omega)) (cwV 1 hts gX3_settle_X3_steep rfl rfl rfl hdv_X3_steep ⟨(Nat.le_of_ble_eq_true rfl), (Nat.le_of_ble_eq_true rfl)⟩) hK hP [0, 1] rfl rfl rfl rfl hl.1 rfl (Nat.le_of_ble_eq_true rfl) dX3_settle_14 ⟨(by omega : _ ≤ 200), (by omega : _ ≤ 2400)⟩ rfl ?_
      refine lv_if_lt (tgt := 50) hx hb dX3_settle_17 (by decide) (fun c17 => ?_) (fun c17 => ?_)
      · obtain ⟨hi, ei⟩ := xFi_lt (by omega) (Int32.not_le.mpr c17)
        refine lv_aload_n hx hb dX3_settle_50 rfl (lv_at hl 0 rfl) ?_
        refine lv_dup hx hb dX3_settle_51 rfl ?_
        refine va_get (D := γ.1) (ci := 3) (v := .int td) (C := RX3) (T := TX3) (N := 3) hx hb hts iwX3_settle_3 hown hK hP 0 rfl rfl 2 (by decide) (hts _ flX3_settle_64) (fun _ h9 => h9) rfl dX3_settle_52 ?_
        refine lv_iload_n hx hb dX3_settle_55 rfl (lv_at hl 2 rfl) ?_
        refine lv_iadd hx hb dX3_settle_56 ?_
        refine va_put (D := γ.1) (ci := 3) (v := .int (td + (nI d))) (ty := .int) (C := RX3) (T := TX3) (N := 3) hx hb hts iwX3_settle_3 tyX3 tyX3_ok nmX3 hown hK hP hD hS 0 rfl rfl 2 (by decide) (hts _ flX3_settle_64) (fun _ h9 => h9) rfl (by decide +kernel) rfl rfl (Nat.le_of_ble_eq_true rfl) dX3_settle_57 (fun H locs hP hD hS => ?_)
        have hP : xP γ ([xO s0 3 [.ref r, .ref tq, .int (td + (nI d))], xA γ r n g]) H := hP
        have hD : va_D A ([xO s0 3 [.ref r, .ref tq, .int (td + (nI d))], xA γ r n g]) := hD
        refine lv_iload_n hx hb dX3_settle_60 rfl (lv_at hl 2 rfl) ?_
        have hP : xP γ ([xO s0 3 [.ref r, .ref tq, .int (td + (nI d))], xA γ r n g] ++ []) H := hP
        have hD : va_D A ([xO s0 3 [.ref r, .ref tq, .int (td + (nI d))], xA γ r n g] ++ []) := hD
        subst hQ
        exact xC_i (Wa := [xO s0 3 [.ref r, .ref tq, .int (td + (nI d))], xA γ r n g]) (Wb := []) hx hb hr hlocks dX3_settle_61 hP hD rfl hS (by omega : _ ≤ 200) (by omega : _ ≤ 2400) (⟨_, by rw [hst, xStl_f j hi]; rfl, by rw [hst, xStl_f j hi]; rfl, rfl⟩)
      · obtain ⟨hi, ei⟩ := xFi_ge (by omega) (Int32.not_lt.mp c17)
        refine lv_aload_n hx hb dX3_settle_20 rfl (lv_at hl 0 rfl) ?_
        refine lv_aload_n hx hb dX3_settle_21 rfl (lv_at hl 0 rfl) ?_
        refine lv_aload_n hx hb dX3_settle_22 rfl (lv_at hl 0 rfl) ?_
        refine va_get (D := γ.1) (ci := 3) (v := .ref r) (C := RX3) (T := TX3) (N := 3) hx hb hts iwX3_settle_3 hown hK hP 0 rfl rfl 0 (by decide) (hts _ flX3_settle_7) (fun _ h9 => h9) rfl dX3_settle_23 ?_
        refine lv_aload_n hx hb dX3_settle_26 rfl (lv_at hl 0 rfl) ?_
        refine lv_aload_n hx hb dX3_settle_27 rfl (lv_at hl 0 rfl) ?_
        refine va_get (D := γ.1) (ci := 3) (v := .ref r) (C := RX3) (T := TX3) (N := 3) hx hb hts iwX3_settle_3 hown hK hP 0 rfl rfl 0 (by decide) (hts _ flX3_settle_7) (fun _ h9 => h9) rfl dX3_settle_28 ?_
        refine xVR (q0 := 0) (ci := 3) (As := [.ref r]) (rest := [.ref r, .ref s0, .ref s0]) (stk := [.int (xFi (xSt n g) n), .ref r, .ref s0, .ref s0]) ⟨hx, hb, hml, hown, hts⟩ (c_X3_steep γ l s0 r tq td r n g (by omega) (by omega)) (cwV 1 hts gX3_settle_X3_steep rfl rfl rfl hdv_X3_steep ⟨(Nat.le_of_ble_eq_true rfl), (Nat.le_of_ble_eq_true rfl)⟩) hK hP [0, 1] rfl rfl rfl rfl hl.1 rfl (Nat.le_of_ble_eq_true rfl) dX3_settle_31 ⟨(by omega : _ ≤ 200), (by omega : _ ≤ 2400)⟩ rfl ?_
        refine x_top (y := nI (xFirst (xSt n g) n)) (ei) ?_
        refine lv_iconst (v := 1) hx hb dX3_settle_34 (by decide) ?_
        refine xVC (q0 := 0) (ci := 3) (As := [.ref r, .int (nI (xFirst (xSt n g) n)), .int 1]) (rest := [.ref s0]) ⟨hx, hb, hml, hown, hts⟩ (c_X3_tipped γ l s0 r n g (xFirst (xSt n g) n) 1 (by omega) (by omega) (by omega)) (cwV 3 hts gX3_settle_X3_tipped rfl rfl rfl hdv_X3_tipped ⟨(Nat.le_of_ble_eq_true rfl), (Nat.le_of_ble_eq_true rfl)⟩) xAz_blind (fun U _ hW => xAz.warm hW hEx) hK hP hD hS hA [1] rfl rfl rfl rfl rfl hl.1 rfl (Nat.le_of_ble_eq_true rfl) dX3_settle_35 ⟨(by omega : _ ≤ 200), (by omega : _ ≤ 2400)⟩ (fun r9 w9 v9 H locs hw hP hD hS => ?_)
        obtain ⟨b82x, rfl, rfl, rfl⟩ := hw
        have hP : xP γ (([xO s0 3 [.ref r, .ref tq, .int td], xA γ r n g]) ++ [xA γ b82x n (xTip n g (xFirst (xSt n g) n) 1)]) H := hP
        have hD : va_D A (([xO s0 3 [.ref r, .ref tq, .int td], xA γ r n g]) ++ [xA γ b82x n (xTip n g (xFirst (xSt n g) n) 1)]) := hD
        have hP : xP γ ([xO s0 3 [.ref r, .ref tq, .int td], xA γ r n g, xA γ b82x n (xTip n g (xFirst (xSt n g) n) 1)]) H := hP
        have hD : va_D A ([xO s0 3 [.ref r, .ref tq, .int td], xA γ r n g, xA γ b82x n (xTip n g (xFirst (xSt n g) n) 1)]) := hD
        refine W.eq (g2 := F0 m 38 ls [.ref b82x, .ref s0]) rfl ?_
        refine va_put (D := γ.1) (ci := 3) (v := .ref b82x) (ty := .array .int) (C := RX3) (T := TX3) (N := 3) hx hb hts iwX3_settle_3 tyX3 tyX3_ok nmX3 hown hK hP hD hS 0 rfl rfl 0 (by decide) (hts _ flX3_settle_7) (fun _ h9 => h9) rfl (by decide +kernel) rfl rfl (Nat.le_of_ble_eq_true rfl) dX3_settle_38 (fun H locs hP hD hS => ?_)
        have hP : xP γ ([xO s0 3 [.ref b82x, .ref tq, .int td], xA γ r n g, xA γ b82x n (xTip n g (xFirst (xSt n g) n) 1)]) H := hP
        have hD : va_D A ([xO s0 3 [.ref b82x, .ref tq, .int td], xA γ r n g, xA γ b82x n (xTip n g (xFirst (xSt n g) n) 1)]) := hD
        refine lv_iinc (v := nI (d + 1)) (lv' := [(2, .int (nI (d + 1))), (0, .ref s0), (1, .int (nI k)), (3, .int (nI d))]) hx hb dX3_settle_41 hl (k := 2) rfl (nI_add d 1) (by decide) rfl (fun ls hl => ?_)
        refine lv_iinc (v := nI (d + 1)) (lv' := [(3, .int (nI (d + 1))), (2, .int (nI (d + 1))), (0, .ref s0), (1, .int (nI k))]) hx hb dX3_settle_44 hl (k := 3) rfl (nI_add d 1) (by decide) rfl (fun ls hl => ?_)
        have hP := hP.sub (ws' := [xO s0 3 [.ref b82x, .ref tq, .int td], xA γ b82x n (xTip n g (xFirst (xSt n g) n) 1)]) [0, 2] rfl
        have hD := hD.sub (ws' := [xO s0 3 [.ref b82x, .ref tq, .int td], xA γ b82x n (xTip n g (xFirst (xSt n g) n) 1)]) [0, 2] (by decide) rfl
        have hP : xP γ ([xO s0 3 [.ref b82x, .ref tq, .int td], xA γ b82x n (xTip n g (xFirst (xSt n g) n) 1)]) H := hP
        have hD : va_D A ([xO s0 3 [.ref b82x, .ref tq, .int td], xA γ b82x n (xTip n g (xFirst (xSt n g) n) 1)]) := hD
        refine lv_goto (tgt := 4) hx hb dX3_settle_47 (by decide) ?_
        refine W.widen (k := 200 - j) (n := 2400 - 12 * j) (by omega) (by omega) ?_
        exact ih4 (d + 1) b82x (xTip n g (xFirst (xSt n g) n) 1) (by omega) (by rw [hst, xStl_t j hi]; exact Prod.ext (by show d + (_ + 1) = d + 1 + _; omega) rfl) _ _ hP hD hS ls (lv_sub hl [2, 3, 1, 0] rfl)
  refine W.widen (k := 200 - k) (n := 2400 - 12 * k) (by omega) (by omega) ?_
  exact loop4 k 0 r f (by omega) (Prod.ext (Nat.zero_add _).symm rfl) _ _ hP hD hS ls (lv_sub hl [2, 3, 1, 0] rfl)

theorem wdX3_with_n13a : Cond.classLink RX3 13 "[I" ∈ wsX3_with := by decide +kernel
set_option maxHeartbeats 4000000 in
set_option maxRecDepth 100000 in
theorem c_X3_with (γ : xG) (l : Launch) (rq a n : Nat) (f : xRow) (ta : Nat → Nat) (kc : Nat) (ks : Nat → xRow) (hkc : kc ≤ 6) : xC γ l yX3_with wsX3_with ({ frames := 0, cells := 1, slots := 7, locals := 0 } : Room) [.ref rq, .ref a] xAz ([xT γ rq kc (fun t9 => some (ta t9)), xA γ a n f] ++ xTs γ ta n ks kc) (fun r9 w9 v9 => ∃ b9 : Nat, r9 = some (.ref b9) ∧ w9 = [xT γ rq kc (fun t9 => some (ta t9)), xA γ a n f] ++ xTs γ ta n ks kc ∧ v9 = [xT γ b9 (kc + 1) (fun t9 => some ((fun t => if t = kc then a else ta t) t9))]) 1 7 := by
  refine xC.of (cc := cX3_with) (maxL := 4) (ret := (some (.array (.array .int)))) (by decide +kernel) rfl (Nat.le_of_ble_eq_true rfl) ?_
  intro p e s m below meth c hx hb hr hml hts hown hlocks hin hP hK hEx A hA hAw hD ls hl
  have hS : va_S A s.heap s.heap [] := va_S.rf
  generalize hargs : ([.ref rq, .ref a] : List Value).toArray = args at hts ⊢
  obtain ⟨Q, hQ⟩ : ∃ Q9, Q9 = MQ below (xCQ γ ([xT γ rq kc (fun t9 => some (ta t9)), xA γ a n f] ++ xTs γ ta n ks kc).length A (fun r9 w9 v9 => ∃ b9 : Nat, r9 = some (.ref b9) ∧ w9 = [xT γ rq kc (fun t9 => some (ta t9)), xA γ a n f] ++ xTs γ ta n ks kc ∧ v9 = [xT γ b9 (kc + 1) (fun t9 => some ((fun t => if t = kc then a else ta t) t9))])) args s 1 7 A := ⟨_, rfl⟩
  rw [← hQ]
  have hown : s.vm.findClass RX3 = some m.cls := hown
  have hl : lv_has ls 4 [(0, .ref rq), (1, .ref a)] := hl
  refine lv_aload_n hx hb dX3_with_0 rfl (lv_at hl 0 rfl) ?_
  refine va_alen (v := nI kc) hx hb hK hP 0 2 rfl rfl rfl dX3_with_1 ?_
  refine lv_iconst (v := 1) hx hb dX3_with_2 (by decide) ?_
  refine lv_iadd hx hb dX3_with_3 ?_
  refine x_top (y := nI (kc + 1)) (nI_1 _) ?_
  refine x_newT hx hb hown (hts _ wdX3_with_n13a) hEx.2 hK hP hD hS hA (kc + 1) (nI_pos (by omega)) (nI_clamp (by omega)) (show (kc + 1) * 4 ≤ 536870912 by omega) (by omega : _ ≤ 1) (by omega : _ ≤ 7) dX3_with_4 (fun q4x H hP hD hS => ?_)
  have hP := xmvP hP
  have hD := xmvD hD
  have hP : xP γ ([xT γ rq kc (fun t9 => some (ta t9)), xA γ a n f, xT γ q4x (kc + 1) (fun _ => none)] ++ xTs γ ta n ks kc) H := hP
  have hD : va_D A ([xT γ rq kc (fun t9 => some (ta t9)), xA γ a n f, xT γ q4x (kc + 1) (fun _ => none)] ++ xTs γ ta n ks kc) := hD
  refine lv_astore_n (lv' := [(2, .ref q4x), (0, .ref rq), (1, .ref a)]) hx hb dX3_with_7 rfl hl (by decide) rfl (fun ls hl => ?_)
  refine lv_iconst (v := 0) hx hb dX3_with_8 (by decide) ?_
  refine lv_istore_n (lv' := [(3, .int 0), (2, .ref q4x), (0, .ref rq), (1, .ref a)]) hx hb dX3_with_9 rfl hl (by decide) rfl (fun ls hl => ?_)
  have loop10 : ∀ j : Nat, ∀ (k : Nat) (g : Nat → Option Nat), k + j = kc → (∀ i, i < k → g i = some (ta i)) → ∀ (H : Heap) (locs : List Loc), xP γ ([xT γ rq kc (fun t9 => some (ta t9)), xA γ a n f, xT γ q4x (kc + 1) g] ++ xTs γ ta n ks kc) H → va_D A ([xT γ rq kc (fun t9 => some (ta t9)), xA γ a n f, xT γ q4x (kc + 1) g] ++ xTs γ ta n ks kc) → va_S A s.heap H locs → ∀ ls : Array Slot, lv_has ls 4 [(0, .ref rq), (1, .ref a), (2, .ref q4x), (3, .int (nI k))] → W p l e ({ frames := 0, cells := 1, slots := 7, locals := 0 } : Room) s m args below meth c H locs (0 + 1) (0 + (kc + 1)) Q (F0 m 10 ls []) := by
    intro j
    induction j with
    | zero =>
      intro k g hj hg H locs hP hD hS ls hl
      refine lv_iload_n hx hb dX3_with_10 rfl (lv_at hl 3 rfl) ?_
      refine lv_aload_n hx hb dX3_with_11 rfl (lv_at hl 0 rfl) ?_
      refine va_alen (v := nI kc) hx hb hK hP 0 2 rfl rfl rfl dX3_with_12 ?_
      refine lv_icmp_ge (tgt := 28) hx hb dX3_with_13 (by decide) (fun _ => ?_) (fun c => absurd (nI_le (a := kc) (b := k) (by omega) (by omega)) c)
      refine lv_aload_n hx hb dX3_with_28 rfl (lv_at hl 2 rfl) ?_
      refine lv_aload_n hx hb dX3_with_29 rfl (lv_at hl 0 rfl) ?_
      refine va_alen (v := nI kc) hx hb hK hP 0 2 rfl rfl rfl dX3_with_30 ?_
      refine lv_aload_n hx hb dX3_with_31 rfl (lv_at hl 1 rfl) ?_
      refine x_tast (f := g) hx hb hEx.2 hK hP hD hS 2 1 rfl rfl kc rfl (by omega) (by omega) dX3_with_32 (fun H locs hP hD hS => ?_)
      have hP : xP γ ([xT γ rq kc (fun t9 => some (ta t9)), xA γ a n f, xT γ q4x (kc + 1) (va_up g kc (some a))] ++ xTs γ ta n ks kc) H := hP
      have hD : va_D A ([xT γ rq kc (fun t9 => some (ta t9)), xA γ a n f, xT γ q4x (kc + 1) (va_up g kc (some a))] ++ xTs γ ta n ks kc) := hD
      refine lv_aload_n hx hb dX3_with_33 rfl (lv_at hl 2 rfl) ?_
      have hP := xT_row hP 2 rfl (fun t9 => some ((fun t => if t = kc then a else ta t) t9)) (fun i hi => by unfold va_up; by_cases e : i = kc; (rw [if_pos e]; show some a = some (if i = kc then a else ta i); rw [if_pos e]); (rw [if_neg e, hg i (by omega)]; show some (ta i) = some (if i = kc then a else ta i); rw [if_neg e]))
      have hD := xD_row (e := (xT γ q4x (kc + 1) (fun t9 => some ((fun t => if t = kc then a else ta t) t9))).2) hD 2 rfl
      have hP : xP γ (([xT γ rq kc (fun t9 => some (ta t9)), xA γ a n f] ++ [xT γ q4x (kc + 1) (fun t9 => some ((fun t => if t = kc then a else ta t) t9))]) ++ xTs γ ta n ks kc) H := hP
      have hD : va_D A (([xT γ rq kc (fun t9 => some (ta t9)), xA γ a n f] ++ [xT γ q4x (kc + 1) (fun t9 => some ((fun t => if t = kc then a else ta t) t9))]) ++ xTs γ ta n ks kc) := hD
      have hP := xP_perm (xmv_perm _ _ _).symm hP
      have hD := xD_perm (xmv_perm _ _ _).symm hD
      have hP : xP γ (([xT γ rq kc (fun t9 => some (ta t9)), xA γ a n f] ++ xTs γ ta n ks kc) ++ [xT γ q4x (kc + 1) (fun t9 => some ((fun t => if t = kc then a else ta t) t9))]) H := hP
      have hD : va_D A (([xT γ rq kc (fun t9 => some (ta t9)), xA γ a n f] ++ xTs γ ta n ks kc) ++ [xT γ q4x (kc + 1) (fun t9 => some ((fun t => if t = kc then a else ta t) t9))]) := hD
      subst hQ
      exact xC_a (Wa := ([xT γ rq kc (fun t9 => some (ta t9)), xA γ a n f] ++ xTs γ ta n ks kc)) (Wb := [xT γ q4x (kc + 1) (fun t9 => some ((fun t => if t = kc then a else ta t) t9))]) hx hb hr (Or.inr ⟨_, rfl⟩) hlocks dX3_with_34 hP hD rfl hS (by omega : _ ≤ 1) (by omega : _ ≤ 7) (⟨_, rfl, rfl, rfl⟩)
    | succ j ih10 =>
      intro k g hj hg H locs hP hD hS ls hl
      refine lv_iload_n hx hb dX3_with_10 rfl (lv_at hl 3 rfl) ?_
      refine lv_aload_n hx hb dX3_with_11 rfl (lv_at hl 0 rfl) ?_
      refine va_alen (v := nI kc) hx hb hK hP 0 2 rfl rfl rfl dX3_with_12 ?_
      refine lv_icmp_ge (tgt := 28) hx hb dX3_with_13 (by decide) (fun c => absurd c (nI_ge (a := k) (b := kc) (by omega) (by omega))) (fun _ => ?_)
      refine lv_aload_n hx hb dX3_with_16 rfl (lv_at hl 2 rfl) ?_
      refine lv_iload_n hx hb dX3_with_17 rfl (lv_at hl 3 rfl) ?_
      refine lv_aload_n hx hb dX3_with_18 rfl (lv_at hl 0 rfl) ?_
      refine lv_iload_n hx hb dX3_with_19 rfl (lv_at hl 3 rfl) ?_
      refine x_tald (f := fun t9 => some (ta t9)) (v := ta k) hx hb hK hP 0 rfl k rfl (by omega) (by omega) (rfl) dX3_with_20 ?_
      refine x_tast (f := g) hx hb hEx.2 hK hP hD hS 2 (3 + k) rfl (xTs_r (base := [xT γ rq kc (fun t9 => some (ta t9)), xA γ a n f, xT γ q4x (kc + 1) g]) (nb := 3) (t := k) rfl (by omega)) k rfl (by omega) (by omega) dX3_with_21 (fun H locs hP hD hS => ?_)
      have hP : xP γ ([xT γ rq kc (fun t9 => some (ta t9)), xA γ a n f, xT γ q4x (kc + 1) (va_up g k (some (ta k)))] ++ xTs γ ta n ks kc) H := hP
      have hD : va_D A ([xT γ rq kc (fun t9 => some (ta t9)), xA γ a n f, xT γ q4x (kc + 1) (va_up g k (some (ta k)))] ++ xTs γ ta n ks kc) := hD
      refine lv_iinc (v := nI (k + 1)) (lv' := [(3, .int (nI (k + 1))), (0, .ref rq), (1, .ref a), (2, .ref q4x)]) hx hb dX3_with_22 hl (k := 3) rfl (nI_add k 1) (by decide) rfl (fun ls hl => ?_)
      refine lv_goto (tgt := 10) hx hb dX3_with_25 (by decide) ?_
      exact ih10 (k + 1) (va_up g k (some (ta k))) (by omega) (fun i hi => by unfold va_up; split; (rename_i e; rw [e]); exact hg i (by omega)) _ _ hP hD hS ls (lv_sub hl [1, 2, 3, 0] rfl)
  exact loop10 kc 0 (fun _ => none) (by omega) (fun i h => absurd h (Nat.not_lt_zero i)) _ _ hP hD hS ls (lv_sub hl [2, 3, 1, 0] rfl)

theorem wdX3_init_o1 : Cond.methodLink RX3 1 objectInit ∈ wsX3_init := by decide +kernel
theorem wdX3_init_o2 : Cond.instanceMethod objectInit ∈ wsX3_init := by decide +kernel
theorem wdX3_init_o3 : Cond.code objectInit ⟨#[0xb1]⟩ 1 none ∈ wsX3_init := by decide +kernel
theorem wdX3_init_naint : Cond.arrayClass .int ∈ wsX3_init := by decide +kernel
theorem flX3_init_7 : Cond.fieldLink RX3 7 "RingSeesawLaw$Sim" "ring" "[I" ∈ wsX3_init := by decide +kernel
theorem iwX3_init_3 : ∀ w ∈ wsX30, w ∈ wsX3_init := by decide +kernel
theorem wdX3_init_n13a : Cond.classLink RX3 13 "[I" ∈ wsX3_init := by decide +kernel
theorem flX3_init_14 : Cond.fieldLink RX3 14 "RingSeesawLaw$Sim" "targets" "[[I" ∈ wsX3_init := by decide +kernel
set_option maxHeartbeats 4000000 in
set_option maxRecDepth 100000 in
theorem c_X3_init (γ : xG) (l : Launch) (s0 : Nat) : xC γ l yX3_init wsX3_init ({ frames := 1, cells := 2, slots := 6, locals := 12 } : Room) [.ref s0] xAz ([xO s0 3 [.null, .null, .int 0]]) (fun r9 w9 v9 => ∃ r q : Nat, r9 = none ∧ w9 = [xO s0 3 [.ref r, .ref q, .int 0]] ∧ v9 = [xA γ r 6 (fun _ => 0), xT γ q 0 (fun _ => none)]) 2 6 := by
  refine xC.of (cc := cX3_init) (maxL := 1) (ret := none) (by decide +kernel) rfl (Nat.le_of_ble_eq_true rfl) ?_
  intro p e s m below meth c hx hb hr hml hts hown hlocks hin hP hK hEx A hA hAw hD ls hl
  have hS : va_S A s.heap s.heap [] := va_S.rf
  generalize hargs : ([.ref s0] : List Value).toArray = args at hts ⊢
  obtain ⟨Q, hQ⟩ : ∃ Q9, Q9 = MQ below (xCQ γ ([xO s0 3 [.null, .null, .int 0]]).length A (fun r9 w9 v9 => ∃ r q : Nat, r9 = none ∧ w9 = [xO s0 3 [.ref r, .ref q, .int 0]] ∧ v9 = [xA γ r 6 (fun _ => 0), xT γ q 0 (fun _ => none)])) args s 2 6 A := ⟨_, rfl⟩
  rw [← hQ]
  have hown : s.vm.findClass RX3 = some m.cls := hown
  have hl : lv_has ls 1 [(0, .ref s0)] := hl
  refine lv_aload_n hx hb dX3_init_0 rfl (lv_at hl 0 rfl) ?_
  refine W.objInit hx hb hown (hts _ wdX3_init_o1) (hts _ wdX3_init_o2) (hts _ wdX3_init_o3) rfl (by rw [hml]; exact hl.1) rfl dX3_init_1 (Nat.le_of_ble_eq_true rfl) (Nat.le_of_ble_eq_true rfl) ?_
  refine W.eq (g2 := F0 m 4 ls []) rfl ?_
  refine lv_aload_n hx hb dX3_init_4 rfl (lv_at hl 0 rfl) ?_
  refine lv_bipush (v := 6) hx hb dX3_init_5 (by decide) ?_
  refine x_newI hx hb (hts _ wdX3_init_naint) hK hP hD hS hA 6 (by decide) (by decide) (by decide) (Nat.le_of_ble_eq_true rfl) (Nat.le_of_ble_eq_true rfl) dX3_init_7 (fun q7x H hP hD hS => ?_)
  have hP : xP γ ([xO s0 3 [.null, .null, .int 0], xA γ q7x 6 (fun _ => 0)]) H := hP
  have hD : va_D A ([xO s0 3 [.null, .null, .int 0], xA γ q7x 6 (fun _ => 0)]) := hD
  refine va_put (D := γ.1) (ci := 3) (v := .ref q7x) (ty := .array .int) (C := RX3) (T := TX3) (N := 3) hx hb hts iwX3_init_3 tyX3 tyX3_ok nmX3 hown hK hP hD hS 0 rfl rfl 0 (by decide) (hts _ flX3_init_7) (fun _ h9 => h9) rfl (by decide +kernel) rfl rfl (Nat.le_of_ble_eq_true rfl) dX3_init_9 (fun H locs hP hD hS => ?_)
  have hP : xP γ ([xO s0 3 [.ref q7x, .null, .int 0], xA γ q7x 6 (fun _ => 0)]) H := hP
  have hD : va_D A ([xO s0 3 [.ref q7x, .null, .int 0], xA γ q7x 6 (fun _ => 0)]) := hD
  refine lv_aload_n hx hb dX3_init_12 rfl (lv_at hl 0 rfl) ?_
  refine lv_iconst (v := 0) hx hb dX3_init_13 (by decide) ?_
  refine x_newT hx hb hown (hts _ wdX3_init_n13a) hEx.2 hK hP hD hS hA 0 (by decide) (by decide) (by decide) (Nat.le_of_ble_eq_true rfl) (Nat.le_of_ble_eq_true rfl) dX3_init_14 (fun q14x H hP hD hS => ?_)
  have hP : xP γ ([xO s0 3 [.ref q7x, .null, .int 0], xA γ q7x 6 (fun _ => 0), xT γ q14x 0 (fun _ => none)]) H := hP
  have hD : va_D A ([xO s0 3 [.ref q7x, .null, .int 0], xA γ q7x 6 (fun _ => 0), xT γ q14x 0 (fun _ => none)]) := hD
  refine va_put (D := γ.1) (ci := 3) (v := .ref q14x) (ty := .array (.array .int)) (C := RX3) (T := TX3) (N := 3) hx hb hts iwX3_init_3 tyX3 tyX3_ok nmX3 hown hK hP hD hS 0 rfl rfl 1 (by decide) (hts _ flX3_init_14) (fun _ h9 => h9) rfl (by decide +kernel) rfl rfl (Nat.le_of_ble_eq_true rfl) dX3_init_17 (fun H locs hP hD hS => ?_)
  have hP : xP γ ([xO s0 3 [.ref q7x, .ref q14x, .int 0], xA γ q7x 6 (fun _ => 0), xT γ q14x 0 (fun _ => none)]) H := hP
  have hD : va_D A ([xO s0 3 [.ref q7x, .ref q14x, .int 0], xA γ q7x 6 (fun _ => 0), xT γ q14x 0 (fun _ => none)]) := hD
  have hP : xP γ ([xO s0 3 [.ref q7x, .ref q14x, .int 0]] ++ [xA γ q7x 6 (fun _ => 0), xT γ q14x 0 (fun _ => none)]) H := hP
  have hD : va_D A ([xO s0 3 [.ref q7x, .ref q14x, .int 0]] ++ [xA γ q7x 6 (fun _ => 0), xT γ q14x 0 (fun _ => none)]) := hD
  subst hQ
  exact xC_v (Wa := [xO s0 3 [.ref q7x, .ref q14x, .int 0]]) (Wb := [xA γ q7x 6 (fun _ => 0), xT γ q14x 0 (fun _ => none)]) hx hb hr hlocks dX3_init_20 hP hD rfl hS (Nat.le_of_ble_eq_true rfl) (Nat.le_of_ble_eq_true rfl) (⟨_, _, rfl, rfl, rfl⟩)

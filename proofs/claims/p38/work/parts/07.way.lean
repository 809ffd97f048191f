/-! RingSeesaw$Way, method by method (rows laid by wip/whole/spec_way.py) -/
theorem flX1_tipsAt_9 : Cond.fieldLink RX1 9 "RingSeesaw$Way" "tips" "[I" ∈ wsX1_tipsAt := by decide +kernel
theorem iwX1_tipsAt_1 : ∀ w ∈ wsX10, w ∈ wsX1_tipsAt := by decide +kernel
set_option maxHeartbeats 4000000 in
set_option maxRecDepth 100000 in
theorem c_X1_tipsAt (γ : xG) (l : Launch) (w wa : Nat) (wn : Int32) (h : xRow) (k : Nat) (hk : k < 12) : xR γ l yX1_tipsAt wsX1_tipsAt ({ frames := 0, cells := 0, slots := 0, locals := 0 } : Room) [.ref w, .int (nI k)] ([xO w 1 [.ref wa, .int wn], xA γ wa 12 h]) (some (.int (h k))) := by
  refine xR.of (cc := cX1_tipsAt) (maxL := 2) (ret := (some .int)) (by decide +kernel) rfl (Nat.le_of_ble_eq_true rfl) ?_
  intro p e s m below meth c hx hb hr hml hts hown hlocks hP hK ls hl
  generalize hargs : ([.ref w, .int (nI k)] : List Value).toArray = args at hts ⊢
  obtain ⟨Q, hQ⟩ : ∃ Q9, Q9 = MQ below (xRQ (some (.int (h k)))) args s 0 0 (fun _ => False) := ⟨_, rfl⟩
  rw [← hQ]
  have hown : s.vm.findClass RX1 = some m.cls := hown
  have hl : lv_has ls 2 [(0, .ref w), (1, .int (nI k))] := hl
  refine lv_iload_n hx hb dX1_tipsAt_0 rfl (lv_at hl 1 rfl) ?_
  refine lv_if_lt (tgt := 22) hx hb dX1_tipsAt_1 (by decide) (fun c => absurd c (nI_nlt (a := k) (b := 0) (by omega) (by omega))) (fun _ => ?_)
  refine lv_iload_n hx hb dX1_tipsAt_4 rfl (lv_at hl 1 rfl) ?_
  refine lv_aload_n hx hb dX1_tipsAt_5 rfl (lv_at hl 0 rfl) ?_
  refine va_get (D := γ.1) (ci := 1) (v := .ref wa) (C := RX1) (T := TX1) (N := 2) hx hb hts iwX1_tipsAt_1 hown hK hP 0 rfl rfl 0 (by decide) (hts _ flX1_tipsAt_9) (fun _ h9 => h9) rfl dX1_tipsAt_6 ?_
  refine va_alen (v := nI 12) hx hb hK hP 1 0 rfl rfl rfl dX1_tipsAt_9 ?_
  refine lv_icmp_ge (tgt := 22) hx hb dX1_tipsAt_10 (by decide) (fun c => absurd c (nI_ge (a := k) (b := 12) (by omega) (by omega))) (fun _ => ?_)
  refine lv_aload_n hx hb dX1_tipsAt_13 rfl (lv_at hl 0 rfl) ?_
  refine va_get (D := γ.1) (ci := 1) (v := .ref wa) (C := RX1) (T := TX1) (N := 2) hx hb hts iwX1_tipsAt_1 hown hK hP 0 rfl rfl 0 (by decide) (hts _ flX1_tipsAt_9) (fun _ h9 => h9) rfl dX1_tipsAt_14 ?_
  refine lv_iload_n hx hb dX1_tipsAt_17 rfl (lv_at hl 1 rfl) ?_
  refine x_iald (f := h) hx hb hK hP 1 rfl k rfl (by omega) (by omega) dX1_tipsAt_18 ?_
  refine lv_goto (tgt := 23) hx hb dX1_tipsAt_19 (by decide) ?_
  subst hQ
  exact xR_i hx hb hr hlocks dX1_tipsAt_23 (rfl)

theorem hdv_X1_tipsAt : yX1_tipsAt.cls = RX1 ∧ yX1_tipsAt.cls ≠ "java/lang/invoke/MethodHandle" ∧ yX1_tipsAt.cls ≠ "java/lang/invoke/VarHandle" ∧ (parseMethodDescriptor yX1_tipsAt.desc).map (fun d => d.parameters.length) = some 1 := by decide +kernel
theorem flX1_awayFrom_15 : Cond.fieldLink RX1 15 "RingSeesaw$Way" "size" "I" ∈ wsX1_awayFrom := by decide +kernel
theorem iwX1_awayFrom_1 : ∀ w ∈ wsX10, w ∈ wsX1_awayFrom := by decide +kernel
theorem wdX1_awayFrom_m44a : Cond.methodLink RX1 44 Lib.Math.abs.name ∈ wsX1_awayFrom := by decide +kernel
theorem wdX1_awayFrom_m44b : Cond.static Lib.Math.abs.name ∈ wsX1_awayFrom := by decide +kernel
theorem wdX1_awayFrom_m44c : Cond.initialized "java/lang/Math" ∈ wsX1_awayFrom := by decide +kernel
theorem wdX1_awayFrom_m44d : Cond.code Lib.Math.abs.name Lib.Math.abs.code 1 (some .int) ∈ wsX1_awayFrom := by decide +kernel
set_option maxHeartbeats 4000000 in
set_option maxRecDepth 100000 in
theorem c_X1_awayFrom (γ : xG) (l : Launch) (w wa n : Nat) (h : xRow) (x : Int32) (hn0 : 3 ≤ n) (hn1 : n ≤ 12) : xR γ l yX1_awayFrom wsX1_awayFrom ({ frames := 1, cells := 0, slots := 0, locals := 21 } : Room) [.ref w, .int x] ([xO w 1 [.ref wa, .int (nI n)], xA γ wa 12 h]) (some (.int (xAw h x n))) := by
  refine xR.of (cc := cX1_awayFrom) (maxL := 4) (ret := (some .int)) (by decide +kernel) rfl (Nat.le_of_ble_eq_true rfl) ?_
  intro p e s m below meth c hx hb hr hml hts hown hlocks hP hK ls hl
  generalize hargs : ([.ref w, .int x] : List Value).toArray = args at hts ⊢
  obtain ⟨Q, hQ⟩ : ∃ Q9, Q9 = MQ below (xRQ (some (.int (xAw h x n)))) args s 0 0 (fun _ => False) := ⟨_, rfl⟩
  rw [← hQ]
  have hown : s.vm.findClass RX1 = some m.cls := hown
  have hl : lv_has ls 4 [(0, .ref w), (1, .int x)] := hl
  refine lv_iconst (v := 0) hx hb dX1_awayFrom_0 (by decide) ?_
  refine lv_istore_n (lv' := [(2, .int 0), (0, .ref w), (1, .int x)]) hx hb dX1_awayFrom_1 rfl hl (by decide) rfl (fun ls hl => ?_)
  refine lv_iconst (v := 0) hx hb dX1_awayFrom_2 (by decide) ?_
  refine lv_istore_n (lv' := [(3, .int 0), (2, .int 0), (0, .ref w), (1, .int x)]) hx hb dX1_awayFrom_3 rfl hl (by decide) rfl (fun ls hl => ?_)
  have loop4 : ∀ j : Nat, ∀ (k : Nat), k + j = n → ∀ ls : Array Slot, lv_has ls 4 [(0, .ref w), (1, .int x), (2, .int (xAw h x k)), (3, .int (nI k))] → W p l e ({ frames := 1, cells := 0, slots := 0, locals := 21 } : Room) s m args below meth c s.heap [] 0 0 Q (F0 m 4 ls []) := by
    intro j
    induction j with
    | zero =>
      intro k hj ls hl
      refine lv_iload_n hx hb dX1_awayFrom_4 rfl (lv_at hl 3 rfl) ?_
      refine lv_aload_n hx hb dX1_awayFrom_5 rfl (lv_at hl 0 rfl) ?_
      refine va_get (D := γ.1) (ci := 1) (v := .int (nI n)) (C := RX1) (T := TX1) (N := 2) hx hb hts iwX1_awayFrom_1 hown hK hP 0 rfl rfl 1 (by decide) (hts _ flX1_awayFrom_15) (fun _ h9 => h9) rfl dX1_awayFrom_6 ?_
      refine lv_icmp_ge (tgt := 31) hx hb dX1_awayFrom_9 (by decide) (fun _ => ?_) (fun c => absurd (nI_le (a := n) (b := k) (by omega) (by omega)) c)
      refine lv_iload_n hx hb dX1_awayFrom_31 rfl (lv_at hl 2 rfl) ?_
      subst hQ
      exact xR_i hx hb hr hlocks dX1_awayFrom_32 (by rw [show k = n by omega])
    | succ j ih4 =>
      intro k hj ls hl
      refine lv_iload_n hx hb dX1_awayFrom_4 rfl (lv_at hl 3 rfl) ?_
      refine lv_aload_n hx hb dX1_awayFrom_5 rfl (lv_at hl 0 rfl) ?_
      refine va_get (D := γ.1) (ci := 1) (v := .int (nI n)) (C := RX1) (T := TX1) (N := 2) hx hb hts iwX1_awayFrom_1 hown hK hP 0 rfl rfl 1 (by decide) (hts _ flX1_awayFrom_15) (fun _ h9 => h9) rfl dX1_awayFrom_6 ?_
      refine lv_icmp_ge (tgt := 31) hx hb dX1_awayFrom_9 (by decide) (fun c => absurd c (nI_ge (a := k) (b := n) (by omega) (by omega))) (fun _ => ?_)
      refine lv_iload_n hx hb dX1_awayFrom_12 rfl (lv_at hl 2 rfl) ?_
      refine lv_aload_n hx hb dX1_awayFrom_13 rfl (lv_at hl 0 rfl) ?_
      refine lv_iload_n hx hb dX1_awayFrom_14 rfl (lv_at hl 3 rfl) ?_
      refine xVR (q0 := 0) (ci := 1) (As := [.int (nI k)]) (rest := [.int (xAw h x k)]) (stk := [.int (h k), .int (xAw h x k)]) ⟨hx, hb, hml, hown, hts⟩ (c_X1_tipsAt γ l w wa (nI n) h k (by omega)) (cwV 1 hts gX1_awayFrom_X1_tipsAt rfl rfl rfl hdv_X1_tipsAt ⟨(Nat.le_of_ble_eq_true rfl), (Nat.le_of_ble_eq_true rfl)⟩) hK hP [0, 1] rfl rfl rfl rfl hl.1 rfl (Nat.le_of_ble_eq_true rfl) dX1_awayFrom_15 ⟨(Nat.le_of_ble_eq_true rfl), (Nat.le_of_ble_eq_true rfl)⟩ rfl ?_
      refine lv_iload_n hx hb dX1_awayFrom_18 rfl (lv_at hl 1 rfl) ?_
      refine lv_isub hx hb dX1_awayFrom_19 ?_
      refine va_mabs hx hb (hml.trans hl.1.symm) hown (hts _ wdX1_awayFrom_m44a) (hts _ wdX1_awayFrom_m44b) (hts _ wdX1_awayFrom_m44c) (hts _ wdX1_awayFrom_m44d) (Nat.le_of_ble_eq_true rfl) (Nat.le_of_ble_eq_true rfl) (Nat.le_of_ble_eq_true rfl) (Nat.le_of_ble_eq_true rfl) dX1_awayFrom_20 ?_
      refine lv_iadd hx hb dX1_awayFrom_23 ?_
      refine lv_istore_n (lv' := [(2, .int ((xAw h x k) + (if 0 ≤ ((h k) - x) then ((h k) - x) else 0 - ((h k) - x)))), (0, .ref w), (1, .int x), (3, .int (nI k))]) hx hb dX1_awayFrom_24 rfl hl (by decide) rfl (fun ls hl => ?_)
      refine lv_iinc (v := nI (k + 1)) (lv' := [(3, .int (nI (k + 1))), (2, .int ((xAw h x k) + (if 0 ≤ ((h k) - x) then ((h k) - x) else 0 - ((h k) - x)))), (0, .ref w), (1, .int x)]) hx hb dX1_awayFrom_25 hl (k := 3) rfl (nI_add k 1) (by decide) rfl (fun ls hl => ?_)
      refine lv_goto (tgt := 4) hx hb dX1_awayFrom_28 (by decide) ?_
      exact ih4 (k + 1) (by omega) ls (lv_sub hl [2, 3, 1, 0] rfl)
  exact loop4 n 0 (by omega) ls (lv_sub hl [2, 3, 1, 0] rfl)

theorem hdv_X1_awayFrom : yX1_awayFrom.cls = RX1 ∧ yX1_awayFrom.cls ≠ "java/lang/invoke/MethodHandle" ∧ yX1_awayFrom.cls ≠ "java/lang/invoke/VarHandle" ∧ (parseMethodDescriptor yX1_awayFrom.desc).map (fun d => d.parameters.length) = some 1 := by decide +kernel
theorem flX1_fewest_15 : Cond.fieldLink RX1 15 "RingSeesaw$Way" "size" "I" ∈ wsX1_fewest := by decide +kernel
theorem iwX1_fewest_1 : ∀ w ∈ wsX10, w ∈ wsX1_fewest := by decide +kernel
theorem wdX1_fewest_m38a : Cond.methodLink RX1 38 Lib.Math.min.name ∈ wsX1_fewest := by decide +kernel
theorem wdX1_fewest_m38b : Cond.static Lib.Math.min.name ∈ wsX1_fewest := by decide +kernel
theorem wdX1_fewest_m38c : Cond.initialized "java/lang/Math" ∈ wsX1_fewest := by decide +kernel
theorem wdX1_fewest_m38d : Cond.code Lib.Math.min.name Lib.Math.min.code 2 (some .int) ∈ wsX1_fewest := by decide +kernel
set_option maxHeartbeats 4000000 in
set_option maxRecDepth 100000 in
theorem c_X1_fewest (γ : xG) (l : Launch) (w wa n : Nat) (h : xRow) (hn0 : 3 ≤ n) (hn1 : n ≤ 12) : xR γ l yX1_fewest wsX1_fewest ({ frames := 2, cells := 0, slots := 0, locals := 44 } : Room) [.ref w] ([xO w 1 [.ref wa, .int (nI n)], xA γ wa 12 h]) (some (.int (xFw n h))) := by
  refine xR.of (cc := cX1_fewest) (maxL := 3) (ret := (some .int)) (by decide +kernel) rfl (Nat.le_of_ble_eq_true rfl) ?_
  intro p e s m below meth c hx hb hr hml hts hown hlocks hP hK ls hl
  generalize hargs : ([.ref w] : List Value).toArray = args at hts ⊢
  obtain ⟨Q, hQ⟩ : ∃ Q9, Q9 = MQ below (xRQ (some (.int (xFw n h)))) args s 0 0 (fun _ => False) := ⟨_, rfl⟩
  rw [← hQ]
  have hown : s.vm.findClass RX1 = some m.cls := hown
  have hl : lv_has ls 3 [(0, .ref w)] := hl
  refine lv_aload_n hx hb dX1_fewest_0 rfl (lv_at hl 0 rfl) ?_
  refine lv_aload_n hx hb dX1_fewest_1 rfl (lv_at hl 0 rfl) ?_
  refine lv_iconst (v := 0) hx hb dX1_fewest_2 (by decide) ?_
  refine xVR (q0 := 0) (ci := 1) (As := [.int 0]) (rest := [.ref w]) (stk := [.int (h 0), .ref w]) ⟨hx, hb, hml, hown, hts⟩ (c_X1_tipsAt γ l w wa (nI n) h 0 (by omega)) (cwV 1 hts gX1_fewest_X1_tipsAt rfl rfl rfl hdv_X1_tipsAt ⟨(Nat.le_of_ble_eq_true rfl), (Nat.le_of_ble_eq_true rfl)⟩) hK hP [0, 1] rfl rfl rfl rfl hl.1 rfl (Nat.le_of_ble_eq_true rfl) dX1_fewest_3 ⟨(Nat.le_of_ble_eq_true rfl), (Nat.le_of_ble_eq_true rfl)⟩ rfl ?_
  refine xVR (q0 := 0) (ci := 1) (As := [.int (h 0)]) (rest := []) (stk := [.int (xAw h (h 0) n)]) ⟨hx, hb, hml, hown, hts⟩ (c_X1_awayFrom γ l w wa n h (h 0) (by omega) (by omega)) (cwV 1 hts gX1_fewest_X1_awayFrom rfl rfl rfl hdv_X1_awayFrom ⟨(Nat.le_of_ble_eq_true rfl), (Nat.le_of_ble_eq_true rfl)⟩) hK hP [0, 1] rfl rfl rfl rfl hl.1 rfl (Nat.le_of_ble_eq_true rfl) dX1_fewest_6 ⟨(Nat.le_of_ble_eq_true rfl), (Nat.le_of_ble_eq_true rfl)⟩ rfl ?_
  refine lv_istore_n (lv' := [(1, .int (xAw h (h 0) n)), (0, .ref w)]) hx hb dX1_fewest_9 rfl hl (by decide) rfl (fun ls hl => ?_)
  refine lv_iconst (v := 1) hx hb dX1_fewest_10 (by decide) ?_
  refine lv_istore_n (lv' := [(2, .int 1), (1, .int (xAw h (h 0) n)), (0, .ref w)]) hx hb dX1_fewest_11 rfl hl (by decide) rfl (fun ls hl => ?_)
  have loop12 : ∀ j : Nat, ∀ (k : Nat), k + 1 + j = n → ∀ ls : Array Slot, lv_has ls 3 [(0, .ref w), (1, .int (xLo (fun p9 => xAw h (h p9) n) k)), (2, .int (nI (k + 1)))] → W p l e ({ frames := 2, cells := 0, slots := 0, locals := 44 } : Room) s m args below meth c s.heap [] 0 0 Q (F0 m 12 ls []) := by
    intro j
    induction j with
    | zero =>
      intro k hj ls hl
      refine lv_iload_n hx hb dX1_fewest_12 rfl (lv_at hl 2 rfl) ?_
      refine lv_aload_n hx hb dX1_fewest_13 rfl (lv_at hl 0 rfl) ?_
      refine va_get (D := γ.1) (ci := 1) (v := .int (nI n)) (C := RX1) (T := TX1) (N := 2) hx hb hts iwX1_fewest_1 hown hK hP 0 rfl rfl 1 (by decide) (hts _ flX1_fewest_15) (fun _ h9 => h9) rfl dX1_fewest_14 ?_
      refine lv_icmp_ge (tgt := 40) hx hb dX1_fewest_17 (by decide) (fun _ => ?_) (fun c => absurd (nI_le (a := n) (b := k + 1) (by omega) (by omega)) c)
      refine lv_iload_n hx hb dX1_fewest_40 rfl (lv_at hl 1 rfl) ?_
      subst hQ
      exact xR_i hx hb hr hlocks dX1_fewest_41 (by rw [show k = n - 1 by omega]; rfl)
    | succ j ih12 =>
      intro k hj ls hl
      refine lv_iload_n hx hb dX1_fewest_12 rfl (lv_at hl 2 rfl) ?_
      refine lv_aload_n hx hb dX1_fewest_13 rfl (lv_at hl 0 rfl) ?_
      refine va_get (D := γ.1) (ci := 1) (v := .int (nI n)) (C := RX1) (T := TX1) (N := 2) hx hb hts iwX1_fewest_1 hown hK hP 0 rfl rfl 1 (by decide) (hts _ flX1_fewest_15) (fun _ h9 => h9) rfl dX1_fewest_14 ?_
      refine lv_icmp_ge (tgt := 40) hx hb dX1_fewest_17 (by decide) (fun c => absurd c (nI_ge (a := k + 1) (b := n) (by omega) (by omega))) (fun _ => ?_)
      refine lv_iload_n hx hb dX1_fewest_20 rfl (lv_at hl 1 rfl) ?_
      refine lv_aload_n hx hb dX1_fewest_21 rfl (lv_at hl 0 rfl) ?_
      refine lv_aload_n hx hb dX1_fewest_22 rfl (lv_at hl 0 rfl) ?_
      refine lv_iload_n hx hb dX1_fewest_23 rfl (lv_at hl 2 rfl) ?_
      refine xVR (q0 := 0) (ci := 1) (As := [.int (nI (k + 1))]) (rest := [.ref w, .int (xLo (fun p9 => xAw h (h p9) n) k)]) (stk := [.int (h (k + 1)), .ref w, .int (xLo (fun p9 => xAw h (h p9) n) k)]) ⟨hx, hb, hml, hown, hts⟩ (c_X1_tipsAt γ l w wa (nI n) h (k + 1) (by omega)) (cwV 1 hts gX1_fewest_X1_tipsAt rfl rfl rfl hdv_X1_tipsAt ⟨(Nat.le_of_ble_eq_true rfl), (Nat.le_of_ble_eq_true rfl)⟩) hK hP [0, 1] rfl rfl rfl rfl hl.1 rfl (Nat.le_of_ble_eq_true rfl) dX1_fewest_24 ⟨(Nat.le_of_ble_eq_true rfl), (Nat.le_of_ble_eq_true rfl)⟩ rfl ?_
      refine xVR (q0 := 0) (ci := 1) (As := [.int (h (k + 1))]) (rest := [.int (xLo (fun p9 => xAw h (h p9) n) k)]) (stk := [.int (xAw h (h (k + 1)) n), .int (xLo (fun p9 => xAw h (h p9) n) k)]) ⟨hx, hb, hml, hown, hts⟩ (c_X1_awayFrom γ l w wa n h (h (k + 1)) (by omega) (by omega)) (cwV 1 hts gX1_fewest_X1_awayFrom rfl rfl rfl hdv_X1_awayFrom ⟨(Nat.le_of_ble_eq_true rfl), (Nat.le_of_ble_eq_true rfl)⟩) hK hP [0, 1] rfl rfl rfl rfl hl.1 rfl (Nat.le_of_ble_eq_true rfl) dX1_fewest_27 ⟨(Nat.le_of_ble_eq_true rfl), (Nat.le_of_ble_eq_true rfl)⟩ rfl ?_
      refine va_mmin hx hb (hml.trans hl.1.symm) hown (hts _ wdX1_fewest_m38a) (hts _ wdX1_fewest_m38b) (hts _ wdX1_fewest_m38c) (hts _ wdX1_fewest_m38d) (Nat.le_of_ble_eq_true rfl) (Nat.le_of_ble_eq_true rfl) (Nat.le_of_ble_eq_true rfl) (Nat.le_of_ble_eq_true rfl) dX1_fewest_30 ?_
      refine lv_istore_n (lv' := [(1, .int (if (xAw h (h (k + 1)) n) < (xLo (fun p9 => xAw h (h p9) n) k) then (xAw h (h (k + 1)) n) else (xLo (fun p9 => xAw h (h p9) n) k))), (0, .ref w), (2, .int (nI (k + 1)))]) hx hb dX1_fewest_33 rfl hl (by decide) rfl (fun ls hl => ?_)
      refine lv_iinc (v := nI (k + 1 + 1)) (lv' := [(2, .int (nI (k + 1 + 1))), (1, .int (if (xAw h (h (k + 1)) n) < (xLo (fun p9 => xAw h (h p9) n) k) then (xAw h (h (k + 1)) n) else (xLo (fun p9 => xAw h (h p9) n) k))), (0, .ref w)]) hx hb dX1_fewest_34 hl (k := 2) rfl (nI_add (k + 1) 1) (by decide) rfl (fun ls hl => ?_)
      refine lv_goto (tgt := 12) hx hb dX1_fewest_37 (by decide) ?_
      exact ih12 (k + 1) (by omega) ls (lv_sub hl [2, 1, 0] rfl)
  exact loop12 (n - 1) 0 (by omega) ls (lv_sub hl [2, 1, 0] rfl)

theorem flX1_firstClimb_15 : Cond.fieldLink RX1 15 "RingSeesaw$Way" "size" "I" ∈ wsX1_firstClimb := by decide +kernel
theorem iwX1_firstClimb_1 : ∀ w ∈ wsX10, w ∈ wsX1_firstClimb := by decide +kernel
set_option maxHeartbeats 4000000 in
set_option maxRecDepth 100000 in
theorem c_X1_firstClimb (γ : xG) (l : Launch) (w wa q a q2 b n : Nat) (h f g : xRow) (hn0 : 3 ≤ n) (hn1 : n ≤ 12) : xR γ l yX1_firstClimb wsX1_firstClimb ({ frames := 1, cells := 0, slots := 0, locals := 21 } : Room) [.ref w, .ref q, .ref q2] ([xO w 1 [.ref wa, .int (nI n)], xA γ wa 12 h, xO q 0 [.ref a, .int (nI n)], xA γ a 12 f, xO q2 0 [.ref b, .int (nI n)], xA γ b 12 g]) (some (.int (xFC n f g))) := by
  refine xR.of (cc := cX1_firstClimb) (maxL := 5) (ret := (some .int)) (by decide +kernel) rfl (Nat.le_of_ble_eq_true rfl) ?_
  intro p e s m below meth c hx hb hr hml hts hown hlocks hP hK ls hl
  generalize hargs : ([.ref w, .ref q, .ref q2] : List Value).toArray = args at hts ⊢
  obtain ⟨Q, hQ⟩ : ∃ Q9, Q9 = MQ below (xRQ (some (.int (xFC n f g)))) args s 0 0 (fun _ => False) := ⟨_, rfl⟩
  rw [← hQ]
  have hown : s.vm.findClass RX1 = some m.cls := hown
  have hl : lv_has ls 5 [(0, .ref w), (1, .ref q), (2, .ref q2)] := hl
  refine lv_iconst (v := 0) hx hb dX1_firstClimb_0 (by decide) ?_
  refine lv_istore_n (lv' := [(3, .int 0), (0, .ref w), (1, .ref q), (2, .ref q2)]) hx hb dX1_firstClimb_1 rfl hl (by decide) rfl (fun ls hl => ?_)
  refine lv_iconst (v := 1) hx hb dX1_firstClimb_2 (by decide) ?_
  refine lv_istore (lv' := [(4, .int 1), (3, .int 0), (0, .ref w), (1, .ref q), (2, .ref q2)]) hx hb dX1_firstClimb_3 hl (by decide) rfl (fun ls hl => ?_)
  have loop5 : ∀ j : Nat, ∀ (k : Nat), k + 1 + j = n → ∀ ls : Array Slot, lv_has ls 5 [(0, .ref w), (1, .ref q), (2, .ref q2), (3, .int (xOth n f g k)), (4, .int (nI (k + 1)))] → W p l e ({ frames := 1, cells := 0, slots := 0, locals := 21 } : Room) s m args below meth c s.heap [] 0 0 Q (F0 m 5 ls []) := by
    intro j
    induction j with
    | zero =>
      intro k hj ls hl
      refine lv_iload hx hb dX1_firstClimb_5 (lv_at hl 4 rfl) ?_
      refine lv_aload_n hx hb dX1_firstClimb_7 rfl (lv_at hl 0 rfl) ?_
      refine va_get (D := γ.1) (ci := 1) (v := .int (nI n)) (C := RX1) (T := TX1) (N := 2) hx hb hts iwX1_firstClimb_1 hown hK hP 0 rfl rfl 1 (by decide) (hts _ flX1_firstClimb_15) (fun _ h9 => h9) rfl dX1_firstClimb_8 ?_
      refine lv_icmp_ge (tgt := 44) hx hb dX1_firstClimb_11 (by decide) (fun _ => ?_) (fun c => absurd (nI_le (a := n) (b := k + 1) (by omega) (by omega)) c)
      refine lv_aload_n hx hb dX1_firstClimb_44 rfl (lv_at hl 0 rfl) ?_
      refine va_get (D := γ.1) (ci := 1) (v := .int (nI n)) (C := RX1) (T := TX1) (N := 2) hx hb hts iwX1_firstClimb_1 hown hK hP 0 rfl rfl 1 (by decide) (hts _ flX1_firstClimb_15) (fun _ h9 => h9) rfl dX1_firstClimb_45 ?_
      refine lv_if_le (tgt := 61) hx hb dX1_firstClimb_48 (by decide) (fun c => absurd c (nI_nle (by omega) (by omega))) (fun _ => ?_)
      refine lv_iload_n hx hb dX1_firstClimb_51 rfl (lv_at hl 3 rfl) ?_
      refine lv_ineg hx hb dX1_firstClimb_52 ?_
      refine lv_aload_n hx hb dX1_firstClimb_53 rfl (lv_at hl 0 rfl) ?_
      refine va_get (D := γ.1) (ci := 1) (v := .int (nI n)) (C := RX1) (T := TX1) (N := 2) hx hb hts iwX1_firstClimb_1 hown hK hP 0 rfl rfl 1 (by decide) (hts _ flX1_firstClimb_15) (fun _ h9 => h9) rfl dX1_firstClimb_54 ?_
      refine lv_idiv hx hb dX1_firstClimb_57 (nI_ne0 (by omega) (by omega)) ?_
      refine lv_goto (tgt := 62) hx hb dX1_firstClimb_58 (by decide) ?_
      subst hQ
      exact xR_i hx hb hr hlocks dX1_firstClimb_62 (by rw [show k = n - 1 by omega]; rfl)
    | succ j ih5 =>
      intro k hj ls hl
      refine lv_iload hx hb dX1_firstClimb_5 (lv_at hl 4 rfl) ?_
      refine lv_aload_n hx hb dX1_firstClimb_7 rfl (lv_at hl 0 rfl) ?_
      refine va_get (D := γ.1) (ci := 1) (v := .int (nI n)) (C := RX1) (T := TX1) (N := 2) hx hb hts iwX1_firstClimb_1 hown hK hP 0 rfl rfl 1 (by decide) (hts _ flX1_firstClimb_15) (fun _ h9 => h9) rfl dX1_firstClimb_8 ?_
      refine lv_icmp_ge (tgt := 44) hx hb dX1_firstClimb_11 (by decide) (fun c => absurd c (nI_ge (a := k + 1) (b := n) (by omega) (by omega))) (fun _ => ?_)
      refine lv_iload_n hx hb dX1_firstClimb_14 rfl (lv_at hl 3 rfl) ?_
      refine lv_aload_n hx hb dX1_firstClimb_15 rfl (lv_at hl 2 rfl) ?_
      refine lv_iload hx hb dX1_firstClimb_16 (lv_at hl 4 rfl) ?_
      refine xVR (q0 := 4) (ci := 0) (As := [.int (nI (k + 1))]) (rest := [.int (xOth n f g k)]) (stk := [.int (g (k + 1)), .int (xOth n f g k)]) ⟨hx, hb, hml, hown, hts⟩ (c_X0_at γ l q2 b (nI n) g (k + 1) (by omega)) (cwV 1 hts gX1_firstClimb_X0_at rfl rfl rfl hdv_X0_at ⟨(Nat.le_of_ble_eq_true rfl), (Nat.le_of_ble_eq_true rfl)⟩) hK hP [4, 5] rfl rfl rfl rfl hl.1 rfl (Nat.le_of_ble_eq_true rfl) dX1_firstClimb_18 ⟨(Nat.le_of_ble_eq_true rfl), (Nat.le_of_ble_eq_true rfl)⟩ rfl ?_
      refine lv_aload_n hx hb dX1_firstClimb_21 rfl (lv_at hl 1 rfl) ?_
      refine lv_iload hx hb dX1_firstClimb_22 (lv_at hl 4 rfl) ?_
      refine xVR (q0 := 2) (ci := 0) (As := [.int (nI (k + 1))]) (rest := [.int (g (k + 1)), .int (xOth n f g k)]) (stk := [.int (f (k + 1)), .int (g (k + 1)), .int (xOth n f g k)]) ⟨hx, hb, hml, hown, hts⟩ (c_X0_at γ l q a (nI n) f (k + 1) (by omega)) (cwV 1 hts gX1_firstClimb_X0_at rfl rfl rfl hdv_X0_at ⟨(Nat.le_of_ble_eq_true rfl), (Nat.le_of_ble_eq_true rfl)⟩) hK hP [2, 3] rfl rfl rfl rfl hl.1 rfl (Nat.le_of_ble_eq_true rfl) dX1_firstClimb_24 ⟨(Nat.le_of_ble_eq_true rfl), (Nat.le_of_ble_eq_true rfl)⟩ rfl ?_
      refine lv_isub hx hb dX1_firstClimb_27 ?_
      refine lv_aload_n hx hb dX1_firstClimb_28 rfl (lv_at hl 0 rfl) ?_
      refine va_get (D := γ.1) (ci := 1) (v := .int (nI n)) (C := RX1) (T := TX1) (N := 2) hx hb hts iwX1_firstClimb_1 hown hK hP 0 rfl rfl 1 (by decide) (hts _ flX1_firstClimb_15) (fun _ h9 => h9) rfl dX1_firstClimb_29 ?_
      refine lv_iload hx hb dX1_firstClimb_32 (lv_at hl 4 rfl) ?_
      refine lv_isub hx hb dX1_firstClimb_34 ?_
      refine x_top (y := nI (n - (k + 1))) (pk_sub (a := n) (b := k + 1) (by omega)) ?_
      refine lv_imul hx hb dX1_firstClimb_35 ?_
      refine lv_iadd hx hb dX1_firstClimb_36 ?_
      refine lv_istore_n (lv' := [(3, .int ((xOth n f g k) + (((g (k + 1)) - (f (k + 1))) * (nI (n - (k + 1)))))), (0, .ref w), (1, .ref q), (2, .ref q2), (4, .int (nI (k + 1)))]) hx hb dX1_firstClimb_37 rfl hl (by decide) rfl (fun ls hl => ?_)
      refine lv_iinc (v := nI (k + 1 + 1)) (lv' := [(4, .int (nI (k + 1 + 1))), (3, .int ((xOth n f g k) + (((g (k + 1)) - (f (k + 1))) * (nI (n - (k + 1)))))), (0, .ref w), (1, .ref q), (2, .ref q2)]) hx hb dX1_firstClimb_38 hl (k := 4) rfl (nI_add (k + 1) 1) (by decide) rfl (fun ls hl => ?_)
      refine lv_goto (tgt := 5) hx hb dX1_firstClimb_41 (by decide) ?_
      exact ih5 (k + 1) (by omega) ls (lv_sub hl [2, 3, 4, 1, 0] rfl)
  exact loop5 (n - 1) 0 (by omega) ls (lv_sub hl [2, 3, 4, 1, 0] rfl)

theorem hdv_X0_size : yX0_size.cls = RX0 ∧ yX0_size.cls ≠ "java/lang/invoke/MethodHandle" ∧ yX0_size.cls ≠ "java/lang/invoke/VarHandle" ∧ (parseMethodDescriptor yX0_size.desc).map (fun d => d.parameters.length) = some 0 := by decide +kernel
theorem hdv_X1_firstClimb : yX1_firstClimb.cls = RX1 ∧ yX1_firstClimb.cls ≠ "java/lang/invoke/MethodHandle" ∧ yX1_firstClimb.cls ≠ "java/lang/invoke/VarHandle" ∧ (parseMethodDescriptor yX1_firstClimb.desc).map (fun d => d.parameters.length) = some 2 := by decide +kernel
theorem flX1_find_15 : Cond.fieldLink RX1 15 "RingSeesaw$Way" "size" "I" ∈ wsX1_find := by decide +kernel
theorem iwX1_find_1 : ∀ w ∈ wsX10, w ∈ wsX1_find := by decide +kernel
theorem flX1_find_9 : Cond.fieldLink RX1 9 "RingSeesaw$Way" "tips" "[I" ∈ wsX1_find := by decide +kernel
set_option maxHeartbeats 4000000 in
set_option maxRecDepth 100000 in
theorem c_X1_find (γ : xG) (l : Launch) (w wa q a q2 b n : Nat) (wn : Int32) (h f g : xRow) (hn0 : 3 ≤ n) (hn1 : n ≤ 12) : xM γ l yX1_find wsX1_find ({ frames := 2, cells := 0, slots := 0, locals := 45 } : Room) [.ref w, .ref q, .ref q2] ([xO w 1 [.ref wa, .int wn], xA γ wa 12 h, xO q 0 [.ref a, .int (nI n)], xA γ a 12 f, xO q2 0 [.ref b, .int (nI n)], xA γ b 12 g]) (fun r w9 => r = none ∧ ∃ h9 : xRow, (∀ i, i < n → h9 i = xHt n f g i) ∧ w9 = [xO w 1 [.ref wa, .int (nI n)], xA γ wa 12 h9, xO q 0 [.ref a, .int (nI n)], xA γ a 12 f, xO q2 0 [.ref b, .int (nI n)], xA γ b 12 g]) 0 0 := by
  refine xM.of (cc := cX1_find) (maxL := 6) (ret := none) (by decide +kernel) rfl (Nat.le_of_ble_eq_true rfl) ?_
  intro p e s m below meth c hx hb hr hml hts hown hlocks hin hP hK A hA hD ls hl
  have hS : va_S A s.heap s.heap [] := va_S.rf
  generalize hargs : ([.ref w, .ref q, .ref q2] : List Value).toArray = args at hts ⊢
  obtain ⟨Q, hQ⟩ : ∃ Q9, Q9 = MQ below (xMQ γ (List.map Prod.fst ([xO w 1 [.ref wa, .int wn], xA γ wa 12 h, xO q 0 [.ref a, .int (nI n)], xA γ a 12 f, xO q2 0 [.ref b, .int (nI n)], xA γ b 12 g])) A (fun r w9 => r = none ∧ ∃ h9 : xRow, (∀ i, i < n → h9 i = xHt n f g i) ∧ w9 = [xO w 1 [.ref wa, .int (nI n)], xA γ wa 12 h9, xO q 0 [.ref a, .int (nI n)], xA γ a 12 f, xO q2 0 [.ref b, .int (nI n)], xA γ b 12 g])) args s 0 0 A := ⟨_, rfl⟩
  rw [← hQ]
  have hown : s.vm.findClass RX1 = some m.cls := hown
  have hl : lv_has ls 6 [(0, .ref w), (1, .ref q), (2, .ref q2)] := hl
  refine lv_aload_n hx hb dX1_find_0 rfl (lv_at hl 0 rfl) ?_
  refine lv_aload_n hx hb dX1_find_1 rfl (lv_at hl 1 rfl) ?_
  refine xVR (q0 := 2) (ci := 0) (As := []) (rest := [.ref w]) (stk := [.int (nI n), .ref w]) ⟨hx, hb, hml, hown, hts⟩ (c_X0_size γ l q a n f) (cwV 0 hts gX1_find_X0_size rfl rfl rfl hdv_X0_size ⟨(Nat.le_of_ble_eq_true rfl), (Nat.le_of_ble_eq_true rfl)⟩) hK hP [2, 3] rfl rfl rfl rfl hl.1 rfl (Nat.le_of_ble_eq_true rfl) dX1_find_2 ⟨(Nat.le_of_ble_eq_true rfl), (Nat.le_of_ble_eq_true rfl)⟩ rfl ?_
  refine va_put (D := γ.1) (ci := 1) (v := .int (nI n)) (ty := .int) (C := RX1) (T := TX1) (N := 2) hx hb hts iwX1_find_1 tyX1 tyX1_ok nmX1 hown hK hP hD hS 0 rfl rfl 1 (by decide) (hts _ flX1_find_15) (fun _ h9 => h9) rfl (by decide +kernel) rfl rfl (Nat.le_of_ble_eq_true rfl) dX1_find_5 (fun H locs hP hD hS => ?_)
  have hP : xP γ ([xO w 1 [.ref wa, .int (nI n)], xA γ wa 12 h, xO q 0 [.ref a, .int (nI n)], xA γ a 12 f, xO q2 0 [.ref b, .int (nI n)], xA γ b 12 g]) H := hP
  have hD : va_D A ([xO w 1 [.ref wa, .int (nI n)], xA γ wa 12 h, xO q 0 [.ref a, .int (nI n)], xA γ a 12 f, xO q2 0 [.ref b, .int (nI n)], xA γ b 12 g]) := hD
  refine lv_aload_n hx hb dX1_find_8 rfl (lv_at hl 0 rfl) ?_
  refine lv_aload_n hx hb dX1_find_9 rfl (lv_at hl 1 rfl) ?_
  refine lv_aload_n hx hb dX1_find_10 rfl (lv_at hl 2 rfl) ?_
  refine xVR (q0 := 0) (ci := 1) (As := [.ref q, .ref q2]) (rest := []) (stk := [.int (xFC n f g)]) ⟨hx, hb, hml, hown, hts⟩ (c_X1_firstClimb γ l w wa q a q2 b n h f g (by omega) (by omega)) (cwV 2 hts gX1_find_X1_firstClimb rfl rfl rfl hdv_X1_firstClimb ⟨(Nat.le_of_ble_eq_true rfl), (Nat.le_of_ble_eq_true rfl)⟩) hK hP [0, 1, 2, 3, 4, 5] rfl rfl rfl rfl hl.1 rfl (Nat.le_of_ble_eq_true rfl) dX1_find_11 ⟨(Nat.le_of_ble_eq_true rfl), (Nat.le_of_ble_eq_true rfl)⟩ rfl ?_
  refine lv_istore_n (lv' := [(3, .int (xFC n f g)), (0, .ref w), (1, .ref q), (2, .ref q2)]) hx hb dX1_find_14 rfl hl (by decide) rfl (fun ls hl => ?_)
  refine lv_iconst (v := 0) hx hb dX1_find_15 (by decide) ?_
  refine lv_istore (lv' := [(4, .int 0), (3, .int (xFC n f g)), (0, .ref w), (1, .ref q), (2, .ref q2)]) hx hb dX1_find_16 hl (by decide) rfl (fun ls hl => ?_)
  refine lv_iconst (v := 0) hx hb dX1_find_18 (by decide) ?_
  refine lv_istore (lv' := [(5, .int 0), (4, .int 0), (3, .int (xFC n f g)), (0, .ref w), (1, .ref q), (2, .ref q2)]) hx hb dX1_find_19 hl (by decide) rfl (fun ls hl => ?_)
  have loop21 : ∀ j : Nat, ∀ (k : Nat) (h8 : xRow), k + j = n → (∀ i, i < k → h8 i = xHt n f g i) → ∀ (H : Heap) (locs : List Loc), xP γ ([xO w 1 [.ref wa, .int (nI n)], xA γ wa 12 h8, xO q 0 [.ref a, .int (nI n)], xA γ a 12 f, xO q2 0 [.ref b, .int (nI n)], xA γ b 12 g]) H → va_D A ([xO w 1 [.ref wa, .int (nI n)], xA γ wa 12 h8, xO q 0 [.ref a, .int (nI n)], xA γ a 12 f, xO q2 0 [.ref b, .int (nI n)], xA γ b 12 g]) → va_S A s.heap H locs → ∀ ls : Array Slot, lv_has ls 6 [(0, .ref w), (1, .ref q), (2, .ref q2), (3, .int (xCl n f g k)), (4, .int (xHt n f g k)), (5, .int (nI k))] → W p l e ({ frames := 2, cells := 0, slots := 0, locals := 45 } : Room) s m args below meth c H locs 0 0 Q (F0 m 21 ls []) := by
    intro j
    induction j with
    | zero =>
      intro k h8 hj hh H locs hP hD hS ls hl
      refine lv_iload hx hb dX1_find_21 (lv_at hl 5 rfl) ?_
      refine lv_aload_n hx hb dX1_find_23 rfl (lv_at hl 0 rfl) ?_
      refine va_get (D := γ.1) (ci := 1) (v := .int (nI n)) (C := RX1) (T := TX1) (N := 2) hx hb hts iwX1_find_1 hown hK hP 0 rfl rfl 1 (by decide) (hts _ flX1_find_15) (fun _ h9 => h9) rfl dX1_find_24 ?_
      refine lv_icmp_ge (tgt := 86) hx hb dX1_find_27 (by decide) (fun _ => ?_) (fun c => absurd (nI_le (a := n) (b := k) (by omega) (by omega)) c)
      subst hQ
      exact xM_v hx hb hr hlocks dX1_find_86 hP rfl hS (Nat.le_of_ble_eq_true rfl) (Nat.le_of_ble_eq_true rfl) (⟨rfl, h8, fun i hi => hh i (by omega), rfl⟩)
    | succ j ih21 =>
      intro k h8 hj hh H locs hP hD hS ls hl
      refine lv_iload hx hb dX1_find_21 (lv_at hl 5 rfl) ?_
      refine lv_aload_n hx hb dX1_find_23 rfl (lv_at hl 0 rfl) ?_
      refine va_get (D := γ.1) (ci := 1) (v := .int (nI n)) (C := RX1) (T := TX1) (N := 2) hx hb hts iwX1_find_1 hown hK hP 0 rfl rfl 1 (by decide) (hts _ flX1_find_15) (fun _ h9 => h9) rfl dX1_find_24 ?_
      refine lv_icmp_ge (tgt := 86) hx hb dX1_find_27 (by decide) (fun c => absurd c (nI_ge (a := k) (b := n) (by omega) (by omega))) (fun _ => ?_)
      refine lv_iload hx hb dX1_find_30 (lv_at hl 5 rfl) ?_
      refine lv_aload_n hx hb dX1_find_32 rfl (lv_at hl 0 rfl) ?_
      refine va_get (D := γ.1) (ci := 1) (v := .ref wa) (C := RX1) (T := TX1) (N := 2) hx hb hts iwX1_find_1 hown hK hP 0 rfl rfl 0 (by decide) (hts _ flX1_find_9) (fun _ h9 => h9) rfl dX1_find_33 ?_
      refine va_alen (v := nI 12) hx hb hK hP 1 0 rfl rfl rfl dX1_find_36 ?_
      refine lv_icmp_ge (tgt := 86) hx hb dX1_find_37 (by decide) (fun c => absurd c (nI_ge (a := k) (b := 12) (by omega) (by omega))) (fun _ => ?_)
      refine lv_aload_n hx hb dX1_find_40 rfl (lv_at hl 0 rfl) ?_
      refine va_get (D := γ.1) (ci := 1) (v := .ref wa) (C := RX1) (T := TX1) (N := 2) hx hb hts iwX1_find_1 hown hK hP 0 rfl rfl 0 (by decide) (hts _ flX1_find_9) (fun _ h9 => h9) rfl dX1_find_41 ?_
      refine lv_iload hx hb dX1_find_44 (lv_at hl 5 rfl) ?_
      refine lv_iload hx hb dX1_find_46 (lv_at hl 4 rfl) ?_
      refine x_iast (f := h8) hx hb hK hP hD hS 1 rfl k rfl (by omega) (by omega) dX1_find_48 (fun H locs hP hD hS => ?_)
      have hP : xP γ ([xO w 1 [.ref wa, .int (nI n)], xA γ wa 12 (upd h8 k (xHt n f g k)), xO q 0 [.ref a, .int (nI n)], xA γ a 12 f, xO q2 0 [.ref b, .int (nI n)], xA γ b 12 g]) H := hP
      have hD : va_D A ([xO w 1 [.ref wa, .int (nI n)], xA γ wa 12 (upd h8 k (xHt n f g k)), xO q 0 [.ref a, .int (nI n)], xA γ a 12 f, xO q2 0 [.ref b, .int (nI n)], xA γ b 12 g]) := hD
      refine lv_iload_n hx hb dX1_find_49 rfl (lv_at hl 3 rfl) ?_
      refine lv_iload hx hb dX1_find_50 (lv_at hl 5 rfl) ?_
      refine lv_if_ne (tgt := 59) hx hb dX1_find_52 (by decide) (fun c52 => ?_) (fun c52 => ?_)
      · refine lv_aload_n hx hb dX1_find_59 rfl (lv_at hl 2 rfl) ?_
        refine lv_iload hx hb dX1_find_60 (lv_at hl 5 rfl) ?_
        refine xVR (q0 := 4) (ci := 0) (As := [.int (nI k)]) (rest := [.int (xCl n f g k)]) (stk := [.int (g k), .int (xCl n f g k)]) ⟨hx, hb, hml, hown, hts⟩ (c_X0_at γ l q2 b (nI n) g k (by omega)) (cwV 1 hts gX1_find_X0_at rfl rfl rfl hdv_X0_at ⟨(Nat.le_of_ble_eq_true rfl), (Nat.le_of_ble_eq_true rfl)⟩) hK hP [4, 5] rfl rfl rfl rfl hl.1 rfl (Nat.le_of_ble_eq_true rfl) dX1_find_62 ⟨(Nat.le_of_ble_eq_true rfl), (Nat.le_of_ble_eq_true rfl)⟩ rfl ?_
        refine lv_aload_n hx hb dX1_find_65 rfl (lv_at hl 1 rfl) ?_
        refine lv_iload hx hb dX1_find_66 (lv_at hl 5 rfl) ?_
        refine xVR (q0 := 2) (ci := 0) (As := [.int (nI k)]) (rest := [.int (g k), .int (xCl n f g k)]) (stk := [.int (f k), .int (g k), .int (xCl n f g k)]) ⟨hx, hb, hml, hown, hts⟩ (c_X0_at γ l q a (nI n) f k (by omega)) (cwV 1 hts gX1_find_X0_at rfl rfl rfl hdv_X0_at ⟨(Nat.le_of_ble_eq_true rfl), (Nat.le_of_ble_eq_true rfl)⟩) hK hP [2, 3] rfl rfl rfl rfl hl.1 rfl (Nat.le_of_ble_eq_true rfl) dX1_find_68 ⟨(Nat.le_of_ble_eq_true rfl), (Nat.le_of_ble_eq_true rfl)⟩ rfl ?_
        refine lv_isub hx hb dX1_find_71 ?_
        refine lv_iadd hx hb dX1_find_72 ?_
        refine x_top (y := xCl n f g (k + 1)) (xCl_t c52) ?_
        refine lv_istore_n (lv' := [(3, .int (xCl n f g (k + 1))), (0, .ref w), (1, .ref q), (2, .ref q2), (4, .int (xHt n f g k)), (5, .int (nI k))]) hx hb dX1_find_73 rfl hl (by decide) rfl (fun ls hl => ?_)
        refine lv_iload hx hb dX1_find_74 (lv_at hl 4 rfl) ?_
        refine lv_iload_n hx hb dX1_find_76 rfl (lv_at hl 0 rfl) ?_
        refine lv_iadd hx hb dX1_find_77 ?_
        refine lv_istore (lv' := [(4, .int ((xHt n f g k) + (xCl n f g (k + 1)))), (3, .int (xCl n f g (k + 1))), (0, .ref w), (1, .ref q), (2, .ref q2), (5, .int (nI k))]) hx hb dX1_find_78 hl (by decide) rfl (fun ls hl => ?_)
        refine lv_iinc (v := nI (k + 1)) (lv' := [(5, .int (nI (k + 1))), (4, .int ((xHt n f g k) + (xCl n f g (k + 1)))), (3, .int (xCl n f g (k + 1))), (0, .ref w), (1, .ref q), (2, .ref q2)]) hx hb dX1_find_80 hl (k := 5) rfl (nI_add k 1) (by decide) rfl (fun ls hl => ?_)
        refine lv_goto (tgt := 21) hx hb dX1_find_83 (by decide) ?_
        exact ih21 (k + 1) (upd h8 k (xHt n f g k)) (by omega) (fun i hi => by unfold upd; split; (rename_i e; rw [e]); exact hh i (by omega)) _ _ hP hD hS ls (lv_sub hl [3, 4, 5, 2, 1, 0] rfl)
      · refine lv_iconst (v := 0) hx hb dX1_find_55 (by decide) ?_
        refine lv_goto (tgt := 72) hx hb dX1_find_56 (by decide) ?_
        refine lv_iadd hx hb dX1_find_72 ?_
        refine x_top (y := xCl n f g (k + 1)) (xCl_f (by omega) c52) ?_
        refine lv_istore_n (lv' := [(3, .int (xCl n f g (k + 1))), (0, .ref w), (1, .ref q), (2, .ref q2), (4, .int (xHt n f g k)), (5, .int (nI k))]) hx hb dX1_find_73 rfl hl (by decide) rfl (fun ls hl => ?_)
        refine lv_iload hx hb dX1_find_74 (lv_at hl 4 rfl) ?_
        refine lv_iload_n hx hb dX1_find_76 rfl (lv_at hl 0 rfl) ?_
        refine lv_iadd hx hb dX1_find_77 ?_
        refine lv_istore (lv' := [(4, .int ((xHt n f g k) + (xCl n f g (k + 1)))), (3, .int (xCl n f g (k + 1))), (0, .ref w), (1, .ref q), (2, .ref q2), (5, .int (nI k))]) hx hb dX1_find_78 hl (by decide) rfl (fun ls hl => ?_)
        refine lv_iinc (v := nI (k + 1)) (lv' := [(5, .int (nI (k + 1))), (4, .int ((xHt n f g k) + (xCl n f g (k + 1)))), (3, .int (xCl n f g (k + 1))), (0, .ref w), (1, .ref q), (2, .ref q2)]) hx hb dX1_find_80 hl (k := 5) rfl (nI_add k 1) (by decide) rfl (fun ls hl => ?_)
        refine lv_goto (tgt := 21) hx hb dX1_find_83 (by decide) ?_
        exact ih21 (k + 1) (upd h8 k (xHt n f g k)) (by omega) (fun i hi => by unfold upd; split; (rename_i e; rw [e]); exact hh i (by omega)) _ _ hP hD hS ls (lv_sub hl [3, 4, 5, 2, 1, 0] rfl)
  exact loop21 n 0 h (by omega) (fun i h => absurd h (Nat.not_lt_zero i)) _ _ hP hD hS ls (lv_sub hl [3, 4, 5, 2, 1, 0] rfl)

/-! RingSeesaw$Ring, method by method (rows laid by wip/whole/spec_ring.py) -/
theorem flX0_size_15 : Cond.fieldLink RX0 15 "RingSeesaw$Ring" "size" "I" ∈ wsX0_size := by decide +kernel
theorem iwX0_size_0 : ∀ w ∈ wsX00, w ∈ wsX0_size := by decide +kernel
set_option maxHeartbeats 4000000 in
set_option maxRecDepth 100000 in
theorem c_X0_size (γ : xG) (l : Launch) (q a n : Nat) (f : xRow) : xR γ l yX0_size wsX0_size ({ frames := 0, cells := 0, slots := 0, locals := 0 } : Room) [.ref q] ([xO q 0 [.ref a, .int (nI n)], xA γ a 12 f]) (some (.int (nI n))) := by
  refine xR.of (cc := cX0_size) (maxL := 1) (ret := (some .int)) (by decide +kernel) rfl (Nat.le_of_ble_eq_true rfl) ?_
  intro p e s m below meth c hx hb hr hml hts hown hlocks hP hK ls hl
  generalize hargs : ([.ref q] : List Value).toArray = args at hts ⊢
  obtain ⟨Q, hQ⟩ : ∃ Q9, Q9 = MQ below (xRQ (some (.int (nI n)))) args s 0 0 (fun _ => False) := ⟨_, rfl⟩
  rw [← hQ]
  have hown : s.vm.findClass RX0 = some m.cls := hown
  have hl : lv_has ls 1 [(0, .ref q)] := hl
  refine lv_aload_n hx hb dX0_size_0 rfl (lv_at hl 0 rfl) ?_
  refine va_get (D := γ.1) (ci := 0) (v := .int (nI n)) (C := RX0) (T := TX0) (N := 2) hx hb hts iwX0_size_0 hown hK hP 0 rfl rfl 1 (by decide) (hts _ flX0_size_15) (fun _ h9 => h9) rfl dX0_size_1 ?_
  subst hQ
  exact xR_i hx hb hr hlocks dX0_size_4 (rfl)

theorem flX0_at_9 : Cond.fieldLink RX0 9 "RingSeesaw$Ring" "numbers" "[I" ∈ wsX0_at := by decide +kernel
theorem iwX0_at_0 : ∀ w ∈ wsX00, w ∈ wsX0_at := by decide +kernel
set_option maxHeartbeats 4000000 in
set_option maxRecDepth 100000 in
theorem c_X0_at (γ : xG) (l : Launch) (q a : Nat) (sz : Int32) (f : xRow) (k : Nat) (hk : k < 12) : xR γ l yX0_at wsX0_at ({ frames := 0, cells := 0, slots := 0, locals := 0 } : Room) [.ref q, .int (nI k)] ([xO q 0 [.ref a, .int sz], xA γ a 12 f]) (some (.int (f k))) := by
  refine xR.of (cc := cX0_at) (maxL := 2) (ret := (some .int)) (by decide +kernel) rfl (Nat.le_of_ble_eq_true rfl) ?_
  intro p e s m below meth c hx hb hr hml hts hown hlocks hP hK ls hl
  generalize hargs : ([.ref q, .int (nI k)] : List Value).toArray = args at hts ⊢
  obtain ⟨Q, hQ⟩ : ∃ Q9, Q9 = MQ below (xRQ (some (.int (f k)))) args s 0 0 (fun _ => False) := ⟨_, rfl⟩
  rw [← hQ]
  have hown : s.vm.findClass RX0 = some m.cls := hown
  have hl : lv_has ls 2 [(0, .ref q), (1, .int (nI k))] := hl
  refine lv_iload_n hx hb dX0_at_0 rfl (lv_at hl 1 rfl) ?_
  refine lv_if_lt (tgt := 22) hx hb dX0_at_1 (by decide) (fun c => absurd c (nI_nlt (a := k) (b := 0) (by omega) (by omega))) (fun _ => ?_)
  refine lv_iload_n hx hb dX0_at_4 rfl (lv_at hl 1 rfl) ?_
  refine lv_aload_n hx hb dX0_at_5 rfl (lv_at hl 0 rfl) ?_
  refine va_get (D := γ.1) (ci := 0) (v := .ref a) (C := RX0) (T := TX0) (N := 2) hx hb hts iwX0_at_0 hown hK hP 0 rfl rfl 0 (by decide) (hts _ flX0_at_9) (fun _ h9 => h9) rfl dX0_at_6 ?_
  refine va_alen (v := nI 12) hx hb hK hP 1 0 rfl rfl rfl dX0_at_9 ?_
  refine lv_icmp_ge (tgt := 22) hx hb dX0_at_10 (by decide) (fun c => absurd c (nI_ge (a := k) (b := 12) (by omega) (by omega))) (fun _ => ?_)
  refine lv_aload_n hx hb dX0_at_13 rfl (lv_at hl 0 rfl) ?_
  refine va_get (D := γ.1) (ci := 0) (v := .ref a) (C := RX0) (T := TX0) (N := 2) hx hb hts iwX0_at_0 hown hK hP 0 rfl rfl 0 (by decide) (hts _ flX0_at_9) (fun _ h9 => h9) rfl dX0_at_14 ?_
  refine lv_iload_n hx hb dX0_at_17 rfl (lv_at hl 1 rfl) ?_
  refine x_iald (f := f) hx hb hK hP 1 rfl k rfl (by omega) (by omega) dX0_at_18 ?_
  refine lv_goto (tgt := 23) hx hb dX0_at_19 (by decide) ?_
  subst hQ
  exact xR_i hx hb hr hlocks dX0_at_23 (rfl)

theorem flX0_write_9 : Cond.fieldLink RX0 9 "RingSeesaw$Ring" "numbers" "[I" ∈ wsX0_write := by decide +kernel
theorem iwX0_write_0 : ∀ w ∈ wsX00, w ∈ wsX0_write := by decide +kernel
set_option maxHeartbeats 4000000 in
set_option maxRecDepth 100000 in
theorem c_X0_write (γ : xG) (l : Launch) (q a : Nat) (sz : Int32) (f : xRow) (k : Nat) (x : Int32) (hk : k < 12) : xM γ l yX0_write wsX0_write ({ frames := 0, cells := 0, slots := 0, locals := 0 } : Room) [.ref q, .int (nI k), .int x] ([xO q 0 [.ref a, .int sz], xA γ a 12 f]) (fun r w => r = none ∧ w = [xO q 0 [.ref a, .int sz], xA γ a 12 (upd f k x)]) 0 0 := by
  refine xM.of (cc := cX0_write) (maxL := 3) (ret := none) (by decide +kernel) rfl (Nat.le_of_ble_eq_true rfl) ?_
  intro p e s m below meth c hx hb hr hml hts hown hlocks hin hP hK A hA hD ls hl
  have hS : va_S A s.heap s.heap [] := va_S.rf
  generalize hargs : ([.ref q, .int (nI k), .int x] : List Value).toArray = args at hts ⊢
  obtain ⟨Q, hQ⟩ : ∃ Q9, Q9 = MQ below (xMQ γ (List.map Prod.fst ([xO q 0 [.ref a, .int sz], xA γ a 12 f])) A (fun r w => r = none ∧ w = [xO q 0 [.ref a, .int sz], xA γ a 12 (upd f k x)])) args s 0 0 A := ⟨_, rfl⟩
  rw [← hQ]
  have hown : s.vm.findClass RX0 = some m.cls := hown
  have hl : lv_has ls 3 [(0, .ref q), (1, .int (nI k)), (2, .int x)] := hl
  refine lv_iload_n hx hb dX0_write_0 rfl (lv_at hl 1 rfl) ?_
  refine lv_if_lt (tgt := 20) hx hb dX0_write_1 (by decide) (fun c => absurd c (nI_nlt (a := k) (b := 0) (by omega) (by omega))) (fun _ => ?_)
  refine lv_iload_n hx hb dX0_write_4 rfl (lv_at hl 1 rfl) ?_
  refine lv_aload_n hx hb dX0_write_5 rfl (lv_at hl 0 rfl) ?_
  refine va_get (D := γ.1) (ci := 0) (v := .ref a) (C := RX0) (T := TX0) (N := 2) hx hb hts iwX0_write_0 hown hK hP 0 rfl rfl 0 (by decide) (hts _ flX0_write_9) (fun _ h9 => h9) rfl dX0_write_6 ?_
  refine va_alen (v := nI 12) hx hb hK hP 1 0 rfl rfl rfl dX0_write_9 ?_
  refine lv_icmp_ge (tgt := 20) hx hb dX0_write_10 (by decide) (fun c => absurd c (nI_ge (a := k) (b := 12) (by omega) (by omega))) (fun _ => ?_)
  refine lv_aload_n hx hb dX0_write_13 rfl (lv_at hl 0 rfl) ?_
  refine va_get (D := γ.1) (ci := 0) (v := .ref a) (C := RX0) (T := TX0) (N := 2) hx hb hts iwX0_write_0 hown hK hP 0 rfl rfl 0 (by decide) (hts _ flX0_write_9) (fun _ h9 => h9) rfl dX0_write_14 ?_
  refine lv_iload_n hx hb dX0_write_17 rfl (lv_at hl 1 rfl) ?_
  refine lv_iload_n hx hb dX0_write_18 rfl (lv_at hl 2 rfl) ?_
  refine x_iast (f := f) hx hb hK hP hD hS 1 rfl k rfl (by omega) (by omega) dX0_write_19 (fun H locs hP hD hS => ?_)
  have hP : xP γ ([xO q 0 [.ref a, .int sz], xA γ a 12 (upd f k x)]) H := hP
  have hD : va_D A ([xO q 0 [.ref a, .int sz], xA γ a 12 (upd f k x)]) := hD
  subst hQ
  exact xM_v hx hb hr hlocks dX0_write_20 hP rfl hS (Nat.le_of_ble_eq_true rfl) (Nat.le_of_ble_eq_true rfl) (⟨rfl, rfl⟩)

theorem hdv_X0_write : yX0_write.cls = RX0 ∧ yX0_write.cls ≠ "java/lang/invoke/MethodHandle" ∧ yX0_write.cls ≠ "java/lang/invoke/VarHandle" ∧ (parseMethodDescriptor yX0_write.desc).map (fun d => d.parameters.length) = some 2 := by decide +kernel
theorem flX0_clear_15 : Cond.fieldLink RX0 15 "RingSeesaw$Ring" "size" "I" ∈ wsX0_clear := by decide +kernel
theorem iwX0_clear_0 : ∀ w ∈ wsX00, w ∈ wsX0_clear := by decide +kernel
theorem flX0_clear_9 : Cond.fieldLink RX0 9 "RingSeesaw$Ring" "numbers" "[I" ∈ wsX0_clear := by decide +kernel
set_option maxHeartbeats 4000000 in
set_option maxRecDepth 100000 in
theorem c_X0_clear (γ : xG) (l : Launch) (q a : Nat) (sz : Int32) (f : xRow) (x : Int32) : xM γ l yX0_clear wsX0_clear ({ frames := 1, cells := 0, slots := 0, locals := 22 } : Room) [.ref q, .int x] ([xO q 0 [.ref a, .int sz], xA γ a 12 f]) (fun r w => r = none ∧ w = [xO q 0 [.ref a, .int x], xA γ a 12 (fun _ => 0)]) 0 0 := by
  refine xM.of (cc := cX0_clear) (maxL := 3) (ret := none) (by decide +kernel) rfl (Nat.le_of_ble_eq_true rfl) ?_
  intro p e s m below meth c hx hb hr hml hts hown hlocks hin hP hK A hA hD ls hl
  have hS : va_S A s.heap s.heap [] := va_S.rf
  generalize hargs : ([.ref q, .int x] : List Value).toArray = args at hts ⊢
  obtain ⟨Q, hQ⟩ : ∃ Q9, Q9 = MQ below (xMQ γ (List.map Prod.fst ([xO q 0 [.ref a, .int sz], xA γ a 12 f])) A (fun r w => r = none ∧ w = [xO q 0 [.ref a, .int x], xA γ a 12 (fun _ => 0)])) args s 0 0 A := ⟨_, rfl⟩
  rw [← hQ]
  have hown : s.vm.findClass RX0 = some m.cls := hown
  have hl : lv_has ls 3 [(0, .ref q), (1, .int x)] := hl
  refine lv_aload_n hx hb dX0_clear_0 rfl (lv_at hl 0 rfl) ?_
  refine lv_iload_n hx hb dX0_clear_1 rfl (lv_at hl 1 rfl) ?_
  refine va_put (D := γ.1) (ci := 0) (v := .int x) (ty := .int) (C := RX0) (T := TX0) (N := 2) hx hb hts iwX0_clear_0 tyX0 tyX0_ok nmX0 hown hK hP hD hS 0 rfl rfl 1 (by decide) (hts _ flX0_clear_15) (fun _ h9 => h9) rfl (by decide +kernel) rfl rfl (Nat.le_of_ble_eq_true rfl) dX0_clear_2 (fun H locs hP hD hS => ?_)
  have hP : xP γ ([xO q 0 [.ref a, .int x], xA γ a 12 f]) H := hP
  have hD : va_D A ([xO q 0 [.ref a, .int x], xA γ a 12 f]) := hD
  refine lv_iconst (v := 0) hx hb dX0_clear_5 (by decide) ?_
  refine lv_istore_n (lv' := [(2, .int 0), (0, .ref q), (1, .int x)]) hx hb dX0_clear_6 rfl hl (by decide) rfl (fun ls hl => ?_)
  have loop7 : ∀ j : Nat, ∀ (k : Nat) (g : xRow), k + j = 12 → (∀ i, i < k → g i = 0) → ∀ (H : Heap) (locs : List Loc), xP γ ([xO q 0 [.ref a, .int x], xA γ a 12 g]) H → va_D A ([xO q 0 [.ref a, .int x], xA γ a 12 g]) → va_S A s.heap H locs → ∀ ls : Array Slot, lv_has ls 3 [(0, .ref q), (2, .int (nI k))] → W p l e ({ frames := 1, cells := 0, slots := 0, locals := 22 } : Room) s m args below meth c H locs 0 0 Q (F0 m 7 ls []) := by
    intro j
    induction j with
    | zero =>
      intro k g hj hg H locs hP hD hS ls hl
      refine lv_iload_n hx hb dX0_clear_7 rfl (lv_at hl 1 rfl) ?_
      refine lv_aload_n hx hb dX0_clear_8 rfl (lv_at hl 0 rfl) ?_
      refine va_get (D := γ.1) (ci := 0) (v := .ref a) (C := RX0) (T := TX0) (N := 2) hx hb hts iwX0_clear_0 hown hK hP 0 rfl rfl 0 (by decide) (hts _ flX0_clear_9) (fun _ h9 => h9) rfl dX0_clear_9 ?_
      refine va_alen (v := nI 12) hx hb hK hP 1 0 rfl rfl rfl dX0_clear_12 ?_
      refine lv_icmp_ge (tgt := 28) hx hb dX0_clear_13 (by decide) (fun _ => ?_) (fun c => absurd (nI_le (a := 12) (b := k) (by omega) (by omega)) c)
      have hP := xP_row hP 1 rfl (fun _ => 0) (fun i hi => hg i (by omega))
      have hP : xP γ [xO q 0 [.ref a, .int x], xA γ a 12 (fun _ => 0)] H := hP
      subst hQ
      exact xM_v hx hb hr hlocks dX0_clear_28 hP rfl hS (Nat.le_of_ble_eq_true rfl) (Nat.le_of_ble_eq_true rfl) (⟨rfl, rfl⟩)
    | succ j ih7 =>
      intro k g hj hg H locs hP hD hS ls hl
      refine lv_iload_n hx hb dX0_clear_7 rfl (lv_at hl 1 rfl) ?_
      refine lv_aload_n hx hb dX0_clear_8 rfl (lv_at hl 0 rfl) ?_
      refine va_get (D := γ.1) (ci := 0) (v := .ref a) (C := RX0) (T := TX0) (N := 2) hx hb hts iwX0_clear_0 hown hK hP 0 rfl rfl 0 (by decide) (hts _ flX0_clear_9) (fun _ h9 => h9) rfl dX0_clear_9 ?_
      refine va_alen (v := nI 12) hx hb hK hP 1 0 rfl rfl rfl dX0_clear_12 ?_
      refine lv_icmp_ge (tgt := 28) hx hb dX0_clear_13 (by decide) (fun c => absurd c (nI_ge (a := k) (b := 12) (by omega) (by omega))) (fun _ => ?_)
      refine lv_aload_n hx hb dX0_clear_16 rfl (lv_at hl 0 rfl) ?_
      refine lv_iload_n hx hb dX0_clear_17 rfl (lv_at hl 1 rfl) ?_
      refine lv_iconst (v := 0) hx hb dX0_clear_18 (by decide) ?_
      refine xVM (q0 := 0) (ci := 0) (As := [.int (nI k), .int 0]) (rest := []) ⟨hx, hb, hml, hown, hts⟩ (c_X0_write γ l q a x g k 0 (by omega)) (cwV 2 hts gX0_clear_X0_write rfl rfl rfl hdv_X0_write ⟨(Nat.le_of_ble_eq_true rfl), (Nat.le_of_ble_eq_true rfl)⟩) hK hP hD hS hA [0, 1] rfl rfl rfl rfl rfl hl.1 rfl (Nat.le_of_ble_eq_true rfl) dX0_clear_19 ⟨(Nat.le_of_ble_eq_true rfl), (Nat.le_of_ble_eq_true rfl)⟩ (fun r9 w9 H locs hw hP hD hS => ?_)
      obtain ⟨rfl, rfl⟩ := hw
      have hP : xP γ ([xO q 0 [.ref a, .int x], xA γ a 12 (upd g k 0)]) H := hP
      have hD : va_D A ([xO q 0 [.ref a, .int x], xA γ a 12 (upd g k 0)]) := hD
      refine W.eq (g2 := F0 m 22 ls []) rfl ?_
      refine lv_iinc (v := nI (k + 1)) (lv' := [(2, .int (nI (k + 1))), (0, .ref q)]) hx hb dX0_clear_22 hl (k := 1) rfl (nI_add k 1) (by decide) rfl (fun ls hl => ?_)
      refine lv_goto (tgt := 7) hx hb dX0_clear_25 (by decide) ?_
      exact ih7 (k + 1) (upd g k 0) (by omega) (fun i h => by unfold upd; split; exact rfl; exact hg i (by omega)) _ _ hP hD hS ls (lv_sub hl [1, 0] rfl)
  exact loop7 12 0 f (by omega) (fun i h => absurd h (Nat.not_lt_zero i)) _ _ hP hD hS ls (lv_sub hl [1, 0] rfl)

theorem hdv_X0_at : yX0_at.cls = RX0 ∧ yX0_at.cls ≠ "java/lang/invoke/MethodHandle" ∧ yX0_at.cls ≠ "java/lang/invoke/VarHandle" ∧ (parseMethodDescriptor yX0_at.desc).map (fun d => d.parameters.length) = some 1 := by decide +kernel
theorem flX0_copyFrom_15 : Cond.fieldLink RX0 15 "RingSeesaw$Ring" "size" "I" ∈ wsX0_copyFrom := by decide +kernel
theorem iwX0_copyFrom_0 : ∀ w ∈ wsX00, w ∈ wsX0_copyFrom := by decide +kernel
theorem flX0_copyFrom_9 : Cond.fieldLink RX0 9 "RingSeesaw$Ring" "numbers" "[I" ∈ wsX0_copyFrom := by decide +kernel
set_option maxHeartbeats 4000000 in
set_option maxRecDepth 100000 in
theorem c_X0_copyFrom (γ : xG) (l : Launch) (q a q2 b : Nat) (sz s2 : Int32) (f g : xRow) : xM γ l yX0_copyFrom wsX0_copyFrom ({ frames := 1, cells := 0, slots := 0, locals := 22 } : Room) [.ref q, .ref q2] ([xO q 0 [.ref a, .int sz], xA γ a 12 f, xO q2 0 [.ref b, .int s2], xA γ b 12 g]) (fun r w => r = none ∧ w = [xO q 0 [.ref a, .int s2], xA γ a 12 g, xO q2 0 [.ref b, .int s2], xA γ b 12 g]) 0 0 := by
  refine xM.of (cc := cX0_copyFrom) (maxL := 3) (ret := none) (by decide +kernel) rfl (Nat.le_of_ble_eq_true rfl) ?_
  intro p e s m below meth c hx hb hr hml hts hown hlocks hin hP hK A hA hD ls hl
  have hS : va_S A s.heap s.heap [] := va_S.rf
  generalize hargs : ([.ref q, .ref q2] : List Value).toArray = args at hts ⊢
  obtain ⟨Q, hQ⟩ : ∃ Q9, Q9 = MQ below (xMQ γ (List.map Prod.fst ([xO q 0 [.ref a, .int sz], xA γ a 12 f, xO q2 0 [.ref b, .int s2], xA γ b 12 g])) A (fun r w => r = none ∧ w = [xO q 0 [.ref a, .int s2], xA γ a 12 g, xO q2 0 [.ref b, .int s2], xA γ b 12 g])) args s 0 0 A := ⟨_, rfl⟩
  rw [← hQ]
  have hown : s.vm.findClass RX0 = some m.cls := hown
  have hl : lv_has ls 3 [(0, .ref q), (1, .ref q2)] := hl
  refine lv_aload_n hx hb dX0_copyFrom_0 rfl (lv_at hl 0 rfl) ?_
  refine lv_aload_n hx hb dX0_copyFrom_1 rfl (lv_at hl 1 rfl) ?_
  refine va_get (D := γ.1) (ci := 0) (v := .int s2) (C := RX0) (T := TX0) (N := 2) hx hb hts iwX0_copyFrom_0 hown hK hP 2 rfl rfl 1 (by decide) (hts _ flX0_copyFrom_15) (fun _ h9 => h9) rfl dX0_copyFrom_2 ?_
  refine va_put (D := γ.1) (ci := 0) (v := .int s2) (ty := .int) (C := RX0) (T := TX0) (N := 2) hx hb hts iwX0_copyFrom_0 tyX0 tyX0_ok nmX0 hown hK hP hD hS 0 rfl rfl 1 (by decide) (hts _ flX0_copyFrom_15) (fun _ h9 => h9) rfl (by decide +kernel) rfl rfl (Nat.le_of_ble_eq_true rfl) dX0_copyFrom_5 (fun H locs hP hD hS => ?_)
  have hP : xP γ ([xO q 0 [.ref a, .int s2], xA γ a 12 f, xO q2 0 [.ref b, .int s2], xA γ b 12 g]) H := hP
  have hD : va_D A ([xO q 0 [.ref a, .int s2], xA γ a 12 f, xO q2 0 [.ref b, .int s2], xA γ b 12 g]) := hD
  refine lv_iconst (v := 0) hx hb dX0_copyFrom_8 (by decide) ?_
  refine lv_istore_n (lv' := [(2, .int 0), (0, .ref q), (1, .ref q2)]) hx hb dX0_copyFrom_9 rfl hl (by decide) rfl (fun ls hl => ?_)
  have loop10 : ∀ j : Nat, ∀ (k : Nat) (h : xRow), k + j = 12 → (∀ i, i < k → h i = g i) → ∀ (H : Heap) (locs : List Loc), xP γ ([xO q 0 [.ref a, .int s2], xA γ a 12 h, xO q2 0 [.ref b, .int s2], xA γ b 12 g]) H → va_D A ([xO q 0 [.ref a, .int s2], xA γ a 12 h, xO q2 0 [.ref b, .int s2], xA γ b 12 g]) → va_S A s.heap H locs → ∀ ls : Array Slot, lv_has ls 3 [(0, .ref q), (1, .ref q2), (2, .int (nI k))] → W p l e ({ frames := 1, cells := 0, slots := 0, locals := 22 } : Room) s m args below meth c H locs 0 0 Q (F0 m 10 ls []) := by
    intro j
    induction j with
    | zero =>
      intro k h hj hh H locs hP hD hS ls hl
      refine lv_iload_n hx hb dX0_copyFrom_10 rfl (lv_at hl 2 rfl) ?_
      refine lv_aload_n hx hb dX0_copyFrom_11 rfl (lv_at hl 0 rfl) ?_
      refine va_get (D := γ.1) (ci := 0) (v := .ref a) (C := RX0) (T := TX0) (N := 2) hx hb hts iwX0_copyFrom_0 hown hK hP 0 rfl rfl 0 (by decide) (hts _ flX0_copyFrom_9) (fun _ h9 => h9) rfl dX0_copyFrom_12 ?_
      refine va_alen (v := nI 12) hx hb hK hP 1 0 rfl rfl rfl dX0_copyFrom_15 ?_
      refine lv_icmp_ge (tgt := 35) hx hb dX0_copyFrom_16 (by decide) (fun _ => ?_) (fun c => absurd (nI_le (a := 12) (b := k) (by omega) (by omega)) c)
      have hP := xP_row hP 1 rfl g (fun i hi => hh i (by omega))
      have hP : xP γ [xO q 0 [.ref a, .int s2], xA γ a 12 g, xO q2 0 [.ref b, .int s2], xA γ b 12 g] H := hP
      subst hQ
      exact xM_v hx hb hr hlocks dX0_copyFrom_35 hP rfl hS (Nat.le_of_ble_eq_true rfl) (Nat.le_of_ble_eq_true rfl) (⟨rfl, rfl⟩)
    | succ j ih10 =>
      intro k h hj hh H locs hP hD hS ls hl
      refine lv_iload_n hx hb dX0_copyFrom_10 rfl (lv_at hl 2 rfl) ?_
      refine lv_aload_n hx hb dX0_copyFrom_11 rfl (lv_at hl 0 rfl) ?_
      refine va_get (D := γ.1) (ci := 0) (v := .ref a) (C := RX0) (T := TX0) (N := 2) hx hb hts iwX0_copyFrom_0 hown hK hP 0 rfl rfl 0 (by decide) (hts _ flX0_copyFrom_9) (fun _ h9 => h9) rfl dX0_copyFrom_12 ?_
      refine va_alen (v := nI 12) hx hb hK hP 1 0 rfl rfl rfl dX0_copyFrom_15 ?_
      refine lv_icmp_ge (tgt := 35) hx hb dX0_copyFrom_16 (by decide) (fun c => absurd c (nI_ge (a := k) (b := 12) (by omega) (by omega))) (fun _ => ?_)
      refine lv_aload_n hx hb dX0_copyFrom_19 rfl (lv_at hl 0 rfl) ?_
      refine lv_iload_n hx hb dX0_copyFrom_20 rfl (lv_at hl 2 rfl) ?_
      refine lv_aload_n hx hb dX0_copyFrom_21 rfl (lv_at hl 1 rfl) ?_
      refine lv_iload_n hx hb dX0_copyFrom_22 rfl (lv_at hl 2 rfl) ?_
      refine xVR (q0 := 2) (ci := 0) (As := [.int (nI k)]) (rest := [.int (nI k), .ref q]) (stk := [.int (g k), .int (nI k), .ref q]) ⟨hx, hb, hml, hown, hts⟩ (c_X0_at γ l q2 b s2 g k (by omega)) (cwV 1 hts gX0_copyFrom_X0_at rfl rfl rfl hdv_X0_at ⟨(Nat.le_of_ble_eq_true rfl), (Nat.le_of_ble_eq_true rfl)⟩) hK hP [2, 3] rfl rfl rfl rfl hl.1 rfl (Nat.le_of_ble_eq_true rfl) dX0_copyFrom_23 ⟨(Nat.le_of_ble_eq_true rfl), (Nat.le_of_ble_eq_true rfl)⟩ rfl ?_
      refine xVM (q0 := 0) (ci := 0) (As := [.int (nI k), .int (g k)]) (rest := []) ⟨hx, hb, hml, hown, hts⟩ (c_X0_write γ l q a s2 h k (g k) (by omega)) (cwV 2 hts gX0_copyFrom_X0_write rfl rfl rfl hdv_X0_write ⟨(Nat.le_of_ble_eq_true rfl), (Nat.le_of_ble_eq_true rfl)⟩) hK hP hD hS hA [0, 1] rfl rfl rfl rfl rfl hl.1 rfl (Nat.le_of_ble_eq_true rfl) dX0_copyFrom_26 ⟨(Nat.le_of_ble_eq_true rfl), (Nat.le_of_ble_eq_true rfl)⟩ (fun r9 w9 H locs hw hP hD hS => ?_)
      obtain ⟨rfl, rfl⟩ := hw
      have hP : xP γ ([xO q 0 [.ref a, .int s2], xA γ a 12 (upd h k (g k)), xO q2 0 [.ref b, .int s2], xA γ b 12 g]) H := hP
      have hD : va_D A ([xO q 0 [.ref a, .int s2], xA γ a 12 (upd h k (g k)), xO q2 0 [.ref b, .int s2], xA γ b 12 g]) := hD
      refine W.eq (g2 := F0 m 29 ls []) rfl ?_
      refine lv_iinc (v := nI (k + 1)) (lv' := [(2, .int (nI (k + 1))), (0, .ref q), (1, .ref q2)]) hx hb dX0_copyFrom_29 hl (k := 2) rfl (nI_add k 1) (by decide) rfl (fun ls hl => ?_)
      refine lv_goto (tgt := 10) hx hb dX0_copyFrom_32 (by decide) ?_
      exact ih10 (k + 1) (upd h k (g k)) (by omega) (fun i hi => by unfold upd; split; (rename_i e; rw [e]); exact hh i (by omega)) _ _ hP hD hS ls (lv_sub hl [1, 2, 0] rfl)
  exact loop10 12 0 f (by omega) (fun i h => absurd h (Nat.not_lt_zero i)) _ _ hP hD hS ls (lv_sub hl [1, 2, 0] rfl)

theorem flX0_rotate_15 : Cond.fieldLink RX0 15 "RingSeesaw$Ring" "size" "I" ∈ wsX0_rotate := by decide +kernel
theorem iwX0_rotate_0 : ∀ w ∈ wsX00, w ∈ wsX0_rotate := by decide +kernel
set_option maxHeartbeats 4000000 in
set_option maxRecDepth 100000 in
theorem c_X0_rotate (γ : xG) (l : Launch) (q a n : Nat) (f : xRow) (hn0 : 3 ≤ n) (hn1 : n ≤ 12) : xM γ l yX0_rotate wsX0_rotate ({ frames := 1, cells := 0, slots := 0, locals := 22 } : Room) [.ref q] ([xO q 0 [.ref a, .int (nI n)], xA γ a 12 f]) (fun r w => r = none ∧ w = [xO q 0 [.ref a, .int (nI n)], xA γ a 12 (xRot n f)]) 0 0 := by
  refine xM.of (cc := cX0_rotate) (maxL := 3) (ret := none) (by decide +kernel) rfl (Nat.le_of_ble_eq_true rfl) ?_
  intro p e s m below meth c hx hb hr hml hts hown hlocks hin hP hK A hA hD ls hl
  have hS : va_S A s.heap s.heap [] := va_S.rf
  generalize hargs : ([.ref q] : List Value).toArray = args at hts ⊢
  obtain ⟨Q, hQ⟩ : ∃ Q9, Q9 = MQ below (xMQ γ (List.map Prod.fst ([xO q 0 [.ref a, .int (nI n)], xA γ a 12 f])) A (fun r w => r = none ∧ w = [xO q 0 [.ref a, .int (nI n)], xA γ a 12 (xRot n f)])) args s 0 0 A := ⟨_, rfl⟩
  rw [← hQ]
  have hown : s.vm.findClass RX0 = some m.cls := hown
  have hl : lv_has ls 3 [(0, .ref q)] := hl
  refine lv_aload_n hx hb dX0_rotate_0 rfl (lv_at hl 0 rfl) ?_
  refine lv_aload_n hx hb dX0_rotate_1 rfl (lv_at hl 0 rfl) ?_
  refine va_get (D := γ.1) (ci := 0) (v := .int (nI n)) (C := RX0) (T := TX0) (N := 2) hx hb hts iwX0_rotate_0 hown hK hP 0 rfl rfl 1 (by decide) (hts _ flX0_rotate_15) (fun _ h9 => h9) rfl dX0_rotate_2 ?_
  refine lv_iconst (v := 1) hx hb dX0_rotate_5 (by decide) ?_
  refine lv_isub hx hb dX0_rotate_6 ?_
  refine x_top (y := nI (n - 1)) (pk_sub (a := n) (b := 1) (by omega)) ?_
  refine xVR (q0 := 0) (ci := 0) (As := [.int (nI (n - 1))]) (rest := []) (stk := [.int (f (n - 1))]) ⟨hx, hb, hml, hown, hts⟩ (c_X0_at γ l q a (nI n) f (n - 1) (by omega)) (cwV 1 hts gX0_rotate_X0_at rfl rfl rfl hdv_X0_at ⟨(Nat.le_of_ble_eq_true rfl), (Nat.le_of_ble_eq_true rfl)⟩) hK hP [0, 1] rfl rfl rfl rfl hl.1 rfl (Nat.le_of_ble_eq_true rfl) dX0_rotate_7 ⟨(Nat.le_of_ble_eq_true rfl), (Nat.le_of_ble_eq_true rfl)⟩ rfl ?_
  refine lv_istore_n (lv' := [(1, .int (f (n - 1))), (0, .ref q)]) hx hb dX0_rotate_10 rfl hl (by decide) rfl (fun ls hl => ?_)
  refine lv_aload_n hx hb dX0_rotate_11 rfl (lv_at hl 1 rfl) ?_
  refine va_get (D := γ.1) (ci := 0) (v := .int (nI n)) (C := RX0) (T := TX0) (N := 2) hx hb hts iwX0_rotate_0 hown hK hP 0 rfl rfl 1 (by decide) (hts _ flX0_rotate_15) (fun _ h9 => h9) rfl dX0_rotate_12 ?_
  refine lv_iconst (v := 1) hx hb dX0_rotate_15 (by decide) ?_
  refine lv_isub hx hb dX0_rotate_16 ?_
  refine x_top (y := nI (n - 1)) (pk_sub (a := n) (b := 1) (by omega)) ?_
  refine lv_istore_n (lv' := [(2, .int (nI (n - 1))), (1, .int (f (n - 1))), (0, .ref q)]) hx hb dX0_rotate_17 rfl hl (by decide) rfl (fun ls hl => ?_)
  rw [← xRt_0 n f] at hP hD
  have hP : xP γ [xO q 0 [.ref a, .int (nI n)], xA γ a 12 (xRt n f (n - 1))] s.heap := by simpa only [xRt_0] using hP
  have hD : va_D A [xO q 0 [.ref a, .int (nI n)], xA γ a 12 (xRt n f (n - 1))] := by simpa only [xRt_0] using hD
  have loop18 : ∀ j : Nat, (j < n) → ∀ (H : Heap) (locs : List Loc), xP γ ([xO q 0 [.ref a, .int (nI n)], xA γ a 12 (xRt n f j)]) H → va_D A ([xO q 0 [.ref a, .int (nI n)], xA γ a 12 (xRt n f j)]) → va_S A s.heap H locs → ∀ ls : Array Slot, lv_has ls 3 [(0, .ref q), (1, .int (f (n - 1))), (2, .int (nI j))] → W p l e ({ frames := 1, cells := 0, slots := 0, locals := 22 } : Room) s m args below meth c H locs 0 0 Q (F0 m 18 ls []) := by
    intro j
    induction j with
    | zero =>
      intro hj H locs hP hD hS ls hl
      refine lv_iload_n hx hb dX0_rotate_18 rfl (lv_at hl 2 rfl) ?_
      refine lv_if_le (tgt := 40) hx hb dX0_rotate_19 (by decide) (fun _ => ?_) (fun c => absurd (nI_le (a := 0) (b := 0) (by omega) (by omega)) c)
      refine lv_aload_n hx hb dX0_rotate_40 rfl (lv_at hl 0 rfl) ?_
      refine lv_iconst (v := 0) hx hb dX0_rotate_41 (by decide) ?_
      refine lv_iload_n hx hb dX0_rotate_42 rfl (lv_at hl 1 rfl) ?_
      refine xVM (q0 := 0) (ci := 0) (As := [.int 0, .int (f (n - 1))]) (rest := []) ⟨hx, hb, hml, hown, hts⟩ (c_X0_write γ l q a (nI n) (xRt n f 0) 0 (f (n - 1)) (by omega)) (cwV 2 hts gX0_rotate_X0_write rfl rfl rfl hdv_X0_write ⟨(Nat.le_of_ble_eq_true rfl), (Nat.le_of_ble_eq_true rfl)⟩) hK hP hD hS hA [0, 1] rfl rfl rfl rfl rfl hl.1 rfl (Nat.le_of_ble_eq_true rfl) dX0_rotate_43 ⟨(Nat.le_of_ble_eq_true rfl), (Nat.le_of_ble_eq_true rfl)⟩ (fun r9 w9 H locs hw hP hD hS => ?_)
      obtain ⟨rfl, rfl⟩ := hw
      have hP : xP γ ([xO q 0 [.ref a, .int (nI n)], xA γ a 12 (upd (xRt n f 0) 0 (f (n - 1)))]) H := hP
      have hD : va_D A ([xO q 0 [.ref a, .int (nI n)], xA γ a 12 (upd (xRt n f 0) 0 (f (n - 1)))]) := hD
      refine W.eq (g2 := F0 m 46 ls []) rfl ?_
      subst hQ
      exact xM_v hx hb hr hlocks dX0_rotate_46 hP rfl hS (Nat.le_of_ble_eq_true rfl) (Nat.le_of_ble_eq_true rfl) (⟨rfl, by rw [xRt_e (by omega)]⟩)
    | succ j ih18 =>
      intro hj H locs hP hD hS ls hl
      refine lv_iload_n hx hb dX0_rotate_18 rfl (lv_at hl 2 rfl) ?_
      refine lv_if_le (tgt := 40) hx hb dX0_rotate_19 (by decide) (fun c => absurd c (nI_nle (n := j + 1) (by omega) (by omega))) (fun _ => ?_)
      refine lv_aload_n hx hb dX0_rotate_22 rfl (lv_at hl 0 rfl) ?_
      refine lv_iload_n hx hb dX0_rotate_23 rfl (lv_at hl 2 rfl) ?_
      refine lv_aload_n hx hb dX0_rotate_24 rfl (lv_at hl 0 rfl) ?_
      refine lv_iload_n hx hb dX0_rotate_25 rfl (lv_at hl 2 rfl) ?_
      refine lv_iconst (v := 1) hx hb dX0_rotate_26 (by decide) ?_
      refine lv_isub hx hb dX0_rotate_27 ?_
      refine x_top (y := nI j) (nI_pred j) ?_
      refine xVR (q0 := 0) (ci := 0) (As := [.int (nI j)]) (rest := [.int (nI (j + 1)), .ref q]) (stk := [.int ((xRt n f (j + 1)) j), .int (nI (j + 1)), .ref q]) ⟨hx, hb, hml, hown, hts⟩ (c_X0_at γ l q a (nI n) (xRt n f (j + 1)) j (by omega)) (cwV 1 hts gX0_rotate_X0_at rfl rfl rfl hdv_X0_at ⟨(Nat.le_of_ble_eq_true rfl), (Nat.le_of_ble_eq_true rfl)⟩) hK hP [0, 1] rfl rfl rfl rfl hl.1 rfl (Nat.le_of_ble_eq_true rfl) dX0_rotate_28 ⟨(Nat.le_of_ble_eq_true rfl), (Nat.le_of_ble_eq_true rfl)⟩ rfl ?_
      refine xVM (q0 := 0) (ci := 0) (As := [.int (nI (j + 1)), .int ((xRt n f (j + 1)) j)]) (rest := []) ⟨hx, hb, hml, hown, hts⟩ (c_X0_write γ l q a (nI n) (xRt n f (j + 1)) (j + 1) ((xRt n f (j + 1)) j) (by omega)) (cwV 2 hts gX0_rotate_X0_write rfl rfl rfl hdv_X0_write ⟨(Nat.le_of_ble_eq_true rfl), (Nat.le_of_ble_eq_true rfl)⟩) hK hP hD hS hA [0, 1] rfl rfl rfl rfl rfl hl.1 rfl (Nat.le_of_ble_eq_true rfl) dX0_rotate_31 ⟨(Nat.le_of_ble_eq_true rfl), (Nat.le_of_ble_eq_true rfl)⟩ (fun r9 w9 H locs hw hP hD hS => ?_)
      obtain ⟨rfl, rfl⟩ := hw
      rw [xRt_s f (k := j) (by omega)] at hP hD
      have hP : xP γ ([xO q 0 [.ref a, .int (nI n)], xA γ a 12 (xRt n f j)]) H := hP
      have hD : va_D A ([xO q 0 [.ref a, .int (nI n)], xA γ a 12 (xRt n f j)]) := hD
      refine W.eq (g2 := F0 m 34 ls []) rfl ?_
      refine lv_iinc (v := nI j) (lv' := [(2, .int (nI j)), (0, .ref q), (1, .int (f (n - 1)))]) hx hb dX0_rotate_34 hl (k := 2) rfl (pk_m1 j) (by decide) rfl (fun ls hl => ?_)
      refine lv_goto (tgt := 18) hx hb dX0_rotate_37 (by decide) ?_
      exact ih18 (by omega) _ _ hP hD hS ls (lv_sub hl [1, 2, 0] rfl)
  exact loop18 (n - 1) (by omega) _ _ hP hD hS ls (lv_sub hl [2, 1, 0] rfl)

set_option maxHeartbeats 4000000 in
set_option maxRecDepth 100000 in
theorem c_X0_add (γ : xG) (l : Launch) (q a : Nat) (sz : Int32) (f : xRow) (k : Nat) (x : Int32) (hk : k < 12) : xM γ l yX0_add wsX0_add ({ frames := 1, cells := 0, slots := 0, locals := 22 } : Room) [.ref q, .int (nI k), .int x] ([xO q 0 [.ref a, .int sz], xA γ a 12 f]) (fun r w => r = none ∧ w = [xO q 0 [.ref a, .int sz], xA γ a 12 (xAdd f k x)]) 0 0 := by
  refine xM.of (cc := cX0_add) (maxL := 3) (ret := none) (by decide +kernel) rfl (Nat.le_of_ble_eq_true rfl) ?_
  intro p e s m below meth c hx hb hr hml hts hown hlocks hin hP hK A hA hD ls hl
  have hS : va_S A s.heap s.heap [] := va_S.rf
  generalize hargs : ([.ref q, .int (nI k), .int x] : List Value).toArray = args at hts ⊢
  obtain ⟨Q, hQ⟩ : ∃ Q9, Q9 = MQ below (xMQ γ (List.map Prod.fst ([xO q 0 [.ref a, .int sz], xA γ a 12 f])) A (fun r w => r = none ∧ w = [xO q 0 [.ref a, .int sz], xA γ a 12 (xAdd f k x)])) args s 0 0 A := ⟨_, rfl⟩
  rw [← hQ]
  have hown : s.vm.findClass RX0 = some m.cls := hown
  have hl : lv_has ls 3 [(0, .ref q), (1, .int (nI k)), (2, .int x)] := hl
  refine lv_aload_n hx hb dX0_add_0 rfl (lv_at hl 0 rfl) ?_
  refine lv_iload_n hx hb dX0_add_1 rfl (lv_at hl 1 rfl) ?_
  refine lv_aload_n hx hb dX0_add_2 rfl (lv_at hl 0 rfl) ?_
  refine lv_iload_n hx hb dX0_add_3 rfl (lv_at hl 1 rfl) ?_
  refine xVR (q0 := 0) (ci := 0) (As := [.int (nI k)]) (rest := [.int (nI k), .ref q]) (stk := [.int (f k), .int (nI k), .ref q]) ⟨hx, hb, hml, hown, hts⟩ (c_X0_at γ l q a sz f k (by omega)) (cwV 1 hts gX0_add_X0_at rfl rfl rfl hdv_X0_at ⟨(Nat.le_of_ble_eq_true rfl), (Nat.le_of_ble_eq_true rfl)⟩) hK hP [0, 1] rfl rfl rfl rfl hl.1 rfl (Nat.le_of_ble_eq_true rfl) dX0_add_4 ⟨(Nat.le_of_ble_eq_true rfl), (Nat.le_of_ble_eq_true rfl)⟩ rfl ?_
  refine lv_iload_n hx hb dX0_add_7 rfl (lv_at hl 2 rfl) ?_
  refine lv_iadd hx hb dX0_add_8 ?_
  refine xVM (q0 := 0) (ci := 0) (As := [.int (nI k), .int ((f k) + x)]) (rest := []) ⟨hx, hb, hml, hown, hts⟩ (c_X0_write γ l q a sz f k ((f k) + x) (by omega)) (cwV 2 hts gX0_add_X0_write rfl rfl rfl hdv_X0_write ⟨(Nat.le_of_ble_eq_true rfl), (Nat.le_of_ble_eq_true rfl)⟩) hK hP hD hS hA [0, 1] rfl rfl rfl rfl rfl hl.1 rfl (Nat.le_of_ble_eq_true rfl) dX0_add_9 ⟨(Nat.le_of_ble_eq_true rfl), (Nat.le_of_ble_eq_true rfl)⟩ (fun r9 w9 H locs hw hP hD hS => ?_)
  obtain ⟨rfl, rfl⟩ := hw
  have hP : xP γ ([xO q 0 [.ref a, .int sz], xA γ a 12 (upd f k ((f k) + x))]) H := hP
  have hD : va_D A ([xO q 0 [.ref a, .int sz], xA γ a 12 (upd f k ((f k) + x))]) := hD
  refine W.eq (g2 := F0 m 12 ls []) rfl ?_
  subst hQ
  exact xM_v hx hb hr hlocks dX0_add_12 hP rfl hS (Nat.le_of_ble_eq_true rfl) (Nat.le_of_ble_eq_true rfl) (⟨rfl, rfl⟩)

theorem flX0_onRing_15 : Cond.fieldLink RX0 15 "RingSeesaw$Ring" "size" "I" ∈ wsX0_onRing := by decide +kernel
theorem iwX0_onRing_0 : ∀ w ∈ wsX00, w ∈ wsX0_onRing := by decide +kernel
set_option maxHeartbeats 4000000 in
set_option maxRecDepth 100000 in
theorem c_X0_onRing (γ : xG) (l : Launch) (q a n : Nat) (f : xRow) (x : Int32) (z : Int) (hz : x.toInt = z) (hn0 : 3 ≤ n) (hn1 : n ≤ 12) (h1 : -(n : Int) ≤ z) (h2 : z < 2 * (n : Int)) : xR γ l yX0_onRing wsX0_onRing ({ frames := 0, cells := 0, slots := 0, locals := 0 } : Room) [.ref q, .int x] ([xO q 0 [.ref a, .int (nI n)], xA γ a 12 f]) (some (.int (nI (xWr n z)))) := by
  refine xR.of (cc := cX0_onRing) (maxL := 2) (ret := (some .int)) (by decide +kernel) rfl (Nat.le_of_ble_eq_true rfl) ?_
  intro p e s m below meth c hx hb hr hml hts hown hlocks hP hK ls hl
  generalize hargs : ([.ref q, .int x] : List Value).toArray = args at hts ⊢
  obtain ⟨Q, hQ⟩ : ∃ Q9, Q9 = MQ below (xRQ (some (.int (nI (xWr n z))))) args s 0 0 (fun _ => False) := ⟨_, rfl⟩
  rw [← hQ]
  have hown : s.vm.findClass RX0 = some m.cls := hown
  have hl : lv_has ls 2 [(0, .ref q), (1, .int x)] := hl
  refine lv_iload_n hx hb dX0_onRing_0 rfl (lv_at hl 1 rfl) ?_
  refine lv_if_ge (tgt := 11) hx hb dX0_onRing_1 (by decide) (fun c1 => ?_) (fun c1 => ?_)
  · refine lv_iload_n hx hb dX0_onRing_11 rfl (lv_at hl 1 rfl) ?_
    refine lv_aload_n hx hb dX0_onRing_12 rfl (lv_at hl 0 rfl) ?_
    refine va_get (D := γ.1) (ci := 0) (v := .int (nI n)) (C := RX0) (T := TX0) (N := 2) hx hb hts iwX0_onRing_0 hown hK hP 0 rfl rfl 1 (by decide) (hts _ flX0_onRing_15) (fun _ h9 => h9) rfl dX0_onRing_13 ?_
    refine lv_icmp_ge (tgt := 23) hx hb dX0_onRing_16 (by decide) (fun c16 => ?_) (fun c16 => ?_)
    · refine lv_iload_n hx hb dX0_onRing_23 rfl (lv_at hl 1 rfl) ?_
      refine lv_aload_n hx hb dX0_onRing_24 rfl (lv_at hl 0 rfl) ?_
      refine va_get (D := γ.1) (ci := 0) (v := .int (nI n)) (C := RX0) (T := TX0) (N := 2) hx hb hts iwX0_onRing_0 hown hK hP 0 rfl rfl 1 (by decide) (hts _ flX0_onRing_15) (fun _ h9 => h9) rfl dX0_onRing_25 ?_
      refine lv_isub hx hb dX0_onRing_28 ?_
      subst hQ
      exact xR_i hx hb hr hlocks dX0_onRing_29 (xWr_p hz hn0 hn1 h2 c1 c16)
    · refine lv_iload_n hx hb dX0_onRing_19 rfl (lv_at hl 1 rfl) ?_
      refine lv_goto (tgt := 29) hx hb dX0_onRing_20 (by decide) ?_
      subst hQ
      exact xR_i hx hb hr hlocks dX0_onRing_29 (xWr_m hz hn0 hn1 c1 c16)
  · refine lv_iload_n hx hb dX0_onRing_4 rfl (lv_at hl 1 rfl) ?_
    refine lv_aload_n hx hb dX0_onRing_5 rfl (lv_at hl 0 rfl) ?_
    refine va_get (D := γ.1) (ci := 0) (v := .int (nI n)) (C := RX0) (T := TX0) (N := 2) hx hb hts iwX0_onRing_0 hown hK hP 0 rfl rfl 1 (by decide) (hts _ flX0_onRing_15) (fun _ h9 => h9) rfl dX0_onRing_6 ?_
    refine lv_iadd hx hb dX0_onRing_9 ?_
    subst hQ
    exact xR_i hx hb hr hlocks dX0_onRing_10 (xWr_n hz hn0 hn1 h1 c1)

theorem hdv_X0_add : yX0_add.cls = RX0 ∧ yX0_add.cls ≠ "java/lang/invoke/MethodHandle" ∧ yX0_add.cls ≠ "java/lang/invoke/VarHandle" ∧ (parseMethodDescriptor yX0_add.desc).map (fun d => d.parameters.length) = some 2 := by decide +kernel
theorem hdv_X0_onRing : yX0_onRing.cls = RX0 ∧ yX0_onRing.cls ≠ "java/lang/invoke/MethodHandle" ∧ yX0_onRing.cls ≠ "java/lang/invoke/VarHandle" ∧ (parseMethodDescriptor yX0_onRing.desc).map (fun d => d.parameters.length) = some 1 := by decide +kernel
set_option maxHeartbeats 4000000 in
set_option maxRecDepth 100000 in
theorem c_X0_tipBy (γ : xG) (l : Launch) (q a n : Nat) (f : xRow) (p9 : Nat) (t : Int32) (hn0 : 3 ≤ n) (hn1 : n ≤ 12) (hp : p9 < n) : xM γ l yX0_tipBy wsX0_tipBy ({ frames := 2, cells := 0, slots := 0, locals := 44 } : Room) [.ref q, .int (nI p9), .int t] ([xO q 0 [.ref a, .int (nI n)], xA γ a 12 f]) (fun r w => r = none ∧ w = [xO q 0 [.ref a, .int (nI n)], xA γ a 12 (xTip n f p9 t)]) 0 0 := by
  refine xM.of (cc := cX0_tipBy) (maxL := 3) (ret := none) (by decide +kernel) rfl (Nat.le_of_ble_eq_true rfl) ?_
  intro p e s m below meth c hx hb hr hml hts hown hlocks hin hP hK A hA hD ls hl
  have hS : va_S A s.heap s.heap [] := va_S.rf
  generalize hargs : ([.ref q, .int (nI p9), .int t] : List Value).toArray = args at hts ⊢
  obtain ⟨Q, hQ⟩ : ∃ Q9, Q9 = MQ below (xMQ γ (List.map Prod.fst ([xO q 0 [.ref a, .int (nI n)], xA γ a 12 f])) A (fun r w => r = none ∧ w = [xO q 0 [.ref a, .int (nI n)], xA γ a 12 (xTip n f p9 t)])) args s 0 0 A := ⟨_, rfl⟩
  rw [← hQ]
  have hown : s.vm.findClass RX0 = some m.cls := hown
  have hl : lv_has ls 3 [(0, .ref q), (1, .int (nI p9)), (2, .int t)] := hl
  have hap9 : xWr n ((p9 : Int) + 1) < n := xWr_lt (by omega) (by omega) (by omega)
  have hbp9 : xWr n ((p9 : Int) - 1) < n := xWr_lt (by omega) (by omega) (by omega)
  refine lv_aload_n hx hb dX0_tipBy_0 rfl (lv_at hl 0 rfl) ?_
  refine lv_iload_n hx hb dX0_tipBy_1 rfl (lv_at hl 1 rfl) ?_
  refine lv_bipush (v := (-2)) hx hb dX0_tipBy_2 (by decide) ?_
  refine lv_iload_n hx hb dX0_tipBy_4 rfl (lv_at hl 2 rfl) ?_
  refine lv_imul hx hb dX0_tipBy_5 ?_
  refine xVM (q0 := 0) (ci := 0) (As := [.int (nI p9), .int ((-2) * t)]) (rest := []) ⟨hx, hb, hml, hown, hts⟩ (c_X0_add γ l q a (nI n) f p9 ((-2) * t) (by omega)) (cwV 2 hts gX0_tipBy_X0_add rfl rfl rfl hdv_X0_add ⟨(Nat.le_of_ble_eq_true rfl), (Nat.le_of_ble_eq_true rfl)⟩) hK hP hD hS hA [0, 1] rfl rfl rfl rfl rfl hl.1 rfl (Nat.le_of_ble_eq_true rfl) dX0_tipBy_6 ⟨(Nat.le_of_ble_eq_true rfl), (Nat.le_of_ble_eq_true rfl)⟩ (fun r9 w9 H locs hw hP hD hS => ?_)
  obtain ⟨rfl, rfl⟩ := hw
  have hP : xP γ ([xO q 0 [.ref a, .int (nI n)], xA γ a 12 (xAdd f p9 ((-2) * t))]) H := hP
  have hD : va_D A ([xO q 0 [.ref a, .int (nI n)], xA γ a 12 (xAdd f p9 ((-2) * t))]) := hD
  refine W.eq (g2 := F0 m 9 ls []) rfl ?_
  refine lv_aload_n hx hb dX0_tipBy_9 rfl (lv_at hl 0 rfl) ?_
  refine lv_aload_n hx hb dX0_tipBy_10 rfl (lv_at hl 0 rfl) ?_
  refine lv_iload_n hx hb dX0_tipBy_11 rfl (lv_at hl 1 rfl) ?_
  refine lv_iconst (v := 1) hx hb dX0_tipBy_12 (by decide) ?_
  refine lv_iadd hx hb dX0_tipBy_13 ?_
  refine x_top (y := nI p9 + 1) (rfl) ?_
  refine xVR (q0 := 0) (ci := 0) (As := [.int (nI p9 + 1)]) (rest := [.ref q]) (stk := [.int (nI (xWr n ((p9 : Int) + 1))), .ref q]) ⟨hx, hb, hml, hown, hts⟩ (c_X0_onRing γ l q a n (xAdd f p9 ((-2) * t)) (nI p9 + 1) ((p9 : Int) + 1) (xaddI (nI_toInt (n := p9) (by omega)) (show (1 : Int32).toInt = 1 from rfl) (by omega) (by omega)) (by omega) (by omega) (by omega) (by omega)) (cwV 1 hts gX0_tipBy_X0_onRing rfl rfl rfl hdv_X0_onRing ⟨(Nat.le_of_ble_eq_true rfl), (Nat.le_of_ble_eq_true rfl)⟩) hK hP [0, 1] rfl rfl rfl rfl hl.1 rfl (Nat.le_of_ble_eq_true rfl) dX0_tipBy_14 ⟨(Nat.le_of_ble_eq_true rfl), (Nat.le_of_ble_eq_true rfl)⟩ rfl ?_
  refine lv_iload_n hx hb dX0_tipBy_17 rfl (lv_at hl 2 rfl) ?_
  refine xVM (q0 := 0) (ci := 0) (As := [.int (nI (xWr n ((p9 : Int) + 1))), .int t]) (rest := []) ⟨hx, hb, hml, hown, hts⟩ (c_X0_add γ l q a (nI n) (xAdd f p9 ((-2) * t)) (xWr n ((p9 : Int) + 1)) t (by omega)) (cwV 2 hts gX0_tipBy_X0_add rfl rfl rfl hdv_X0_add ⟨(Nat.le_of_ble_eq_true rfl), (Nat.le_of_ble_eq_true rfl)⟩) hK hP hD hS hA [0, 1] rfl rfl rfl rfl rfl hl.1 rfl (Nat.le_of_ble_eq_true rfl) dX0_tipBy_18 ⟨(Nat.le_of_ble_eq_true rfl), (Nat.le_of_ble_eq_true rfl)⟩ (fun r9 w9 H locs hw hP hD hS => ?_)
  obtain ⟨rfl, rfl⟩ := hw
  have hP : xP γ ([xO q 0 [.ref a, .int (nI n)], xA γ a 12 (xAdd (xAdd f p9 ((-2) * t)) (xWr n ((p9 : Int) + 1)) t)]) H := hP
  have hD : va_D A ([xO q 0 [.ref a, .int (nI n)], xA γ a 12 (xAdd (xAdd f p9 ((-2) * t)) (xWr n ((p9 : Int) + 1)) t)]) := hD
  refine W.eq (g2 := F0 m 21 ls []) rfl ?_
  refine lv_aload_n hx hb dX0_tipBy_21 rfl (lv_at hl 0 rfl) ?_
  refine lv_aload_n hx hb dX0_tipBy_22 rfl (lv_at hl 0 rfl) ?_
  refine lv_iload_n hx hb dX0_tipBy_23 rfl (lv_at hl 1 rfl) ?_
  refine lv_iconst (v := 1) hx hb dX0_tipBy_24 (by decide) ?_
  refine lv_isub hx hb dX0_tipBy_25 ?_
  refine x_top (y := nI p9 - 1) (rfl) ?_
  refine xVR (q0 := 0) (ci := 0) (As := [.int (nI p9 - 1)]) (rest := [.ref q]) (stk := [.int (nI (xWr n ((p9 : Int) - 1))), .ref q]) ⟨hx, hb, hml, hown, hts⟩ (c_X0_onRing γ l q a n (xAdd (xAdd f p9 ((-2) * t)) (xWr n ((p9 : Int) + 1)) t) (nI p9 - 1) ((p9 : Int) - 1) (xsubI (nI_toInt (n := p9) (by omega)) (show (1 : Int32).toInt = 1 from rfl) (by omega) (by omega)) (by omega) (by omega) (by omega) (by omega)) (cwV 1 hts gX0_tipBy_X0_onRing rfl rfl rfl hdv_X0_onRing ⟨(Nat.le_of_ble_eq_true rfl), (Nat.le_of_ble_eq_true rfl)⟩) hK hP [0, 1] rfl rfl rfl rfl hl.1 rfl (Nat.le_of_ble_eq_true rfl) dX0_tipBy_26 ⟨(Nat.le_of_ble_eq_true rfl), (Nat.le_of_ble_eq_true rfl)⟩ rfl ?_
  refine lv_iload_n hx hb dX0_tipBy_29 rfl (lv_at hl 2 rfl) ?_
  refine xVM (q0 := 0) (ci := 0) (As := [.int (nI (xWr n ((p9 : Int) - 1))), .int t]) (rest := []) ⟨hx, hb, hml, hown, hts⟩ (c_X0_add γ l q a (nI n) (xAdd (xAdd f p9 ((-2) * t)) (xWr n ((p9 : Int) + 1)) t) (xWr n ((p9 : Int) - 1)) t (by omega)) (cwV 2 hts gX0_tipBy_X0_add rfl rfl rfl hdv_X0_add ⟨(Nat.le_of_ble_eq_true rfl), (Nat.le_of_ble_eq_true rfl)⟩) hK hP hD hS hA [0, 1] rfl rfl rfl rfl rfl hl.1 rfl (Nat.le_of_ble_eq_true rfl) dX0_tipBy_30 ⟨(Nat.le_of_ble_eq_true rfl), (Nat.le_of_ble_eq_true rfl)⟩ (fun r9 w9 H locs hw hP hD hS => ?_)
  obtain ⟨rfl, rfl⟩ := hw
  have hP : xP γ ([xO q 0 [.ref a, .int (nI n)], xA γ a 12 (xAdd (xAdd (xAdd f p9 ((-2) * t)) (xWr n ((p9 : Int) + 1)) t) (xWr n ((p9 : Int) - 1)) t)]) H := hP
  have hD : va_D A ([xO q 0 [.ref a, .int (nI n)], xA γ a 12 (xAdd (xAdd (xAdd f p9 ((-2) * t)) (xWr n ((p9 : Int) + 1)) t) (xWr n ((p9 : Int) - 1)) t)]) := hD
  refine W.eq (g2 := F0 m 33 ls []) rfl ?_
  subst hQ
  exact xM_v hx hb hr hlocks dX0_tipBy_33 hP rfl hS (Nat.le_of_ble_eq_true rfl) (Nat.le_of_ble_eq_true rfl) (⟨rfl, rfl⟩)

theorem flX0_total_15 : Cond.fieldLink RX0 15 "RingSeesaw$Ring" "size" "I" ∈ wsX0_total := by decide +kernel
theorem iwX0_total_0 : ∀ w ∈ wsX00, w ∈ wsX0_total := by decide +kernel
set_option maxHeartbeats 4000000 in
set_option maxRecDepth 100000 in
theorem c_X0_total (γ : xG) (l : Launch) (q a n : Nat) (f : xRow) (hn0 : 3 ≤ n) (hn1 : n ≤ 12) : xR γ l yX0_total wsX0_total ({ frames := 1, cells := 0, slots := 0, locals := 21 } : Room) [.ref q] ([xO q 0 [.ref a, .int (nI n)], xA γ a 12 f]) (some (.int (xTot f n))) := by
  refine xR.of (cc := cX0_total) (maxL := 3) (ret := (some .int)) (by decide +kernel) rfl (Nat.le_of_ble_eq_true rfl) ?_
  intro p e s m below meth c hx hb hr hml hts hown hlocks hP hK ls hl
  generalize hargs : ([.ref q] : List Value).toArray = args at hts ⊢
  obtain ⟨Q, hQ⟩ : ∃ Q9, Q9 = MQ below (xRQ (some (.int (xTot f n)))) args s 0 0 (fun _ => False) := ⟨_, rfl⟩
  rw [← hQ]
  have hown : s.vm.findClass RX0 = some m.cls := hown
  have hl : lv_has ls 3 [(0, .ref q)] := hl
  refine lv_iconst (v := 0) hx hb dX0_total_0 (by decide) ?_
  refine lv_istore_n (lv' := [(1, .int 0), (0, .ref q)]) hx hb dX0_total_1 rfl hl (by decide) rfl (fun ls hl => ?_)
  refine lv_iconst (v := 0) hx hb dX0_total_2 (by decide) ?_
  refine lv_istore_n (lv' := [(2, .int 0), (1, .int 0), (0, .ref q)]) hx hb dX0_total_3 rfl hl (by decide) rfl (fun ls hl => ?_)
  have loop4 : ∀ j : Nat, ∀ (k : Nat), k + j = n → ∀ ls : Array Slot, lv_has ls 3 [(0, .ref q), (1, .int (xTot f k)), (2, .int (nI k))] → W p l e ({ frames := 1, cells := 0, slots := 0, locals := 21 } : Room) s m args below meth c s.heap [] 0 0 Q (F0 m 4 ls []) := by
    intro j
    induction j with
    | zero =>
      intro k hj ls hl
      refine lv_iload_n hx hb dX0_total_4 rfl (lv_at hl 2 rfl) ?_
      refine lv_aload_n hx hb dX0_total_5 rfl (lv_at hl 0 rfl) ?_
      refine va_get (D := γ.1) (ci := 0) (v := .int (nI n)) (C := RX0) (T := TX0) (N := 2) hx hb hts iwX0_total_0 hown hK hP 0 rfl rfl 1 (by decide) (hts _ flX0_total_15) (fun _ h9 => h9) rfl dX0_total_6 ?_
      refine lv_icmp_ge (tgt := 26) hx hb dX0_total_9 (by decide) (fun _ => ?_) (fun c => absurd (nI_le (a := n) (b := k) (by omega) (by omega)) c)
      refine lv_iload_n hx hb dX0_total_26 rfl (lv_at hl 1 rfl) ?_
      subst hQ
      exact xR_i hx hb hr hlocks dX0_total_27 (congrArg (xTot f) (show k = n by omega))
    | succ j ih4 =>
      intro k hj ls hl
      refine lv_iload_n hx hb dX0_total_4 rfl (lv_at hl 2 rfl) ?_
      refine lv_aload_n hx hb dX0_total_5 rfl (lv_at hl 0 rfl) ?_
      refine va_get (D := γ.1) (ci := 0) (v := .int (nI n)) (C := RX0) (T := TX0) (N := 2) hx hb hts iwX0_total_0 hown hK hP 0 rfl rfl 1 (by decide) (hts _ flX0_total_15) (fun _ h9 => h9) rfl dX0_total_6 ?_
      refine lv_icmp_ge (tgt := 26) hx hb dX0_total_9 (by decide) (fun c => absurd c (nI_ge (a := k) (b := n) (by omega) (by omega))) (fun _ => ?_)
      refine lv_iload_n hx hb dX0_total_12 rfl (lv_at hl 1 rfl) ?_
      refine lv_aload_n hx hb dX0_total_13 rfl (lv_at hl 0 rfl) ?_
      refine lv_iload_n hx hb dX0_total_14 rfl (lv_at hl 2 rfl) ?_
      refine xVR (q0 := 0) (ci := 0) (As := [.int (nI k)]) (rest := [.int (xTot f k)]) (stk := [.int (f k), .int (xTot f k)]) ⟨hx, hb, hml, hown, hts⟩ (c_X0_at γ l q a (nI n) f k (by omega)) (cwV 1 hts gX0_total_X0_at rfl rfl rfl hdv_X0_at ⟨(Nat.le_of_ble_eq_true rfl), (Nat.le_of_ble_eq_true rfl)⟩) hK hP [0, 1] rfl rfl rfl rfl hl.1 rfl (Nat.le_of_ble_eq_true rfl) dX0_total_15 ⟨(Nat.le_of_ble_eq_true rfl), (Nat.le_of_ble_eq_true rfl)⟩ rfl ?_
      refine lv_iadd hx hb dX0_total_18 ?_
      refine lv_istore_n (lv' := [(1, .int ((xTot f k) + (f k))), (0, .ref q), (2, .int (nI k))]) hx hb dX0_total_19 rfl hl (by decide) rfl (fun ls hl => ?_)
      refine lv_iinc (v := nI (k + 1)) (lv' := [(2, .int (nI (k + 1))), (1, .int ((xTot f k) + (f k))), (0, .ref q)]) hx hb dX0_total_20 hl (k := 2) rfl (nI_add k 1) (by decide) rfl (fun ls hl => ?_)
      refine lv_goto (tgt := 4) hx hb dX0_total_23 (by decide) ?_
      exact ih4 (k + 1) (by omega) ls (lv_sub hl [2, 1, 0] rfl)
  exact loop4 n 0 (by omega) ls (lv_sub hl [2, 1, 0] rfl)

set_option maxHeartbeats 4000000 in
set_option maxRecDepth 100000 in
theorem c_J9_floorMod_7cf53 (γ : xG) (l : Launch) (x : Int32) (n : Nat) (hn0 : 3 ≤ n) (hn1 : n ≤ 12) : xR γ l yJ9_floorMod_7cf53 wsJ9_floorMod_7cf53 ({ frames := 0, cells := 0, slots := 0, locals := 0 } : Room) [.int x, .int (nI n)] ([]) (some (.int (xFm x n))) := by
  refine xR.ofF (cc := cJ9_floorMod_7cf53) (maxL := 3) (ret := (some .int)) (by decide +kernel) rfl (Nat.le_of_ble_eq_true rfl) ?_
  intro p e s m below meth c hx hb hr hml hts hown hlocks hP hK ls hl
  generalize hargs : ([.int x, .int (nI n)] : List Value).toArray = args at hts ⊢
  obtain ⟨Q, hQ⟩ : ∃ Q9, Q9 = MQ below (xRQ (some (.int (xFm x n)))) args s 0 0 (fun _ => False) := ⟨_, rfl⟩
  rw [← hQ]
  have hown : s.vm.findClass RJ9 = some m.cls := hown
  have hl : lv_has ls 3 [(0, .int x), (1, .int (nI n))] := hl
  refine lv_iload_n hx hb dJ9_floorMod_7cf53_0 rfl (lv_at hl 0 rfl) ?_
  refine lv_iload_n hx hb dJ9_floorMod_7cf53_1 rfl (lv_at hl 1 rfl) ?_
  refine lv_irem hx hb dJ9_floorMod_7cf53_2 (nI_ne0 (by omega) (by omega)) ?_
  refine lv_istore_n (lv' := [(2, .int (x - x / (nI n) * (nI n))), (0, .int x), (1, .int (nI n))]) hx hb dJ9_floorMod_7cf53_3 rfl hl (by decide) rfl (fun ls hl => ?_)
  refine lv_iload_n hx hb dJ9_floorMod_7cf53_4 rfl (lv_at hl 1 rfl) ?_
  refine lv_iload_n hx hb dJ9_floorMod_7cf53_5 rfl (lv_at hl 2 rfl) ?_
  refine lv_ixor hx hb dJ9_floorMod_7cf53_6 ?_
  refine lv_if_ge (tgt := 18) hx hb dJ9_floorMod_7cf53_7 (by decide) (fun c7 => ?_) (fun c7 => ?_)
  · have c7 : ¬ x < 0 := fun h => absurd ((xxor (y := nI n) (by rw [nI_toInt (by omega)]; omega)).mpr h) (Int32.not_lt.mpr c7)
    refine lv_iload_n hx hb dJ9_floorMod_7cf53_18 rfl (lv_at hl 0 rfl) ?_
    subst hQ
    exact xR_i hx hb hr hlocks dJ9_floorMod_7cf53_19 (xFm_pos hn0 hn1 c7)
  · have c7 : x < 0 := (xxor (y := nI n) (by rw [nI_toInt (by omega)]; omega)).mp (Int32.not_le.mp c7)
    refine lv_iload_n hx hb dJ9_floorMod_7cf53_10 rfl (lv_at hl 0 rfl) ?_
    refine lv_if_eq (tgt := 18) hx hb dJ9_floorMod_7cf53_11 (by decide) (fun c11 => ?_) (fun c11 => ?_)
    · refine lv_iload_n hx hb dJ9_floorMod_7cf53_18 rfl (lv_at hl 0 rfl) ?_
      subst hQ
      exact xR_i hx hb hr hlocks dJ9_floorMod_7cf53_19 (xFm_zero hn0 hn1 c7 c11)
    · refine lv_iload_n hx hb dJ9_floorMod_7cf53_14 rfl (lv_at hl 0 rfl) ?_
      refine lv_iload_n hx hb dJ9_floorMod_7cf53_15 rfl (lv_at hl 2 rfl) ?_
      refine lv_iadd hx hb dJ9_floorMod_7cf53_16 ?_
      subst hQ
      exact xR_i hx hb hr hlocks dJ9_floorMod_7cf53_17 (xFm_neg hn0 hn1 c7 c11)

theorem hds_J9_floorMod_7cf53 : yJ9_floorMod_7cf53.cls ≠ "java/lang/invoke/MethodHandle" ∧ yJ9_floorMod_7cf53.cls ≠ "java/lang/invoke/VarHandle" ∧ (parseMethodDescriptor yJ9_floorMod_7cf53.desc).map (fun d => d.parameters.length) = some 2 := by decide +kernel
theorem flX0_momentLeft_15 : Cond.fieldLink RX0 15 "RingSeesaw$Ring" "size" "I" ∈ wsX0_momentLeft := by decide +kernel
theorem iwX0_momentLeft_0 : ∀ w ∈ wsX00, w ∈ wsX0_momentLeft := by decide +kernel
set_option maxHeartbeats 4000000 in
set_option maxRecDepth 100000 in
theorem c_X0_momentLeft (γ : xG) (l : Launch) (q a n : Nat) (f : xRow) (hn0 : 3 ≤ n) (hn1 : n ≤ 12) : xR γ l yX0_momentLeft wsX0_momentLeft ({ frames := 1, cells := 0, slots := 0, locals := 22 } : Room) [.ref q] ([xO q 0 [.ref a, .int (nI n)], xA γ a 12 f]) (some (.int (xMm n f))) := by
  refine xR.of (cc := cX0_momentLeft) (maxL := 3) (ret := (some .int)) (by decide +kernel) rfl (Nat.le_of_ble_eq_true rfl) ?_
  intro p e s m below meth c hx hb hr hml hts hown hlocks hP hK ls hl
  generalize hargs : ([.ref q] : List Value).toArray = args at hts ⊢
  obtain ⟨Q, hQ⟩ : ∃ Q9, Q9 = MQ below (xRQ (some (.int (xMm n f)))) args s 0 0 (fun _ => False) := ⟨_, rfl⟩
  rw [← hQ]
  have hown : s.vm.findClass RX0 = some m.cls := hown
  have hl : lv_has ls 3 [(0, .ref q)] := hl
  refine lv_iconst (v := 0) hx hb dX0_momentLeft_0 (by decide) ?_
  refine lv_istore_n (lv' := [(1, .int 0), (0, .ref q)]) hx hb dX0_momentLeft_1 rfl hl (by decide) rfl (fun ls hl => ?_)
  refine lv_iconst (v := 0) hx hb dX0_momentLeft_2 (by decide) ?_
  refine lv_istore_n (lv' := [(2, .int 0), (1, .int 0), (0, .ref q)]) hx hb dX0_momentLeft_3 rfl hl (by decide) rfl (fun ls hl => ?_)
  have loop4 : ∀ j : Nat, ∀ (k : Nat), k + j = n → ∀ ls : Array Slot, lv_has ls 3 [(0, .ref q), (1, .int (xMom f k)), (2, .int (nI k))] → W p l e ({ frames := 1, cells := 0, slots := 0, locals := 22 } : Room) s m args below meth c s.heap [] 0 0 Q (F0 m 4 ls []) := by
    intro j
    induction j with
    | zero =>
      intro k hj ls hl
      refine lv_iload_n hx hb dX0_momentLeft_4 rfl (lv_at hl 2 rfl) ?_
      refine lv_aload_n hx hb dX0_momentLeft_5 rfl (lv_at hl 0 rfl) ?_
      refine va_get (D := γ.1) (ci := 0) (v := .int (nI n)) (C := RX0) (T := TX0) (N := 2) hx hb hts iwX0_momentLeft_0 hown hK hP 0 rfl rfl 1 (by decide) (hts _ flX0_momentLeft_15) (fun _ h9 => h9) rfl dX0_momentLeft_6 ?_
      refine lv_icmp_ge (tgt := 28) hx hb dX0_momentLeft_9 (by decide) (fun _ => ?_) (fun c => absurd (nI_le (a := n) (b := k) (by omega) (by omega)) c)
      refine lv_aload_n hx hb dX0_momentLeft_28 rfl (lv_at hl 0 rfl) ?_
      refine va_get (D := γ.1) (ci := 0) (v := .int (nI n)) (C := RX0) (T := TX0) (N := 2) hx hb hts iwX0_momentLeft_0 hown hK hP 0 rfl rfl 1 (by decide) (hts _ flX0_momentLeft_15) (fun _ h9 => h9) rfl dX0_momentLeft_29 ?_
      refine lv_if_le (tgt := 46) hx hb dX0_momentLeft_32 (by decide) (fun c => absurd c (nI_nle (by omega) (by omega))) (fun _ => ?_)
      refine lv_iload_n hx hb dX0_momentLeft_35 rfl (lv_at hl 1 rfl) ?_
      refine lv_aload_n hx hb dX0_momentLeft_36 rfl (lv_at hl 0 rfl) ?_
      refine va_get (D := γ.1) (ci := 0) (v := .int (nI n)) (C := RX0) (T := TX0) (N := 2) hx hb hts iwX0_momentLeft_0 hown hK hP 0 rfl rfl 1 (by decide) (hts _ flX0_momentLeft_15) (fun _ h9 => h9) rfl dX0_momentLeft_37 ?_
      refine xSR (As := [.int (xMom f k), .int (nI n)]) (rest := []) (stk := [.int (xFm (xMom f k) n)]) ⟨hx, hb, hml, hown, hts⟩ (c_J9_floorMod_7cf53 γ l (xMom f k) n (by omega) (by omega)) (va_cwS 2 hts gX0_momentLeft_J9_floorMod_7cf53 rfl rfl rfl hds_J9_floorMod_7cf53 ⟨(Nat.le_of_ble_eq_true rfl), (Nat.le_of_ble_eq_true rfl)⟩) hK hP [] rfl rfl hl.1 rfl (Nat.le_of_ble_eq_true rfl) dX0_momentLeft_40 ⟨(Nat.le_of_ble_eq_true rfl), (Nat.le_of_ble_eq_true rfl)⟩ rfl ?_
      refine lv_goto (tgt := 47) hx hb dX0_momentLeft_43 (by decide) ?_
      subst hQ
      exact xR_i hx hb hr hlocks dX0_momentLeft_47 (by rw [show k = n by omega]; rfl)
    | succ j ih4 =>
      intro k hj ls hl
      refine lv_iload_n hx hb dX0_momentLeft_4 rfl (lv_at hl 2 rfl) ?_
      refine lv_aload_n hx hb dX0_momentLeft_5 rfl (lv_at hl 0 rfl) ?_
      refine va_get (D := γ.1) (ci := 0) (v := .int (nI n)) (C := RX0) (T := TX0) (N := 2) hx hb hts iwX0_momentLeft_0 hown hK hP 0 rfl rfl 1 (by decide) (hts _ flX0_momentLeft_15) (fun _ h9 => h9) rfl dX0_momentLeft_6 ?_
      refine lv_icmp_ge (tgt := 28) hx hb dX0_momentLeft_9 (by decide) (fun c => absurd c (nI_ge (a := k) (b := n) (by omega) (by omega))) (fun _ => ?_)
      refine lv_iload_n hx hb dX0_momentLeft_12 rfl (lv_at hl 1 rfl) ?_
      refine lv_aload_n hx hb dX0_momentLeft_13 rfl (lv_at hl 0 rfl) ?_
      refine lv_iload_n hx hb dX0_momentLeft_14 rfl (lv_at hl 2 rfl) ?_
      refine xVR (q0 := 0) (ci := 0) (As := [.int (nI k)]) (rest := [.int (xMom f k)]) (stk := [.int (f k), .int (xMom f k)]) ⟨hx, hb, hml, hown, hts⟩ (c_X0_at γ l q a (nI n) f k (by omega)) (cwV 1 hts gX0_momentLeft_X0_at rfl rfl rfl hdv_X0_at ⟨(Nat.le_of_ble_eq_true rfl), (Nat.le_of_ble_eq_true rfl)⟩) hK hP [0, 1] rfl rfl rfl rfl hl.1 rfl (Nat.le_of_ble_eq_true rfl) dX0_momentLeft_15 ⟨(Nat.le_of_ble_eq_true rfl), (Nat.le_of_ble_eq_true rfl)⟩ rfl ?_
      refine lv_iload_n hx hb dX0_momentLeft_18 rfl (lv_at hl 2 rfl) ?_
      refine lv_imul hx hb dX0_momentLeft_19 ?_
      refine lv_iadd hx hb dX0_momentLeft_20 ?_
      refine lv_istore_n (lv' := [(1, .int ((xMom f k) + ((f k) * (nI k)))), (0, .ref q), (2, .int (nI k))]) hx hb dX0_momentLeft_21 rfl hl (by decide) rfl (fun ls hl => ?_)
      refine lv_iinc (v := nI (k + 1)) (lv' := [(2, .int (nI (k + 1))), (1, .int ((xMom f k) + ((f k) * (nI k)))), (0, .ref q)]) hx hb dX0_momentLeft_22 hl (k := 2) rfl (nI_add k 1) (by decide) rfl (fun ls hl => ?_)
      refine lv_goto (tgt := 4) hx hb dX0_momentLeft_25 (by decide) ?_
      exact ih4 (k + 1) (by omega) ls (lv_sub hl [2, 1, 0] rfl)
  exact loop4 n 0 (by omega) ls (lv_sub hl [2, 1, 0] rfl)

theorem flX0_firstGreatest_15 : Cond.fieldLink RX0 15 "RingSeesaw$Ring" "size" "I" ∈ wsX0_firstGreatest := by decide +kernel
theorem iwX0_firstGreatest_0 : ∀ w ∈ wsX00, w ∈ wsX0_firstGreatest := by decide +kernel
set_option maxHeartbeats 4000000 in
set_option maxRecDepth 100000 in
theorem c_X0_firstGreatest (γ : xG) (l : Launch) (q a n : Nat) (f : xRow) (hn0 : 3 ≤ n) (hn1 : n ≤ 12) : xR γ l yX0_firstGreatest wsX0_firstGreatest ({ frames := 1, cells := 0, slots := 0, locals := 21 } : Room) [.ref q] ([xO q 0 [.ref a, .int (nI n)], xA γ a 12 f]) (some (.int (nI (xTopI f (n - 1))))) := by
  refine xR.of (cc := cX0_firstGreatest) (maxL := 3) (ret := (some .int)) (by decide +kernel) rfl (Nat.le_of_ble_eq_true rfl) ?_
  intro p e s m below meth c hx hb hr hml hts hown hlocks hP hK ls hl
  generalize hargs : ([.ref q] : List Value).toArray = args at hts ⊢
  obtain ⟨Q, hQ⟩ : ∃ Q9, Q9 = MQ below (xRQ (some (.int (nI (xTopI f (n - 1)))))) args s 0 0 (fun _ => False) := ⟨_, rfl⟩
  rw [← hQ]
  have hown : s.vm.findClass RX0 = some m.cls := hown
  have hl : lv_has ls 3 [(0, .ref q)] := hl
  refine lv_iconst (v := 0) hx hb dX0_firstGreatest_0 (by decide) ?_
  refine lv_istore_n (lv' := [(1, .int 0), (0, .ref q)]) hx hb dX0_firstGreatest_1 rfl hl (by decide) rfl (fun ls hl => ?_)
  refine lv_iconst (v := 1) hx hb dX0_firstGreatest_2 (by decide) ?_
  refine lv_istore_n (lv' := [(2, .int 1), (1, .int 0), (0, .ref q)]) hx hb dX0_firstGreatest_3 rfl hl (by decide) rfl (fun ls hl => ?_)
  have loop4 : ∀ j : Nat, ∀ (k : Nat), k + 1 + j = n → ∀ ls : Array Slot, lv_has ls 3 [(0, .ref q), (1, .int (nI (xTopI f k))), (2, .int (nI (k + 1)))] → W p l e ({ frames := 1, cells := 0, slots := 0, locals := 21 } : Room) s m args below meth c s.heap [] 0 0 Q (F0 m 4 ls []) := by
    intro j
    induction j with
    | zero =>
      intro k hj ls hl
      refine lv_iload_n hx hb dX0_firstGreatest_4 rfl (lv_at hl 2 rfl) ?_
      refine lv_aload_n hx hb dX0_firstGreatest_5 rfl (lv_at hl 0 rfl) ?_
      refine va_get (D := γ.1) (ci := 0) (v := .int (nI n)) (C := RX0) (T := TX0) (N := 2) hx hb hts iwX0_firstGreatest_0 hown hK hP 0 rfl rfl 1 (by decide) (hts _ flX0_firstGreatest_15) (fun _ h9 => h9) rfl dX0_firstGreatest_6 ?_
      refine lv_icmp_ge (tgt := 33) hx hb dX0_firstGreatest_9 (by decide) (fun _ => ?_) (fun c => absurd (nI_le (a := n) (b := k + 1) (by omega) (by omega)) c)
      refine lv_iload_n hx hb dX0_firstGreatest_33 rfl (lv_at hl 1 rfl) ?_
      subst hQ
      exact xR_i hx hb hr hlocks dX0_firstGreatest_34 (by rw [show k = n - 1 by omega])
    | succ j ih4 =>
      intro k hj ls hl
      refine lv_iload_n hx hb dX0_firstGreatest_4 rfl (lv_at hl 2 rfl) ?_
      refine lv_aload_n hx hb dX0_firstGreatest_5 rfl (lv_at hl 0 rfl) ?_
      refine va_get (D := γ.1) (ci := 0) (v := .int (nI n)) (C := RX0) (T := TX0) (N := 2) hx hb hts iwX0_firstGreatest_0 hown hK hP 0 rfl rfl 1 (by decide) (hts _ flX0_firstGreatest_15) (fun _ h9 => h9) rfl dX0_firstGreatest_6 ?_
      refine lv_icmp_ge (tgt := 33) hx hb dX0_firstGreatest_9 (by decide) (fun c => absurd c (nI_ge (a := k + 1) (b := n) (by omega) (by omega))) (fun _ => ?_)
      have ht := xTopI_le f k
      refine lv_aload_n hx hb dX0_firstGreatest_12 rfl (lv_at hl 0 rfl) ?_
      refine lv_iload_n hx hb dX0_firstGreatest_13 rfl (lv_at hl 2 rfl) ?_
      refine xVR (q0 := 0) (ci := 0) (As := [.int (nI (k + 1))]) (rest := []) (stk := [.int (f (k + 1))]) ⟨hx, hb, hml, hown, hts⟩ (c_X0_at γ l q a (nI n) f (k + 1) (by omega)) (cwV 1 hts gX0_firstGreatest_X0_at rfl rfl rfl hdv_X0_at ⟨(Nat.le_of_ble_eq_true rfl), (Nat.le_of_ble_eq_true rfl)⟩) hK hP [0, 1] rfl rfl rfl rfl hl.1 rfl (Nat.le_of_ble_eq_true rfl) dX0_firstGreatest_14 ⟨(Nat.le_of_ble_eq_true rfl), (Nat.le_of_ble_eq_true rfl)⟩ rfl ?_
      refine lv_aload_n hx hb dX0_firstGreatest_17 rfl (lv_at hl 0 rfl) ?_
      refine lv_iload_n hx hb dX0_firstGreatest_18 rfl (lv_at hl 1 rfl) ?_
      refine xVR (q0 := 0) (ci := 0) (As := [.int (nI (xTopI f k))]) (rest := [.int (f (k + 1))]) (stk := [.int (f (xTopI f k)), .int (f (k + 1))]) ⟨hx, hb, hml, hown, hts⟩ (c_X0_at γ l q a (nI n) f (xTopI f k) (by omega)) (cwV 1 hts gX0_firstGreatest_X0_at rfl rfl rfl hdv_X0_at ⟨(Nat.le_of_ble_eq_true rfl), (Nat.le_of_ble_eq_true rfl)⟩) hK hP [0, 1] rfl rfl rfl rfl hl.1 rfl (Nat.le_of_ble_eq_true rfl) dX0_firstGreatest_19 ⟨(Nat.le_of_ble_eq_true rfl), (Nat.le_of_ble_eq_true rfl)⟩ rfl ?_
      refine lv_icmp_le (tgt := 27) hx hb dX0_firstGreatest_22 (by decide) (fun c22 => ?_) (fun c22 => ?_)
      · rw [← xTopI_f c22] at hl
        refine lv_iinc (v := nI (k + 1 + 1)) (lv' := [(2, .int (nI (k + 1 + 1))), (0, .ref q), (1, .int (nI (xTopI f (k + 1))))]) hx hb dX0_firstGreatest_27 hl (k := 2) rfl (nI_add (k + 1) 1) (by decide) rfl (fun ls hl => ?_)
        refine lv_goto (tgt := 4) hx hb dX0_firstGreatest_30 (by decide) ?_
        exact ih4 (k + 1) (by omega) ls (lv_sub hl [1, 2, 0] rfl)
      · refine lv_iload_n hx hb dX0_firstGreatest_25 rfl (lv_at hl 2 rfl) ?_
        refine x_top (y := nI (xTopI f (k + 1))) (by rw [xTopI_t c22]) ?_
        refine lv_istore_n (lv' := [(1, .int (nI (xTopI f (k + 1)))), (0, .ref q), (2, .int (nI (k + 1)))]) hx hb dX0_firstGreatest_26 rfl hl (by decide) rfl (fun ls hl => ?_)
        refine lv_iinc (v := nI (k + 1 + 1)) (lv' := [(2, .int (nI (k + 1 + 1))), (1, .int (nI (xTopI f (k + 1)))), (0, .ref q)]) hx hb dX0_firstGreatest_27 hl (k := 2) rfl (nI_add (k + 1) 1) (by decide) rfl (fun ls hl => ?_)
        refine lv_goto (tgt := 4) hx hb dX0_firstGreatest_30 (by decide) ?_
        exact ih4 (k + 1) (by omega) ls (lv_sub hl [2, 1, 0] rfl)
  exact loop4 (n - 1) 0 (by omega) ls (lv_sub hl [2, 1, 0] rfl)

theorem hdv_X0_firstGreatest : yX0_firstGreatest.cls = RX0 ∧ yX0_firstGreatest.cls ≠ "java/lang/invoke/MethodHandle" ∧ yX0_firstGreatest.cls ≠ "java/lang/invoke/VarHandle" ∧ (parseMethodDescriptor yX0_firstGreatest.desc).map (fun d => d.parameters.length) = some 0 := by decide +kernel
theorem flX0_span_15 : Cond.fieldLink RX0 15 "RingSeesaw$Ring" "size" "I" ∈ wsX0_span := by decide +kernel
theorem iwX0_span_0 : ∀ w ∈ wsX00, w ∈ wsX0_span := by decide +kernel
theorem wdX0_span_m46a : Cond.methodLink RX0 46 Lib.Math.min.name ∈ wsX0_span := by decide +kernel
theorem wdX0_span_m46b : Cond.static Lib.Math.min.name ∈ wsX0_span := by decide +kernel
theorem wdX0_span_m46c : Cond.initialized "java/lang/Math" ∈ wsX0_span := by decide +kernel
theorem wdX0_span_m46d : Cond.code Lib.Math.min.name Lib.Math.min.code 2 (some .int) ∈ wsX0_span := by decide +kernel
set_option maxHeartbeats 4000000 in
set_option maxRecDepth 100000 in
theorem c_X0_span (γ : xG) (l : Launch) (q a n : Nat) (f : xRow) (hn0 : 3 ≤ n) (hn1 : n ≤ 12) : xR γ l yX0_span wsX0_span ({ frames := 2, cells := 0, slots := 0, locals := 43 } : Room) [.ref q] ([xO q 0 [.ref a, .int (nI n)], xA γ a 12 f]) (some (.int (xSpn n f))) := by
  refine xR.of (cc := cX0_span) (maxL := 3) (ret := (some .int)) (by decide +kernel) rfl (Nat.le_of_ble_eq_true rfl) ?_
  intro p e s m below meth c hx hb hr hml hts hown hlocks hP hK ls hl
  generalize hargs : ([.ref q] : List Value).toArray = args at hts ⊢
  obtain ⟨Q, hQ⟩ : ∃ Q9, Q9 = MQ below (xRQ (some (.int (xSpn n f)))) args s 0 0 (fun _ => False) := ⟨_, rfl⟩
  rw [← hQ]
  have hown : s.vm.findClass RX0 = some m.cls := hown
  have hl : lv_has ls 3 [(0, .ref q)] := hl
  refine lv_aload_n hx hb dX0_span_0 rfl (lv_at hl 0 rfl) ?_
  refine lv_iconst (v := 0) hx hb dX0_span_1 (by decide) ?_
  refine xVR (q0 := 0) (ci := 0) (As := [.int 0]) (rest := []) (stk := [.int (f 0)]) ⟨hx, hb, hml, hown, hts⟩ (c_X0_at γ l q a (nI n) f 0 (by omega)) (cwV 1 hts gX0_span_X0_at rfl rfl rfl hdv_X0_at ⟨(Nat.le_of_ble_eq_true rfl), (Nat.le_of_ble_eq_true rfl)⟩) hK hP [0, 1] rfl rfl rfl rfl hl.1 rfl (Nat.le_of_ble_eq_true rfl) dX0_span_2 ⟨(Nat.le_of_ble_eq_true rfl), (Nat.le_of_ble_eq_true rfl)⟩ rfl ?_
  refine lv_istore_n (lv' := [(1, .int (f 0)), (0, .ref q)]) hx hb dX0_span_5 rfl hl (by decide) rfl (fun ls hl => ?_)
  refine lv_iconst (v := 1) hx hb dX0_span_6 (by decide) ?_
  refine lv_istore_n (lv' := [(2, .int 1), (1, .int (f 0)), (0, .ref q)]) hx hb dX0_span_7 rfl hl (by decide) rfl (fun ls hl => ?_)
  have loop8 : ∀ j : Nat, ∀ (k : Nat), k + 1 + j = n → ∀ ls : Array Slot, lv_has ls 3 [(0, .ref q), (1, .int (xLo f k)), (2, .int (nI (k + 1)))] → W p l e ({ frames := 2, cells := 0, slots := 0, locals := 43 } : Room) s m args below meth c s.heap [] 0 0 Q (F0 m 8 ls []) := by
    intro j
    induction j with
    | zero =>
      intro k hj ls hl
      refine lv_iload_n hx hb dX0_span_8 rfl (lv_at hl 2 rfl) ?_
      refine lv_aload_n hx hb dX0_span_9 rfl (lv_at hl 0 rfl) ?_
      refine va_get (D := γ.1) (ci := 0) (v := .int (nI n)) (C := RX0) (T := TX0) (N := 2) hx hb hts iwX0_span_0 hown hK hP 0 rfl rfl 1 (by decide) (hts _ flX0_span_15) (fun _ h9 => h9) rfl dX0_span_10 ?_
      refine lv_icmp_ge (tgt := 32) hx hb dX0_span_13 (by decide) (fun _ => ?_) (fun c => absurd (nI_le (a := n) (b := k + 1) (by omega) (by omega)) c)
      have ht := xTopI_le f (n - 1)
      refine lv_aload_n hx hb dX0_span_32 rfl (lv_at hl 0 rfl) ?_
      refine lv_aload_n hx hb dX0_span_33 rfl (lv_at hl 0 rfl) ?_
      refine xVR (q0 := 0) (ci := 0) (As := []) (rest := [.ref q]) (stk := [.int (nI (xTopI f (n - 1))), .ref q]) ⟨hx, hb, hml, hown, hts⟩ (c_X0_firstGreatest γ l q a n f (by omega) (by omega)) (cwV 0 hts gX0_span_X0_firstGreatest rfl rfl rfl hdv_X0_firstGreatest ⟨(Nat.le_of_ble_eq_true rfl), (Nat.le_of_ble_eq_true rfl)⟩) hK hP [0, 1] rfl rfl rfl rfl hl.1 rfl (Nat.le_of_ble_eq_true rfl) dX0_span_34 ⟨(Nat.le_of_ble_eq_true rfl), (Nat.le_of_ble_eq_true rfl)⟩ rfl ?_
      refine xVR (q0 := 0) (ci := 0) (As := [.int (nI (xTopI f (n - 1)))]) (rest := []) (stk := [.int (f (xTopI f (n - 1)))]) ⟨hx, hb, hml, hown, hts⟩ (c_X0_at γ l q a (nI n) f (xTopI f (n - 1)) (by omega)) (cwV 1 hts gX0_span_X0_at rfl rfl rfl hdv_X0_at ⟨(Nat.le_of_ble_eq_true rfl), (Nat.le_of_ble_eq_true rfl)⟩) hK hP [0, 1] rfl rfl rfl rfl hl.1 rfl (Nat.le_of_ble_eq_true rfl) dX0_span_37 ⟨(Nat.le_of_ble_eq_true rfl), (Nat.le_of_ble_eq_true rfl)⟩ rfl ?_
      refine lv_iload_n hx hb dX0_span_40 rfl (lv_at hl 1 rfl) ?_
      refine lv_isub hx hb dX0_span_41 ?_
      subst hQ
      exact xR_i hx hb hr hlocks dX0_span_42 (by rw [show k = n - 1 by omega]; rfl)
    | succ j ih8 =>
      intro k hj ls hl
      refine lv_iload_n hx hb dX0_span_8 rfl (lv_at hl 2 rfl) ?_
      refine lv_aload_n hx hb dX0_span_9 rfl (lv_at hl 0 rfl) ?_
      refine va_get (D := γ.1) (ci := 0) (v := .int (nI n)) (C := RX0) (T := TX0) (N := 2) hx hb hts iwX0_span_0 hown hK hP 0 rfl rfl 1 (by decide) (hts _ flX0_span_15) (fun _ h9 => h9) rfl dX0_span_10 ?_
      refine lv_icmp_ge (tgt := 32) hx hb dX0_span_13 (by decide) (fun c => absurd c (nI_ge (a := k + 1) (b := n) (by omega) (by omega))) (fun _ => ?_)
      refine lv_iload_n hx hb dX0_span_16 rfl (lv_at hl 1 rfl) ?_
      refine lv_aload_n hx hb dX0_span_17 rfl (lv_at hl 0 rfl) ?_
      refine lv_iload_n hx hb dX0_span_18 rfl (lv_at hl 2 rfl) ?_
      refine xVR (q0 := 0) (ci := 0) (As := [.int (nI (k + 1))]) (rest := [.int (xLo f k)]) (stk := [.int (f (k + 1)), .int (xLo f k)]) ⟨hx, hb, hml, hown, hts⟩ (c_X0_at γ l q a (nI n) f (k + 1) (by omega)) (cwV 1 hts gX0_span_X0_at rfl rfl rfl hdv_X0_at ⟨(Nat.le_of_ble_eq_true rfl), (Nat.le_of_ble_eq_true rfl)⟩) hK hP [0, 1] rfl rfl rfl rfl hl.1 rfl (Nat.le_of_ble_eq_true rfl) dX0_span_19 ⟨(Nat.le_of_ble_eq_true rfl), (Nat.le_of_ble_eq_true rfl)⟩ rfl ?_
      refine va_mmin hx hb (hml.trans hl.1.symm) hown (hts _ wdX0_span_m46a) (hts _ wdX0_span_m46b) (hts _ wdX0_span_m46c) (hts _ wdX0_span_m46d) (Nat.le_of_ble_eq_true rfl) (Nat.le_of_ble_eq_true rfl) (Nat.le_of_ble_eq_true rfl) (Nat.le_of_ble_eq_true rfl) dX0_span_22 ?_
      refine lv_istore_n (lv' := [(1, .int (if (f (k + 1)) < (xLo f k) then (f (k + 1)) else (xLo f k))), (0, .ref q), (2, .int (nI (k + 1)))]) hx hb dX0_span_25 rfl hl (by decide) rfl (fun ls hl => ?_)
      refine lv_iinc (v := nI (k + 1 + 1)) (lv' := [(2, .int (nI (k + 1 + 1))), (1, .int (if (f (k + 1)) < (xLo f k) then (f (k + 1)) else (xLo f k))), (0, .ref q)]) hx hb dX0_span_26 hl (k := 2) rfl (nI_add (k + 1) 1) (by decide) rfl (fun ls hl => ?_)
      refine lv_goto (tgt := 8) hx hb dX0_span_29 (by decide) ?_
      exact ih8 (k + 1) (by omega) ls (lv_sub hl [2, 1, 0] rfl)
  exact loop8 (n - 1) 0 (by omega) ls (lv_sub hl [2, 1, 0] rfl)

set_option maxHeartbeats 4000000 in
set_option maxRecDepth 100000 in
theorem c_X0_steepAt (γ : xG) (l : Launch) (q a n : Nat) (f : xRow) (p9 : Nat) (hn0 : 3 ≤ n) (hn1 : n ≤ 12) (hp : p9 < n) : xR γ l yX0_steepAt wsX0_steepAt ({ frames := 1, cells := 0, slots := 0, locals := 21 } : Room) [.ref q, .int (nI p9)] ([xO q 0 [.ref a, .int (nI n)], xA γ a 12 f]) (some (.int (if xSt n f p9 = true then 1 else 0))) := by
  refine xR.of (cc := cX0_steepAt) (maxL := 2) (ret := (some .boolean)) (by decide +kernel) rfl (Nat.le_of_ble_eq_true rfl) ?_
  intro p e s m below meth c hx hb hr hml hts hown hlocks hP hK ls hl
  generalize hargs : ([.ref q, .int (nI p9)] : List Value).toArray = args at hts ⊢
  obtain ⟨Q, hQ⟩ : ∃ Q9, Q9 = MQ below (xRQ (some (.int (if xSt n f p9 = true then 1 else 0)))) args s 0 0 (fun _ => False) := ⟨_, rfl⟩
  rw [← hQ]
  have hown : s.vm.findClass RX0 = some m.cls := hown
  have hl : lv_has ls 2 [(0, .ref q), (1, .int (nI p9))] := hl
  have hap9 : xWr n ((p9 : Int) + 1) < n := xWr_lt (by omega) (by omega) (by omega)
  have hbp9 : xWr n ((p9 : Int) - 1) < n := xWr_lt (by omega) (by omega) (by omega)
  refine lv_iconst (v := 2) hx hb dX0_steepAt_0 (by decide) ?_
  refine lv_aload_n hx hb dX0_steepAt_1 rfl (lv_at hl 0 rfl) ?_
  refine lv_iload_n hx hb dX0_steepAt_2 rfl (lv_at hl 1 rfl) ?_
  refine xVR (q0 := 0) (ci := 0) (As := [.int (nI p9)]) (rest := [.int 2]) (stk := [.int (f p9), .int 2]) ⟨hx, hb, hml, hown, hts⟩ (c_X0_at γ l q a (nI n) f p9 (by omega)) (cwV 1 hts gX0_steepAt_X0_at rfl rfl rfl hdv_X0_at ⟨(Nat.le_of_ble_eq_true rfl), (Nat.le_of_ble_eq_true rfl)⟩) hK hP [0, 1] rfl rfl rfl rfl hl.1 rfl (Nat.le_of_ble_eq_true rfl) dX0_steepAt_3 ⟨(Nat.le_of_ble_eq_true rfl), (Nat.le_of_ble_eq_true rfl)⟩ rfl ?_
  refine lv_imul hx hb dX0_steepAt_6 ?_
  refine lv_aload_n hx hb dX0_steepAt_7 rfl (lv_at hl 0 rfl) ?_
  refine lv_aload_n hx hb dX0_steepAt_8 rfl (lv_at hl 0 rfl) ?_
  refine lv_iload_n hx hb dX0_steepAt_9 rfl (lv_at hl 1 rfl) ?_
  refine lv_iconst (v := 1) hx hb dX0_steepAt_10 (by decide) ?_
  refine lv_iadd hx hb dX0_steepAt_11 ?_
  refine x_top (y := nI p9 + 1) (rfl) ?_
  refine xVR (q0 := 0) (ci := 0) (As := [.int (nI p9 + 1)]) (rest := [.ref q, .int (2 * (f p9))]) (stk := [.int (nI (xWr n ((p9 : Int) + 1))), .ref q, .int (2 * (f p9))]) ⟨hx, hb, hml, hown, hts⟩ (c_X0_onRing γ l q a n f (nI p9 + 1) ((p9 : Int) + 1) (xaddI (nI_toInt (n := p9) (by omega)) (show (1 : Int32).toInt = 1 from rfl) (by omega) (by omega)) (by omega) (by omega) (by omega) (by omega)) (cwV 1 hts gX0_steepAt_X0_onRing rfl rfl rfl hdv_X0_onRing ⟨(Nat.le_of_ble_eq_true rfl), (Nat.le_of_ble_eq_true rfl)⟩) hK hP [0, 1] rfl rfl rfl rfl hl.1 rfl (Nat.le_of_ble_eq_true rfl) dX0_steepAt_12 ⟨(Nat.le_of_ble_eq_true rfl), (Nat.le_of_ble_eq_true rfl)⟩ rfl ?_
  refine xVR (q0 := 0) (ci := 0) (As := [.int (nI (xWr n ((p9 : Int) + 1)))]) (rest := [.int (2 * (f p9))]) (stk := [.int (f (xWr n ((p9 : Int) + 1))), .int (2 * (f p9))]) ⟨hx, hb, hml, hown, hts⟩ (c_X0_at γ l q a (nI n) f (xWr n ((p9 : Int) + 1)) (by omega)) (cwV 1 hts gX0_steepAt_X0_at rfl rfl rfl hdv_X0_at ⟨(Nat.le_of_ble_eq_true rfl), (Nat.le_of_ble_eq_true rfl)⟩) hK hP [0, 1] rfl rfl rfl rfl hl.1 rfl (Nat.le_of_ble_eq_true rfl) dX0_steepAt_15 ⟨(Nat.le_of_ble_eq_true rfl), (Nat.le_of_ble_eq_true rfl)⟩ rfl ?_
  refine lv_isub hx hb dX0_steepAt_18 ?_
  refine lv_aload_n hx hb dX0_steepAt_19 rfl (lv_at hl 0 rfl) ?_
  refine lv_aload_n hx hb dX0_steepAt_20 rfl (lv_at hl 0 rfl) ?_
  refine lv_iload_n hx hb dX0_steepAt_21 rfl (lv_at hl 1 rfl) ?_
  refine lv_iconst (v := 1) hx hb dX0_steepAt_22 (by decide) ?_
  refine lv_isub hx hb dX0_steepAt_23 ?_
  refine x_top (y := nI p9 - 1) (rfl) ?_
  refine xVR (q0 := 0) (ci := 0) (As := [.int (nI p9 - 1)]) (rest := [.ref q, .int ((2 * (f p9)) - (f (xWr n ((p9 : Int) + 1))))]) (stk := [.int (nI (xWr n ((p9 : Int) - 1))), .ref q, .int ((2 * (f p9)) - (f (xWr n ((p9 : Int) + 1))))]) ⟨hx, hb, hml, hown, hts⟩ (c_X0_onRing γ l q a n f (nI p9 - 1) ((p9 : Int) - 1) (xsubI (nI_toInt (n := p9) (by omega)) (show (1 : Int32).toInt = 1 from rfl) (by omega) (by omega)) (by omega) (by omega) (by omega) (by omega)) (cwV 1 hts gX0_steepAt_X0_onRing rfl rfl rfl hdv_X0_onRing ⟨(Nat.le_of_ble_eq_true rfl), (Nat.le_of_ble_eq_true rfl)⟩) hK hP [0, 1] rfl rfl rfl rfl hl.1 rfl (Nat.le_of_ble_eq_true rfl) dX0_steepAt_24 ⟨(Nat.le_of_ble_eq_true rfl), (Nat.le_of_ble_eq_true rfl)⟩ rfl ?_
  refine xVR (q0 := 0) (ci := 0) (As := [.int (nI (xWr n ((p9 : Int) - 1)))]) (rest := [.int ((2 * (f p9)) - (f (xWr n ((p9 : Int) + 1))))]) (stk := [.int (f (xWr n ((p9 : Int) - 1))), .int ((2 * (f p9)) - (f (xWr n ((p9 : Int) + 1))))]) ⟨hx, hb, hml, hown, hts⟩ (c_X0_at γ l q a (nI n) f (xWr n ((p9 : Int) - 1)) (by omega)) (cwV 1 hts gX0_steepAt_X0_at rfl rfl rfl hdv_X0_at ⟨(Nat.le_of_ble_eq_true rfl), (Nat.le_of_ble_eq_true rfl)⟩) hK hP [0, 1] rfl rfl rfl rfl hl.1 rfl (Nat.le_of_ble_eq_true rfl) dX0_steepAt_27 ⟨(Nat.le_of_ble_eq_true rfl), (Nat.le_of_ble_eq_true rfl)⟩ rfl ?_
  refine lv_isub hx hb dX0_steepAt_30 ?_
  refine lv_iconst (v := 3) hx hb dX0_steepAt_31 (by decide) ?_
  refine lv_icmp_le (tgt := 39) hx hb dX0_steepAt_32 (by decide) (fun c32 => ?_) (fun c32 => ?_)
  · refine lv_iconst (v := 0) hx hb dX0_steepAt_39 (by decide) ?_
    subst hQ
    exact xR_z hx hb hr hlocks dX0_steepAt_40 (Or.inl rfl) (xB_0 (xSt_f c32))
  · refine lv_iconst (v := 1) hx hb dX0_steepAt_35 (by decide) ?_
    refine lv_goto (tgt := 40) hx hb dX0_steepAt_36 (by decide) ?_
    subst hQ
    exact xR_z hx hb hr hlocks dX0_steepAt_40 (Or.inr rfl) (xB_1 (xSt_t c32))

theorem hdv_X0_steepAt : yX0_steepAt.cls = RX0 ∧ yX0_steepAt.cls ≠ "java/lang/invoke/MethodHandle" ∧ yX0_steepAt.cls ≠ "java/lang/invoke/VarHandle" ∧ (parseMethodDescriptor yX0_steepAt.desc).map (fun d => d.parameters.length) = some 1 := by decide +kernel
theorem flX0_firstSteep_15 : Cond.fieldLink RX0 15 "RingSeesaw$Ring" "size" "I" ∈ wsX0_firstSteep := by decide +kernel
theorem iwX0_firstSteep_0 : ∀ w ∈ wsX00, w ∈ wsX0_firstSteep := by decide +kernel
set_option maxHeartbeats 4000000 in
set_option maxRecDepth 100000 in
theorem c_X0_firstSteep (γ : xG) (l : Launch) (q a n : Nat) (f : xRow) (hn0 : 3 ≤ n) (hn1 : n ≤ 12) : xR γ l yX0_firstSteep wsX0_firstSteep ({ frames := 2, cells := 0, slots := 0, locals := 42 } : Room) [.ref q] ([xO q 0 [.ref a, .int (nI n)], xA γ a 12 f]) (some (.int (xFi (xSt n f) n))) := by
  refine xR.of (cc := cX0_firstSteep) (maxL := 2) (ret := (some .int)) (by decide +kernel) rfl (Nat.le_of_ble_eq_true rfl) ?_
  intro p e s m below meth c hx hb hr hml hts hown hlocks hP hK ls hl
  generalize hargs : ([.ref q] : List Value).toArray = args at hts ⊢
  obtain ⟨Q, hQ⟩ : ∃ Q9, Q9 = MQ below (xRQ (some (.int (xFi (xSt n f) n)))) args s 0 0 (fun _ => False) := ⟨_, rfl⟩
  rw [← hQ]
  have hown : s.vm.findClass RX0 = some m.cls := hown
  have hl : lv_has ls 2 [(0, .ref q)] := hl
  refine lv_iconst (v := 0) hx hb dX0_firstSteep_0 (by decide) ?_
  refine lv_istore_n (lv' := [(1, .int 0), (0, .ref q)]) hx hb dX0_firstSteep_1 rfl hl (by decide) rfl (fun ls hl => ?_)
  have loop2 : ∀ j : Nat, ∀ (k : Nat), k + j = n → (∀ i, i < k → xSt n f i = false) → ∀ ls : Array Slot, lv_has ls 2 [(0, .ref q), (1, .int (nI k))] → W p l e ({ frames := 2, cells := 0, slots := 0, locals := 42 } : Room) s m args below meth c s.heap [] 0 0 Q (F0 m 2 ls []) := by
    intro j
    induction j with
    | zero =>
      intro k hj hno ls hl
      refine lv_iload_n hx hb dX0_firstSteep_2 rfl (lv_at hl 1 rfl) ?_
      refine lv_aload_n hx hb dX0_firstSteep_3 rfl (lv_at hl 0 rfl) ?_
      refine va_get (D := γ.1) (ci := 0) (v := .int (nI n)) (C := RX0) (T := TX0) (N := 2) hx hb hts iwX0_firstSteep_0 hown hK hP 0 rfl rfl 1 (by decide) (hts _ flX0_firstSteep_15) (fun _ h9 => h9) rfl dX0_firstSteep_4 ?_
      refine lv_icmp_ge (tgt := 26) hx hb dX0_firstSteep_7 (by decide) (fun _ => ?_) (fun c => absurd (nI_le (a := n) (b := k) (by omega) (by omega)) c)
      refine lv_iconst (v := (-1)) hx hb dX0_firstSteep_26 (by decide) ?_
      subst hQ
      exact xR_i hx hb hr hlocks dX0_firstSteep_27 ((xFi_none (fun i hi => hno i (by omega))).symm)
    | succ j ih2 =>
      intro k hj hno ls hl
      refine lv_iload_n hx hb dX0_firstSteep_2 rfl (lv_at hl 1 rfl) ?_
      refine lv_aload_n hx hb dX0_firstSteep_3 rfl (lv_at hl 0 rfl) ?_
      refine va_get (D := γ.1) (ci := 0) (v := .int (nI n)) (C := RX0) (T := TX0) (N := 2) hx hb hts iwX0_firstSteep_0 hown hK hP 0 rfl rfl 1 (by decide) (hts _ flX0_firstSteep_15) (fun _ h9 => h9) rfl dX0_firstSteep_4 ?_
      refine lv_icmp_ge (tgt := 26) hx hb dX0_firstSteep_7 (by decide) (fun c => absurd c (nI_ge (a := k) (b := n) (by omega) (by omega))) (fun _ => ?_)
      refine lv_aload_n hx hb dX0_firstSteep_10 rfl (lv_at hl 0 rfl) ?_
      refine lv_iload_n hx hb dX0_firstSteep_11 rfl (lv_at hl 1 rfl) ?_
      refine xVR (q0 := 0) (ci := 0) (As := [.int (nI k)]) (rest := []) (stk := [.int (if xSt n f k = true then 1 else 0)]) ⟨hx, hb, hml, hown, hts⟩ (c_X0_steepAt γ l q a n f k (by omega) (by omega) (by omega)) (cwV 1 hts gX0_firstSteep_X0_steepAt rfl rfl rfl hdv_X0_steepAt ⟨(Nat.le_of_ble_eq_true rfl), (Nat.le_of_ble_eq_true rfl)⟩) hK hP [0, 1] rfl rfl rfl rfl hl.1 rfl (Nat.le_of_ble_eq_true rfl) dX0_firstSteep_12 ⟨(Nat.le_of_ble_eq_true rfl), (Nat.le_of_ble_eq_true rfl)⟩ rfl ?_
      refine lv_if_eq (tgt := 20) hx hb dX0_firstSteep_15 (by decide) (fun c15 => ?_) (fun c15 => ?_)
      · refine lv_iinc (v := nI (k + 1)) (lv' := [(1, .int (nI (k + 1))), (0, .ref q)]) hx hb dX0_firstSteep_20 hl (k := 1) rfl (nI_add k 1) (by decide) rfl (fun ls hl => ?_)
        refine lv_goto (tgt := 2) hx hb dX0_firstSteep_23 (by decide) ?_
        exact ih2 (k + 1) (by omega) (fun i hi => by rcases (show i < k ∨ i = k by omega) with h | h; exact hno i h; (rw [h]; exact xB_f c15)) ls (lv_sub hl [1, 0] rfl)
      · refine lv_iload_n hx hb dX0_firstSteep_18 rfl (lv_at hl 1 rfl) ?_
        subst hQ
        exact xR_i hx hb hr hlocks dX0_firstSteep_19 ((xFi_some (xB_t c15) hno (by omega)).symm)
  exact loop2 n 0 (by omega) (fun i h => absurd h (Nat.not_lt_zero i)) ls (lv_sub hl [1, 0] rfl)

theorem flX0_tiltOn_15 : Cond.fieldLink RX0 15 "RingSeesaw$Ring" "size" "I" ∈ wsX0_tiltOn := by decide +kernel
theorem iwX0_tiltOn_0 : ∀ w ∈ wsX00, w ∈ wsX0_tiltOn := by decide +kernel
set_option maxHeartbeats 4000000 in
set_option maxRecDepth 100000 in
theorem c_X0_tiltOn (γ : xG) (l : Launch) (q a n : Nat) (f : xRow) (p9 : Nat) (hn0 : 3 ≤ n) (hn1 : n ≤ 12) (hp : p9 < n) : xR γ l yX0_tiltOn wsX0_tiltOn ({ frames := 1, cells := 0, slots := 0, locals := 21 } : Room) [.ref q, .int (nI p9)] ([xO q 0 [.ref a, .int (nI n)], xA γ a 12 f]) (some (.int (xTlt n f p9))) := by
  refine xR.of (cc := cX0_tiltOn) (maxL := 4) (ret := (some .int)) (by decide +kernel) rfl (Nat.le_of_ble_eq_true rfl) ?_
  intro p e s m below meth c hx hb hr hml hts hown hlocks hP hK ls hl
  generalize hargs : ([.ref q, .int (nI p9)] : List Value).toArray = args at hts ⊢
  obtain ⟨Q, hQ⟩ : ∃ Q9, Q9 = MQ below (xRQ (some (.int (xTlt n f p9)))) args s 0 0 (fun _ => False) := ⟨_, rfl⟩
  rw [← hQ]
  have hown : s.vm.findClass RX0 = some m.cls := hown
  have hl : lv_has ls 4 [(0, .ref q), (1, .int (nI p9))] := hl
  refine lv_iconst (v := 0) hx hb dX0_tiltOn_0 (by decide) ?_
  refine lv_istore_n (lv' := [(2, .int 0), (0, .ref q), (1, .int (nI p9))]) hx hb dX0_tiltOn_1 rfl hl (by decide) rfl (fun ls hl => ?_)
  refine lv_iconst (v := 1) hx hb dX0_tiltOn_2 (by decide) ?_
  refine lv_istore_n (lv' := [(3, .int 1), (2, .int 0), (0, .ref q), (1, .int (nI p9))]) hx hb dX0_tiltOn_3 rfl hl (by decide) rfl (fun ls hl => ?_)
  have loop4 : ∀ j : Nat, ∀ (k : Nat), k + j = (n - 1) / 2 → ∀ ls : Array Slot, lv_has ls 4 [(0, .ref q), (1, .int (nI p9)), (2, .int (xTl n f p9 k)), (3, .int (nI (k + 1)))] → W p l e ({ frames := 1, cells := 0, slots := 0, locals := 21 } : Room) s m args below meth c s.heap [] 0 0 Q (F0 m 4 ls []) := by
    intro j
    induction j with
    | zero =>
      intro k hj ls hl
      refine lv_iload_n hx hb dX0_tiltOn_4 rfl (lv_at hl 3 rfl) ?_
      refine lv_aload_n hx hb dX0_tiltOn_5 rfl (lv_at hl 0 rfl) ?_
      refine va_get (D := γ.1) (ci := 0) (v := .int (nI n)) (C := RX0) (T := TX0) (N := 2) hx hb hts iwX0_tiltOn_0 hown hK hP 0 rfl rfl 1 (by decide) (hts _ flX0_tiltOn_15) (fun _ h9 => h9) rfl dX0_tiltOn_6 ?_
      refine lv_iconst (v := 1) hx hb dX0_tiltOn_9 (by decide) ?_
      refine lv_isub hx hb dX0_tiltOn_10 ?_
      refine x_top (y := nI (n - 1)) (pk_sub (a := n) (b := 1) (by omega)) ?_
      refine lv_iconst (v := 2) hx hb dX0_tiltOn_11 (by decide) ?_
      refine lv_idiv hx hb dX0_tiltOn_12 (by decide) ?_
      refine x_top (y := nI ((n - 1) / 2)) (pk_div (a := n - 1) (d := 2) (by omega) (by omega) (by omega)) ?_
      refine lv_icmp_gt (tgt := 50) hx hb dX0_tiltOn_13 (by decide) (fun _ => ?_) (fun c => absurd (nI_lt (a := (n - 1) / 2) (b := k + 1) (by omega) (by omega)) c)
      refine lv_iload_n hx hb dX0_tiltOn_50 rfl (lv_at hl 2 rfl) ?_
      subst hQ
      exact xR_i hx hb hr hlocks dX0_tiltOn_51 (by rw [show k = (n - 1) / 2 by omega]; rfl)
    | succ j ih4 =>
      intro k hj ls hl
      refine lv_iload_n hx hb dX0_tiltOn_4 rfl (lv_at hl 3 rfl) ?_
      refine lv_aload_n hx hb dX0_tiltOn_5 rfl (lv_at hl 0 rfl) ?_
      refine va_get (D := γ.1) (ci := 0) (v := .int (nI n)) (C := RX0) (T := TX0) (N := 2) hx hb hts iwX0_tiltOn_0 hown hK hP 0 rfl rfl 1 (by decide) (hts _ flX0_tiltOn_15) (fun _ h9 => h9) rfl dX0_tiltOn_6 ?_
      refine lv_iconst (v := 1) hx hb dX0_tiltOn_9 (by decide) ?_
      refine lv_isub hx hb dX0_tiltOn_10 ?_
      refine x_top (y := nI (n - 1)) (pk_sub (a := n) (b := 1) (by omega)) ?_
      refine lv_iconst (v := 2) hx hb dX0_tiltOn_11 (by decide) ?_
      refine lv_idiv hx hb dX0_tiltOn_12 (by decide) ?_
      refine x_top (y := nI ((n - 1) / 2)) (pk_div (a := n - 1) (d := 2) (by omega) (by omega) (by omega)) ?_
      refine lv_icmp_gt (tgt := 50) hx hb dX0_tiltOn_13 (by decide) (fun c => absurd c (nI_nlt (a := (n - 1) / 2) (b := k + 1) (by omega) (by omega))) (fun _ => ?_)
      have hwa : xWr n ((p9 : Int) + ((k + 1 : Nat) : Int)) < n := xWr_lt (by omega) (by omega) (by omega)
      have hwb : xWr n ((p9 : Int) - ((k + 1 : Nat) : Int)) < n := xWr_lt (by omega) (by omega) (by omega)
      refine lv_iload_n hx hb dX0_tiltOn_16 rfl (lv_at hl 2 rfl) ?_
      refine lv_aload_n hx hb dX0_tiltOn_17 rfl (lv_at hl 0 rfl) ?_
      refine lv_aload_n hx hb dX0_tiltOn_18 rfl (lv_at hl 0 rfl) ?_
      refine lv_iload_n hx hb dX0_tiltOn_19 rfl (lv_at hl 1 rfl) ?_
      refine lv_iload_n hx hb dX0_tiltOn_20 rfl (lv_at hl 3 rfl) ?_
      refine lv_iadd hx hb dX0_tiltOn_21 ?_
      refine x_top (y := nI p9 + nI (k + 1)) (rfl) ?_
      refine xVR (q0 := 0) (ci := 0) (As := [.int (nI p9 + nI (k + 1))]) (rest := [.ref q, .int (xTl n f p9 k)]) (stk := [.int (nI (xWr n ((p9 : Int) + ((k + 1 : Nat) : Int)))), .ref q, .int (xTl n f p9 k)]) ⟨hx, hb, hml, hown, hts⟩ (c_X0_onRing γ l q a n f (nI p9 + nI (k + 1)) ((p9 : Int) + ((k + 1 : Nat) : Int)) (xaddI (nI_toInt (n := p9) (by omega)) (nI_toInt (n := k + 1) (by omega)) (by omega) (by omega)) (by omega) (by omega) (by omega) (by omega)) (cwV 1 hts gX0_tiltOn_X0_onRing rfl rfl rfl hdv_X0_onRing ⟨(Nat.le_of_ble_eq_true rfl), (Nat.le_of_ble_eq_true rfl)⟩) hK hP [0, 1] rfl rfl rfl rfl hl.1 rfl (Nat.le_of_ble_eq_true rfl) dX0_tiltOn_22 ⟨(Nat.le_of_ble_eq_true rfl), (Nat.le_of_ble_eq_true rfl)⟩ rfl ?_
      refine xVR (q0 := 0) (ci := 0) (As := [.int (nI (xWr n ((p9 : Int) + ((k + 1 : Nat) : Int))))]) (rest := [.int (xTl n f p9 k)]) (stk := [.int (f (xWr n ((p9 : Int) + ((k + 1 : Nat) : Int)))), .int (xTl n f p9 k)]) ⟨hx, hb, hml, hown, hts⟩ (c_X0_at γ l q a (nI n) f (xWr n ((p9 : Int) + ((k + 1 : Nat) : Int))) (by omega)) (cwV 1 hts gX0_tiltOn_X0_at rfl rfl rfl hdv_X0_at ⟨(Nat.le_of_ble_eq_true rfl), (Nat.le_of_ble_eq_true rfl)⟩) hK hP [0, 1] rfl rfl rfl rfl hl.1 rfl (Nat.le_of_ble_eq_true rfl) dX0_tiltOn_25 ⟨(Nat.le_of_ble_eq_true rfl), (Nat.le_of_ble_eq_true rfl)⟩ rfl ?_
      refine lv_aload_n hx hb dX0_tiltOn_28 rfl (lv_at hl 0 rfl) ?_
      refine lv_aload_n hx hb dX0_tiltOn_29 rfl (lv_at hl 0 rfl) ?_
      refine lv_iload_n hx hb dX0_tiltOn_30 rfl (lv_at hl 1 rfl) ?_
      refine lv_iload_n hx hb dX0_tiltOn_31 rfl (lv_at hl 3 rfl) ?_
      refine lv_isub hx hb dX0_tiltOn_32 ?_
      refine x_top (y := nI p9 - nI (k + 1)) (rfl) ?_
      refine xVR (q0 := 0) (ci := 0) (As := [.int (nI p9 - nI (k + 1))]) (rest := [.ref q, .int (f (xWr n ((p9 : Int) + ((k + 1 : Nat) : Int)))), .int (xTl n f p9 k)]) (stk := [.int (nI (xWr n ((p9 : Int) - ((k + 1 : Nat) : Int)))), .ref q, .int (f (xWr n ((p9 : Int) + ((k + 1 : Nat) : Int)))), .int (xTl n f p9 k)]) ⟨hx, hb, hml, hown, hts⟩ (c_X0_onRing γ l q a n f (nI p9 - nI (k + 1)) ((p9 : Int) - ((k + 1 : Nat) : Int)) (xsubI (nI_toInt (n := p9) (by omega)) (nI_toInt (n := k + 1) (by omega)) (by omega) (by omega)) (by omega) (by omega) (by omega) (by omega)) (cwV 1 hts gX0_tiltOn_X0_onRing rfl rfl rfl hdv_X0_onRing ⟨(Nat.le_of_ble_eq_true rfl), (Nat.le_of_ble_eq_true rfl)⟩) hK hP [0, 1] rfl rfl rfl rfl hl.1 rfl (Nat.le_of_ble_eq_true rfl) dX0_tiltOn_33 ⟨(Nat.le_of_ble_eq_true rfl), (Nat.le_of_ble_eq_true rfl)⟩ rfl ?_
      refine xVR (q0 := 0) (ci := 0) (As := [.int (nI (xWr n ((p9 : Int) - ((k + 1 : Nat) : Int))))]) (rest := [.int (f (xWr n ((p9 : Int) + ((k + 1 : Nat) : Int)))), .int (xTl n f p9 k)]) (stk := [.int (f (xWr n ((p9 : Int) - ((k + 1 : Nat) : Int)))), .int (f (xWr n ((p9 : Int) + ((k + 1 : Nat) : Int)))), .int (xTl n f p9 k)]) ⟨hx, hb, hml, hown, hts⟩ (c_X0_at γ l q a (nI n) f (xWr n ((p9 : Int) - ((k + 1 : Nat) : Int))) (by omega)) (cwV 1 hts gX0_tiltOn_X0_at rfl rfl rfl hdv_X0_at ⟨(Nat.le_of_ble_eq_true rfl), (Nat.le_of_ble_eq_true rfl)⟩) hK hP [0, 1] rfl rfl rfl rfl hl.1 rfl (Nat.le_of_ble_eq_true rfl) dX0_tiltOn_36 ⟨(Nat.le_of_ble_eq_true rfl), (Nat.le_of_ble_eq_true rfl)⟩ rfl ?_
      refine lv_isub hx hb dX0_tiltOn_39 ?_
      refine lv_iload_n hx hb dX0_tiltOn_40 rfl (lv_at hl 3 rfl) ?_
      refine lv_imul hx hb dX0_tiltOn_41 ?_
      refine lv_iadd hx hb dX0_tiltOn_42 ?_
      refine lv_istore_n (lv' := [(2, .int ((xTl n f p9 k) + (((f (xWr n ((p9 : Int) + ((k + 1 : Nat) : Int)))) - (f (xWr n ((p9 : Int) - ((k + 1 : Nat) : Int))))) * (nI (k + 1))))), (0, .ref q), (1, .int (nI p9)), (3, .int (nI (k + 1)))]) hx hb dX0_tiltOn_43 rfl hl (by decide) rfl (fun ls hl => ?_)
      refine lv_iinc (v := nI (k + 1 + 1)) (lv' := [(3, .int (nI (k + 1 + 1))), (2, .int ((xTl n f p9 k) + (((f (xWr n ((p9 : Int) + ((k + 1 : Nat) : Int)))) - (f (xWr n ((p9 : Int) - ((k + 1 : Nat) : Int))))) * (nI (k + 1))))), (0, .ref q), (1, .int (nI p9))]) hx hb dX0_tiltOn_44 hl (k := 3) rfl (nI_add (k + 1) 1) (by decide) rfl (fun ls hl => ?_)
      refine lv_goto (tgt := 4) hx hb dX0_tiltOn_47 (by decide) ?_
      exact ih4 (k + 1) (by omega) ls (lv_sub hl [2, 3, 1, 0] rfl)
  exact loop4 ((n - 1) / 2) 0 (by omega) ls (lv_sub hl [2, 3, 1, 0] rfl)

theorem flX0_differencesFrom_15 : Cond.fieldLink RX0 15 "RingSeesaw$Ring" "size" "I" ∈ wsX0_differencesFrom := by decide +kernel
theorem iwX0_differencesFrom_0 : ∀ w ∈ wsX00, w ∈ wsX0_differencesFrom := by decide +kernel
set_option maxHeartbeats 4000000 in
set_option maxRecDepth 100000 in
theorem c_X0_differencesFrom (γ : xG) (l : Launch) (q a q2 b n : Nat) (f g : xRow) (hn0 : 3 ≤ n) (hn1 : n ≤ 12) : xR γ l yX0_differencesFrom wsX0_differencesFrom ({ frames := 1, cells := 0, slots := 0, locals := 21 } : Room) [.ref q, .ref q2] ([xO q 0 [.ref a, .int (nI n)], xA γ a 12 f, xO q2 0 [.ref b, .int (nI n)], xA γ b 12 g]) (some (.int (nI (xCnt (xNe f g) n)))) := by
  refine xR.of (cc := cX0_differencesFrom) (maxL := 4) (ret := (some .int)) (by decide +kernel) rfl (Nat.le_of_ble_eq_true rfl) ?_
  intro p e s m below meth c hx hb hr hml hts hown hlocks hP hK ls hl
  generalize hargs : ([.ref q, .ref q2] : List Value).toArray = args at hts ⊢
  obtain ⟨Q, hQ⟩ : ∃ Q9, Q9 = MQ below (xRQ (some (.int (nI (xCnt (xNe f g) n))))) args s 0 0 (fun _ => False) := ⟨_, rfl⟩
  rw [← hQ]
  have hown : s.vm.findClass RX0 = some m.cls := hown
  have hl : lv_has ls 4 [(0, .ref q), (1, .ref q2)] := hl
  refine lv_iconst (v := 0) hx hb dX0_differencesFrom_0 (by decide) ?_
  refine lv_istore_n (lv' := [(2, .int 0), (0, .ref q), (1, .ref q2)]) hx hb dX0_differencesFrom_1 rfl hl (by decide) rfl (fun ls hl => ?_)
  refine lv_iconst (v := 0) hx hb dX0_differencesFrom_2 (by decide) ?_
  refine lv_istore_n (lv' := [(3, .int 0), (2, .int 0), (0, .ref q), (1, .ref q2)]) hx hb dX0_differencesFrom_3 rfl hl (by decide) rfl (fun ls hl => ?_)
  have loop4 : ∀ j : Nat, ∀ (k : Nat), k + j = n → ∀ ls : Array Slot, lv_has ls 4 [(0, .ref q), (1, .ref q2), (2, .int (nI (xCnt (xNe f g) k))), (3, .int (nI k))] → W p l e ({ frames := 1, cells := 0, slots := 0, locals := 21 } : Room) s m args below meth c s.heap [] 0 0 Q (F0 m 4 ls []) := by
    intro j
    induction j with
    | zero =>
      intro k hj ls hl
      refine lv_iload_n hx hb dX0_differencesFrom_4 rfl (lv_at hl 3 rfl) ?_
      refine lv_aload_n hx hb dX0_differencesFrom_5 rfl (lv_at hl 0 rfl) ?_
      refine va_get (D := γ.1) (ci := 0) (v := .int (nI n)) (C := RX0) (T := TX0) (N := 2) hx hb hts iwX0_differencesFrom_0 hown hK hP 0 rfl rfl 1 (by decide) (hts _ flX0_differencesFrom_15) (fun _ h9 => h9) rfl dX0_differencesFrom_6 ?_
      refine lv_icmp_ge (tgt := 34) hx hb dX0_differencesFrom_9 (by decide) (fun _ => ?_) (fun c => absurd (nI_le (a := n) (b := k) (by omega) (by omega)) c)
      refine lv_iload_n hx hb dX0_differencesFrom_34 rfl (lv_at hl 2 rfl) ?_
      subst hQ
      exact xR_i hx hb hr hlocks dX0_differencesFrom_35 (by rw [show k = n by omega])
    | succ j ih4 =>
      intro k hj ls hl
      refine lv_iload_n hx hb dX0_differencesFrom_4 rfl (lv_at hl 3 rfl) ?_
      refine lv_aload_n hx hb dX0_differencesFrom_5 rfl (lv_at hl 0 rfl) ?_
      refine va_get (D := γ.1) (ci := 0) (v := .int (nI n)) (C := RX0) (T := TX0) (N := 2) hx hb hts iwX0_differencesFrom_0 hown hK hP 0 rfl rfl 1 (by decide) (hts _ flX0_differencesFrom_15) (fun _ h9 => h9) rfl dX0_differencesFrom_6 ?_
      refine lv_icmp_ge (tgt := 34) hx hb dX0_differencesFrom_9 (by decide) (fun c => absurd c (nI_ge (a := k) (b := n) (by omega) (by omega))) (fun _ => ?_)
      refine lv_aload_n hx hb dX0_differencesFrom_12 rfl (lv_at hl 0 rfl) ?_
      refine lv_iload_n hx hb dX0_differencesFrom_13 rfl (lv_at hl 3 rfl) ?_
      refine xVR (q0 := 0) (ci := 0) (As := [.int (nI k)]) (rest := []) (stk := [.int (f k)]) ⟨hx, hb, hml, hown, hts⟩ (c_X0_at γ l q a (nI n) f k (by omega)) (cwV 1 hts gX0_differencesFrom_X0_at rfl rfl rfl hdv_X0_at ⟨(Nat.le_of_ble_eq_true rfl), (Nat.le_of_ble_eq_true rfl)⟩) hK hP [0, 1] rfl rfl rfl rfl hl.1 rfl (Nat.le_of_ble_eq_true rfl) dX0_differencesFrom_14 ⟨(Nat.le_of_ble_eq_true rfl), (Nat.le_of_ble_eq_true rfl)⟩ rfl ?_
      refine lv_aload_n hx hb dX0_differencesFrom_17 rfl (lv_at hl 1 rfl) ?_
      refine lv_iload_n hx hb dX0_differencesFrom_18 rfl (lv_at hl 3 rfl) ?_
      refine xVR (q0 := 2) (ci := 0) (As := [.int (nI k)]) (rest := [.int (f k)]) (stk := [.int (g k), .int (f k)]) ⟨hx, hb, hml, hown, hts⟩ (c_X0_at γ l q2 b (nI n) g k (by omega)) (cwV 1 hts gX0_differencesFrom_X0_at rfl rfl rfl hdv_X0_at ⟨(Nat.le_of_ble_eq_true rfl), (Nat.le_of_ble_eq_true rfl)⟩) hK hP [2, 3] rfl rfl rfl rfl hl.1 rfl (Nat.le_of_ble_eq_true rfl) dX0_differencesFrom_19 ⟨(Nat.le_of_ble_eq_true rfl), (Nat.le_of_ble_eq_true rfl)⟩ rfl ?_
      refine lv_icmp_eq (tgt := 28) hx hb dX0_differencesFrom_22 (by decide) (fun c22 => ?_) (fun c22 => ?_)
      · rw [← xCnt_f (xNe_f c22)] at hl
        refine lv_iinc (v := nI (k + 1)) (lv' := [(3, .int (nI (k + 1))), (0, .ref q), (1, .ref q2), (2, .int (nI (xCnt (xNe f g) (k + 1))))]) hx hb dX0_differencesFrom_28 hl (k := 3) rfl (nI_add k 1) (by decide) rfl (fun ls hl => ?_)
        refine lv_goto (tgt := 4) hx hb dX0_differencesFrom_31 (by decide) ?_
        exact ih4 (k + 1) (by omega) ls (lv_sub hl [1, 2, 3, 0] rfl)
      · refine lv_iinc (v := nI (xCnt (xNe f g) (k + 1))) (lv' := [(2, .int (nI (xCnt (xNe f g) (k + 1)))), (0, .ref q), (1, .ref q2), (3, .int (nI k))]) hx hb dX0_differencesFrom_25 hl (k := 2) rfl ((nI_1 _).trans (congrArg nI (xCnt_t (xNe_t c22)).symm)) (by decide) rfl (fun ls hl => ?_)
        refine lv_iinc (v := nI (k + 1)) (lv' := [(3, .int (nI (k + 1))), (2, .int (nI (xCnt (xNe f g) (k + 1)))), (0, .ref q), (1, .ref q2)]) hx hb dX0_differencesFrom_28 hl (k := 3) rfl (nI_add k 1) (by decide) rfl (fun ls hl => ?_)
        refine lv_goto (tgt := 4) hx hb dX0_differencesFrom_31 (by decide) ?_
        exact ih4 (k + 1) (by omega) ls (lv_sub hl [2, 3, 1, 0] rfl)
  exact loop4 n 0 (by omega) ls (lv_sub hl [2, 3, 1, 0] rfl)

theorem hdv_X0_total : yX0_total.cls = RX0 ∧ yX0_total.cls ≠ "java/lang/invoke/MethodHandle" ∧ yX0_total.cls ≠ "java/lang/invoke/VarHandle" ∧ (parseMethodDescriptor yX0_total.desc).map (fun d => d.parameters.length) = some 0 := by decide +kernel
theorem hdv_X0_momentLeft : yX0_momentLeft.cls = RX0 ∧ yX0_momentLeft.cls ≠ "java/lang/invoke/MethodHandle" ∧ yX0_momentLeft.cls ≠ "java/lang/invoke/VarHandle" ∧ (parseMethodDescriptor yX0_momentLeft.desc).map (fun d => d.parameters.length) = some 0 := by decide +kernel
set_option maxHeartbeats 4000000 in
set_option maxRecDepth 100000 in
theorem c_X0_canBecome (γ : xG) (l : Launch) (q a q2 b n : Nat) (f g : xRow) (hn0 : 3 ≤ n) (hn1 : n ≤ 12) : xR γ l yX0_canBecome wsX0_canBecome ({ frames := 2, cells := 0, slots := 0, locals := 44 } : Room) [.ref q, .ref q2] ([xO q 0 [.ref a, .int (nI n)], xA γ a 12 f, xO q2 0 [.ref b, .int (nI n)], xA γ b 12 g]) (some (.int (if xCB n f g = true then 1 else 0))) := by
  refine xR.of (cc := cX0_canBecome) (maxL := 2) (ret := (some .boolean)) (by decide +kernel) rfl (Nat.le_of_ble_eq_true rfl) ?_
  intro p e s m below meth c hx hb hr hml hts hown hlocks hP hK ls hl
  generalize hargs : ([.ref q, .ref q2] : List Value).toArray = args at hts ⊢
  obtain ⟨Q, hQ⟩ : ∃ Q9, Q9 = MQ below (xRQ (some (.int (if xCB n f g = true then 1 else 0)))) args s 0 0 (fun _ => False) := ⟨_, rfl⟩
  rw [← hQ]
  have hown : s.vm.findClass RX0 = some m.cls := hown
  have hl : lv_has ls 2 [(0, .ref q), (1, .ref q2)] := hl
  refine lv_aload_n hx hb dX0_canBecome_0 rfl (lv_at hl 0 rfl) ?_
  refine xVR (q0 := 0) (ci := 0) (As := []) (rest := []) (stk := [.int (xTot f n)]) ⟨hx, hb, hml, hown, hts⟩ (c_X0_total γ l q a n f (by omega) (by omega)) (cwV 0 hts gX0_canBecome_X0_total rfl rfl rfl hdv_X0_total ⟨(Nat.le_of_ble_eq_true rfl), (Nat.le_of_ble_eq_true rfl)⟩) hK hP [0, 1] rfl rfl rfl rfl hl.1 rfl (Nat.le_of_ble_eq_true rfl) dX0_canBecome_1 ⟨(Nat.le_of_ble_eq_true rfl), (Nat.le_of_ble_eq_true rfl)⟩ rfl ?_
  refine lv_aload_n hx hb dX0_canBecome_4 rfl (lv_at hl 1 rfl) ?_
  refine xVR (q0 := 2) (ci := 0) (As := []) (rest := [.int (xTot f n)]) (stk := [.int (xTot g n), .int (xTot f n)]) ⟨hx, hb, hml, hown, hts⟩ (c_X0_total γ l q2 b n g (by omega) (by omega)) (cwV 0 hts gX0_canBecome_X0_total rfl rfl rfl hdv_X0_total ⟨(Nat.le_of_ble_eq_true rfl), (Nat.le_of_ble_eq_true rfl)⟩) hK hP [2, 3] rfl rfl rfl rfl hl.1 rfl (Nat.le_of_ble_eq_true rfl) dX0_canBecome_5 ⟨(Nat.le_of_ble_eq_true rfl), (Nat.le_of_ble_eq_true rfl)⟩ rfl ?_
  refine lv_icmp_ne (tgt := 26) hx hb dX0_canBecome_8 (by decide) (fun c8 => ?_) (fun c8 => ?_)
  · refine lv_iconst (v := 0) hx hb dX0_canBecome_26 (by decide) ?_
    subst hQ
    exact xR_z hx hb hr hlocks dX0_canBecome_27 (Or.inl rfl) (xB_0 (xCB_0 c8))
  · refine lv_aload_n hx hb dX0_canBecome_11 rfl (lv_at hl 0 rfl) ?_
    refine xVR (q0 := 0) (ci := 0) (As := []) (rest := []) (stk := [.int (xMm n f)]) ⟨hx, hb, hml, hown, hts⟩ (c_X0_momentLeft γ l q a n f (by omega) (by omega)) (cwV 0 hts gX0_canBecome_X0_momentLeft rfl rfl rfl hdv_X0_momentLeft ⟨(Nat.le_of_ble_eq_true rfl), (Nat.le_of_ble_eq_true rfl)⟩) hK hP [0, 1] rfl rfl rfl rfl hl.1 rfl (Nat.le_of_ble_eq_true rfl) dX0_canBecome_12 ⟨(Nat.le_of_ble_eq_true rfl), (Nat.le_of_ble_eq_true rfl)⟩ rfl ?_
    refine lv_aload_n hx hb dX0_canBecome_15 rfl (lv_at hl 1 rfl) ?_
    refine xVR (q0 := 2) (ci := 0) (As := []) (rest := [.int (xMm n f)]) (stk := [.int (xMm n g), .int (xMm n f)]) ⟨hx, hb, hml, hown, hts⟩ (c_X0_momentLeft γ l q2 b n g (by omega) (by omega)) (cwV 0 hts gX0_canBecome_X0_momentLeft rfl rfl rfl hdv_X0_momentLeft ⟨(Nat.le_of_ble_eq_true rfl), (Nat.le_of_ble_eq_true rfl)⟩) hK hP [2, 3] rfl rfl rfl rfl hl.1 rfl (Nat.le_of_ble_eq_true rfl) dX0_canBecome_16 ⟨(Nat.le_of_ble_eq_true rfl), (Nat.le_of_ble_eq_true rfl)⟩ rfl ?_
    refine lv_icmp_ne (tgt := 26) hx hb dX0_canBecome_19 (by decide) (fun c19 => ?_) (fun c19 => ?_)
    · refine lv_iconst (v := 0) hx hb dX0_canBecome_26 (by decide) ?_
      subst hQ
      exact xR_z hx hb hr hlocks dX0_canBecome_27 (Or.inl rfl) (xB_0 (xCB_1 c19))
    · refine lv_iconst (v := 1) hx hb dX0_canBecome_22 (by decide) ?_
      refine lv_goto (tgt := 27) hx hb dX0_canBecome_23 (by decide) ?_
      subst hQ
      exact xR_z hx hb hr hlocks dX0_canBecome_27 (Or.inr rfl) (xB_1 (xCB_2 c8 c19))

theorem hdv_X0_firstSteep : yX0_firstSteep.cls = RX0 ∧ yX0_firstSteep.cls ≠ "java/lang/invoke/MethodHandle" ∧ yX0_firstSteep.cls ≠ "java/lang/invoke/VarHandle" ∧ (parseMethodDescriptor yX0_firstSteep.desc).map (fun d => d.parameters.length) = some 0 := by decide +kernel
theorem hdv_X0_tipBy : yX0_tipBy.cls = RX0 ∧ yX0_tipBy.cls ≠ "java/lang/invoke/MethodHandle" ∧ yX0_tipBy.cls ≠ "java/lang/invoke/VarHandle" ∧ (parseMethodDescriptor yX0_tipBy.desc).map (fun d => d.parameters.length) = some 2 := by decide +kernel
set_option maxHeartbeats 4000000 in
set_option maxRecDepth 100000 in
theorem c_X0_settleBy (γ : xG) (l : Launch) (q a n : Nat) (f : xRow) (k : Nat) (hn0 : 3 ≤ n) (hn1 : n ≤ 12) (hk : k < 1000) : xM γ l yX0_settleBy wsX0_settleBy ({ frames := 3, cells := 0, slots := 0, locals := 66 } : Room) [.ref q, .int (nI k)] ([xO q 0 [.ref a, .int (nI n)], xA γ a 12 f]) (fun r w => r = some (.int (nI (xStl n k f).1)) ∧ w = [xO q 0 [.ref a, .int (nI n)], xA γ a 12 (xStl n k f).2]) 0 0 := by
  refine xM.of (cc := cX0_settleBy) (maxL := 4) (ret := (some .int)) (by decide +kernel) rfl (Nat.le_of_ble_eq_true rfl) ?_
  intro p e s m below meth c hx hb hr hml hts hown hlocks hin hP hK A hA hD ls hl
  have hS : va_S A s.heap s.heap [] := va_S.rf
  generalize hargs : ([.ref q, .int (nI k)] : List Value).toArray = args at hts ⊢
  obtain ⟨Q, hQ⟩ : ∃ Q9, Q9 = MQ below (xMQ γ (List.map Prod.fst ([xO q 0 [.ref a, .int (nI n)], xA γ a 12 f])) A (fun r w => r = some (.int (nI (xStl n k f).1)) ∧ w = [xO q 0 [.ref a, .int (nI n)], xA γ a 12 (xStl n k f).2])) args s 0 0 A := ⟨_, rfl⟩
  rw [← hQ]
  have hown : s.vm.findClass RX0 = some m.cls := hown
  have hl : lv_has ls 4 [(0, .ref q), (1, .int (nI k))] := hl
  refine lv_iconst (v := 0) hx hb dX0_settleBy_0 (by decide) ?_
  refine lv_istore_n (lv' := [(2, .int 0), (0, .ref q), (1, .int (nI k))]) hx hb dX0_settleBy_1 rfl hl (by decide) rfl (fun ls hl => ?_)
  have loop2 : ∀ j : Nat, ∀ (d : Nat) (g : xRow), d + j = k → (xStl n k f = (d + (xStl n j g).1, (xStl n j g).2)) → ∀ (H : Heap) (locs : List Loc), xP γ ([xO q 0 [.ref a, .int (nI n)], xA γ a 12 g]) H → va_D A ([xO q 0 [.ref a, .int (nI n)], xA γ a 12 g]) → va_S A s.heap H locs → ∀ ls : Array Slot, lv_has ls 4 [(0, .ref q), (1, .int (nI k)), (2, .int (nI d))] → W p l e ({ frames := 3, cells := 0, slots := 0, locals := 66 } : Room) s m args below meth c H locs 0 0 Q (F0 m 2 ls []) := by
    intro j
    induction j with
    | zero =>
      intro d g hj hst H locs hP hD hS ls hl
      refine lv_iload_n hx hb dX0_settleBy_2 rfl (lv_at hl 2 rfl) ?_
      refine lv_iload_n hx hb dX0_settleBy_3 rfl (lv_at hl 1 rfl) ?_
      refine lv_icmp_ge (tgt := 30) hx hb dX0_settleBy_4 (by decide) (fun _ => ?_) (fun c => absurd (nI_le (a := k) (b := d) (by omega) (by omega)) c)
      refine lv_iload_n hx hb dX0_settleBy_30 rfl (lv_at hl 2 rfl) ?_
      subst hQ
      exact xM_i hx hb hr hlocks dX0_settleBy_31 hP rfl hS (Nat.le_of_ble_eq_true rfl) (Nat.le_of_ble_eq_true rfl) (⟨by rw [hst]; rfl, by rw [hst]; rfl⟩)
    | succ j ih2 =>
      intro d g hj hst H locs hP hD hS ls hl
      refine lv_iload_n hx hb dX0_settleBy_2 rfl (lv_at hl 2 rfl) ?_
      refine lv_iload_n hx hb dX0_settleBy_3 rfl (lv_at hl 1 rfl) ?_
      refine lv_icmp_ge (tgt := 30) hx hb dX0_settleBy_4 (by decide) (fun c => absurd c (nI_ge (a := d) (b := k) (by omega) (by omega))) (fun _ => ?_)
      refine lv_aload_n hx hb dX0_settleBy_7 rfl (lv_at hl 0 rfl) ?_
      refine xVR (q0 := 0) (ci := 0) (As := []) (rest := []) (stk := [.int (xFi (xSt n g) n)]) ⟨hx, hb, hml, hown, hts⟩ (c_X0_firstSteep γ l q a n g (by omega) (by omega)) (cwV 0 hts gX0_settleBy_X0_firstSteep rfl rfl rfl hdv_X0_firstSteep ⟨(Nat.le_of_ble_eq_true rfl), (Nat.le_of_ble_eq_true rfl)⟩) hK hP [0, 1] rfl rfl rfl rfl hl.1 rfl (Nat.le_of_ble_eq_true rfl) dX0_settleBy_8 ⟨(Nat.le_of_ble_eq_true rfl), (Nat.le_of_ble_eq_true rfl)⟩ rfl ?_
      refine lv_istore_n (lv' := [(3, .int (xFi (xSt n g) n)), (0, .ref q), (1, .int (nI k)), (2, .int (nI d))]) hx hb dX0_settleBy_11 rfl hl (by decide) rfl (fun ls hl => ?_)
      refine lv_iload_n hx hb dX0_settleBy_12 rfl (lv_at hl 0 rfl) ?_
      refine lv_if_ge (tgt := 18) hx hb dX0_settleBy_13 (by decide) (fun c13 => ?_) (fun c13 => ?_)
      · obtain ⟨hi, ei⟩ := xFi_ge (by omega) c13
        refine lv_aload_n hx hb dX0_settleBy_18 rfl (lv_at hl 1 rfl) ?_
        refine lv_iload_n hx hb dX0_settleBy_19 rfl (lv_at hl 0 rfl) ?_
        refine x_top (y := nI (xFirst (xSt n g) n)) (ei) ?_
        refine lv_iconst (v := 1) hx hb dX0_settleBy_20 (by decide) ?_
        refine xVM (q0 := 0) (ci := 0) (As := [.int (nI (xFirst (xSt n g) n)), .int 1]) (rest := []) ⟨hx, hb, hml, hown, hts⟩ (c_X0_tipBy γ l q a n g (xFirst (xSt n g) n) 1 (by omega) (by omega) (by omega)) (cwV 2 hts gX0_settleBy_X0_tipBy rfl rfl rfl hdv_X0_tipBy ⟨(Nat.le_of_ble_eq_true rfl), (Nat.le_of_ble_eq_true rfl)⟩) hK hP hD hS hA [0, 1] rfl rfl rfl rfl rfl hl.1 rfl (Nat.le_of_ble_eq_true rfl) dX0_settleBy_21 ⟨(Nat.le_of_ble_eq_true rfl), (Nat.le_of_ble_eq_true rfl)⟩ (fun r9 w9 H locs hw hP hD hS => ?_)
        obtain ⟨rfl, rfl⟩ := hw
        have hP : xP γ ([xO q 0 [.ref a, .int (nI n)], xA γ a 12 (xTip n g (xFirst (xSt n g) n) 1)]) H := hP
        have hD : va_D A ([xO q 0 [.ref a, .int (nI n)], xA γ a 12 (xTip n g (xFirst (xSt n g) n) 1)]) := hD
        refine W.eq (g2 := F0 m 24 ls []) rfl ?_
        refine lv_iinc (v := nI (d + 1)) (lv' := [(2, .int (nI (d + 1))), (3, .int (xFi (xSt n g) n)), (0, .ref q), (1, .int (nI k))]) hx hb dX0_settleBy_24 hl (k := 3) rfl (nI_add d 1) (by decide) rfl (fun ls hl => ?_)
        refine lv_goto (tgt := 2) hx hb dX0_settleBy_27 (by decide) ?_
        exact ih2 (d + 1) (xTip n g (xFirst (xSt n g) n) 1) (by omega) (by rw [hst, xStl_t j hi]; exact Prod.ext (by show d + (_ + 1) = d + 1 + _; omega) rfl) _ _ hP hD hS ls (lv_sub hl [2, 3, 0] rfl)
      · obtain ⟨hi, ei⟩ := xFi_lt (by omega) c13
        refine lv_iload_n hx hb dX0_settleBy_16 rfl (lv_at hl 3 rfl) ?_
        subst hQ
        exact xM_i hx hb hr hlocks dX0_settleBy_17 hP rfl hS (Nat.le_of_ble_eq_true rfl) (Nat.le_of_ble_eq_true rfl) (⟨by rw [hst, xStl_f j hi]; rfl, by rw [hst, xStl_f j hi]⟩)
  exact loop2 k 0 f (by omega) (Prod.ext (Nat.zero_add _).symm rfl) _ _ hP hD hS ls (lv_sub hl [1, 2, 0] rfl)

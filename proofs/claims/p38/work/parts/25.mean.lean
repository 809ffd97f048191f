/-! meanNumber, of the class and of the twin (rows laid by wip/whole/spec_mean.py) -/
theorem flX2_meanNumber_10 : Cond.fieldLink RX2 10 "RingSeesaw" "ring" "LRingSeesaw$Ring;" ∈ wsX2_meanNumber := by decide +kernel
theorem iwX2_meanNumber_2 : ∀ w ∈ wsX20, w ∈ wsX2_meanNumber := by decide +kernel
set_option maxHeartbeats 4000000 in
set_option maxRecDepth 100000 in
theorem c_X2_meanNumber (γ : xG) (l : Launch) (q0 q1 q2 q3 q4 kc : Nat) (td : Int32) (a1 n : Nat) (f : xRow) (hn0 : 3 ≤ n) (hn1 : n ≤ 12) : xMD γ l yX2_meanNumber wsX2_meanNumber ({ frames := 2, cells := 0, slots := 0, locals := 43 } : Room) [.ref q0] ([xO q0 2 [.ref q1, .ref q4, .int (nI kc), .int td, .ref q2, .ref q3], xO q1 0 [.ref a1, .int (nI n)], xA γ a1 12 f]) (fun r9 w9 => ∃ d9 : UInt64, r9 = some (.double d9) ∧ alike64 d9 (FP.ddiv (FP.i2d (xTot f n)) (FP.i2d (nI n))) = true ∧ w9 = [xO q0 2 [.ref q1, .ref q4, .int (nI kc), .int td, .ref q2, .ref q3], xO q1 0 [.ref a1, .int (nI n)], xA γ a1 12 f]) 0 0 := by
  refine xMD.of (cc := cX2_meanNumber) (maxL := 2) (ret := (some .double)) (by decide +kernel) rfl (Nat.le_of_ble_eq_true rfl) ?_
  intro p e s m below meth c hx hb hr hml hts hown hlocks hin hP hK A hA hD ls hl
  have hS : va_S A s.heap s.heap [] := va_S.rf
  generalize hargs : ([.ref q0] : List Value).toArray = args at hts ⊢
  obtain ⟨Q, hQ⟩ : ∃ Q9, Q9 = MQD lw_cs below (xMQ γ (List.map Prod.fst ([xO q0 2 [.ref q1, .ref q4, .int (nI kc), .int td, .ref q2, .ref q3], xO q1 0 [.ref a1, .int (nI n)], xA γ a1 12 f])) A (fun r9 w9 => ∃ d9 : UInt64, r9 = some (.double d9) ∧ alike64 d9 (FP.ddiv (FP.i2d (xTot f n)) (FP.i2d (nI n))) = true ∧ w9 = [xO q0 2 [.ref q1, .ref q4, .int (nI kc), .int td, .ref q2, .ref q3], xO q1 0 [.ref a1, .int (nI n)], xA γ a1 12 f])) args s 0 0 A := ⟨_, rfl⟩
  rw [← hQ]
  have hown : s.vm.findClass RX2 = some m.cls := hown
  have hl : lv_has ls 2 [(0, .ref q0)] := hl
  refine lv_aload_n hx hb dX2_meanNumber_0 rfl (lv_at hl 0 rfl) ?_
  refine va_get (D := γ.1) (ci := 2) (v := .ref q1) (C := RX2) (T := TX2) (N := 6) hx hb hts iwX2_meanNumber_2 hown hK hP 0 rfl rfl 0 (by decide) (hts _ flX2_meanNumber_10) (fun _ h9 => h9) rfl dX2_meanNumber_1 ?_
  refine xVR (q0 := 1) (ci := 0) (As := []) (rest := []) (stk := [.int (nI n)]) ⟨hx, hb, hml, hown, hts⟩ (c_X0_size γ l q1 a1 n f) (cwV 0 hts gX2_meanNumber_X0_size rfl rfl rfl hdv_X0_size ⟨(Nat.le_of_ble_eq_true rfl), (Nat.le_of_ble_eq_true rfl)⟩) hK hP [1, 2] rfl rfl rfl rfl hl.1 rfl (Nat.le_of_ble_eq_true rfl) dX2_meanNumber_4 ⟨(Nat.le_of_ble_eq_true rfl), (Nat.le_of_ble_eq_true rfl)⟩ rfl ?_
  refine lv_istore_n (lv' := [(1, .int (nI n)), (0, .ref q0)]) hx hb dX2_meanNumber_7 rfl hl (by decide) rfl (fun ls hl => ?_)
  refine lv_iload_n hx hb dX2_meanNumber_8 rfl (lv_at hl 0 rfl) ?_
  refine lv_if_le (tgt := 26) hx hb dX2_meanNumber_9 (by decide) (fun c => absurd c (nI_nle (by omega) (by omega))) (fun _ => ?_)
  refine lv_aload_n hx hb dX2_meanNumber_12 rfl (lv_at hl 1 rfl) ?_
  refine va_get (D := γ.1) (ci := 2) (v := .ref q1) (C := RX2) (T := TX2) (N := 6) hx hb hts iwX2_meanNumber_2 hown hK hP 0 rfl rfl 0 (by decide) (hts _ flX2_meanNumber_10) (fun _ h9 => h9) rfl dX2_meanNumber_13 ?_
  refine xVR (q0 := 1) (ci := 0) (As := []) (rest := []) (stk := [.int (xTot f n)]) ⟨hx, hb, hml, hown, hts⟩ (c_X0_total γ l q1 a1 n f (by omega) (by omega)) (cwV 0 hts gX2_meanNumber_X0_total rfl rfl rfl hdv_X0_total ⟨(Nat.le_of_ble_eq_true rfl), (Nat.le_of_ble_eq_true rfl)⟩) hK hP [1, 2] rfl rfl rfl rfl hl.1 rfl (Nat.le_of_ble_eq_true rfl) dX2_meanNumber_16 ⟨(Nat.le_of_ble_eq_true rfl), (Nat.le_of_ble_eq_true rfl)⟩ rfl ?_
  refine lv_i2d hx hb dX2_meanNumber_19 ?_
  refine lv_iload_n hx hb dX2_meanNumber_20 rfl (lv_at hl 0 rfl) ?_
  refine lv_i2d hx hb dX2_meanNumber_21 ?_
  refine lv_ddiv_any (s := s) (d0 := s.drawn) (Drawn.sameBut.refl s.drawn lw_cs) lw_bits hx hb dX2_meanNumber_22 (fun rr d1 hal hd1 => ?_)
  refine lv_goto (tgt := 27) hx hb dX2_meanNumber_23 (by decide) ?_
  subst hQ
  refine W.endD hd1 ?_
  exact xM_d hx hb hr hlocks dX2_meanNumber_27 hP rfl hS (Nat.le_of_ble_eq_true rfl) (Nat.le_of_ble_eq_true rfl) ⟨_, rfl, hal, rfl⟩

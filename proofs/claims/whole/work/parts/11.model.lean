/-! RingSeesawModel, its private methods (rows laid by wip/whole/spec_model.py) -/
theorem flX3_thrown_26 : Cond.fieldLink RX3 26 "RingSeesawModel" "thrown" "I" ∈ wsX3_thrown := by decide +kernel
theorem iwX3_thrown_3 : ∀ w ∈ wsX30, w ∈ wsX3_thrown := by decide +kernel
set_option maxHeartbeats 4000000 in
set_option maxRecDepth 100000 in
theorem c_X3_thrown (γ : xG) (l : Launch) (m0 m1 m2 m3 m4 n kc : Nat) (th td : Int32) : xR γ l yX3_thrown wsX3_thrown ({ frames := 0, cells := 0, slots := 0, locals := 0 } : Room) [.ref m0] ([xO m0 3 [.int th, .int (nI n), .int (nI kc), .int td, .ref m1, .ref m2, .ref m3, .ref m4]]) (some (.int th)) := by
  refine xR.of (cc := cX3_thrown) (maxL := 1) (ret := (some .int)) (by decide +kernel) rfl (Nat.le_of_ble_eq_true rfl) ?_
  intro p e s m below meth c hx hb hr hml hts hown hlocks hP hK ls hl
  generalize hargs : ([.ref m0] : List Value).toArray = args at hts ⊢
  obtain ⟨Q, hQ⟩ : ∃ Q9, Q9 = MQ below (xRQ (some (.int th))) args s 0 0 (fun _ => False) := ⟨_, rfl⟩
  rw [← hQ]
  have hown : s.vm.findClass RX3 = some m.cls := hown
  have hl : lv_has ls 1 [(0, .ref m0)] := hl
  refine lv_aload_n hx hb dX3_thrown_0 rfl (lv_at hl 0 rfl) ?_
  refine va_get (D := γ.1) (ci := 3) (v := .int th) (C := RX3) (T := TX3) (N := 8) hx hb hts iwX3_thrown_3 hown hK hP 0 rfl rfl 0 (by decide) (hts _ flX3_thrown_26) (fun _ h9 => h9) rfl dX3_thrown_1 ?_
  subst hQ
  exact xR_i hx hb hr hlocks dX3_thrown_4 (rfl)

theorem flX3_no_26 : Cond.fieldLink RX3 26 "RingSeesawModel" "thrown" "I" ∈ wsX3_no := by decide +kernel
theorem iwX3_no_3 : ∀ w ∈ wsX30, w ∈ wsX3_no := by decide +kernel
set_option maxHeartbeats 4000000 in
set_option maxRecDepth 100000 in
theorem c_X3_no (γ : xG) (l : Launch) (m0 m1 m2 m3 m4 n kc : Nat) (th td : Int32) (x : Int32) : xM γ l yX3_no wsX3_no ({ frames := 0, cells := 0, slots := 0, locals := 0 } : Room) [.ref m0, .int x] ([xO m0 3 [.int th, .int (nI n), .int (nI kc), .int td, .ref m1, .ref m2, .ref m3, .ref m4]]) (fun r9 w9 => r9 = some (.int 0) ∧ w9 = [xO m0 3 [.int x, .int (nI n), .int (nI kc), .int td, .ref m1, .ref m2, .ref m3, .ref m4]]) 0 0 := by
  refine xM.of (cc := cX3_no) (maxL := 2) (ret := (some .int)) (by decide +kernel) rfl (Nat.le_of_ble_eq_true rfl) ?_
  intro p e s m below meth c hx hb hr hml hts hown hlocks hin hP hK A hA hD ls hl
  have hS : va_S A s.heap s.heap [] := va_S.rf
  generalize hargs : ([.ref m0, .int x] : List Value).toArray = args at hts ⊢
  obtain ⟨Q, hQ⟩ : ∃ Q9, Q9 = MQ below (xMQ γ (List.map Prod.fst ([xO m0 3 [.int th, .int (nI n), .int (nI kc), .int td, .ref m1, .ref m2, .ref m3, .ref m4]])) A (fun r9 w9 => r9 = some (.int 0) ∧ w9 = [xO m0 3 [.int x, .int (nI n), .int (nI kc), .int td, .ref m1, .ref m2, .ref m3, .ref m4]])) args s 0 0 A := ⟨_, rfl⟩
  rw [← hQ]
  have hown : s.vm.findClass RX3 = some m.cls := hown
  have hl : lv_has ls 2 [(0, .ref m0), (1, .int x)] := hl
  refine lv_aload_n hx hb dX3_no_0 rfl (lv_at hl 0 rfl) ?_
  refine lv_iload_n hx hb dX3_no_1 rfl (lv_at hl 1 rfl) ?_
  refine va_put (D := γ.1) (ci := 3) (v := .int x) (ty := .int) (C := RX3) (T := TX3) (N := 8) hx hb hts iwX3_no_3 tyX3 tyX3_ok nmX3 hown hK hP hD hS 0 rfl rfl 0 (by decide) (hts _ flX3_no_26) (fun _ h9 => h9) rfl (by decide +kernel) rfl rfl (Nat.le_of_ble_eq_true rfl) dX3_no_2 (fun H locs hP hD hS => ?_)
  have hP : xP γ ([xO m0 3 [.int x, .int (nI n), .int (nI kc), .int td, .ref m1, .ref m2, .ref m3, .ref m4]]) H := hP
  have hD : va_D A ([xO m0 3 [.int x, .int (nI n), .int (nI kc), .int td, .ref m1, .ref m2, .ref m3, .ref m4]]) := hD
  refine lv_iconst (v := 0) hx hb dX3_no_5 (by decide) ?_
  subst hQ
  exact xM_i hx hb hr hlocks dX3_no_6 hP rfl hS (Nat.le_of_ble_eq_true rfl) (Nat.le_of_ble_eq_true rfl) (⟨rfl, rfl⟩)

theorem flX3_isNot_26 : Cond.fieldLink RX3 26 "RingSeesawModel" "thrown" "I" ∈ wsX3_isNot := by decide +kernel
theorem iwX3_isNot_3 : ∀ w ∈ wsX30, w ∈ wsX3_isNot := by decide +kernel
set_option maxHeartbeats 4000000 in
set_option maxRecDepth 100000 in
theorem c_X3_isNot (γ : xG) (l : Launch) (m0 m1 m2 m3 m4 n kc : Nat) (th td : Int32) (x : Int32) : xM γ l yX3_isNot wsX3_isNot ({ frames := 0, cells := 0, slots := 0, locals := 0 } : Room) [.ref m0, .int x] ([xO m0 3 [.int th, .int (nI n), .int (nI kc), .int td, .ref m1, .ref m2, .ref m3, .ref m4]]) (fun r9 w9 => r9 = some (.int 0) ∧ w9 = [xO m0 3 [.int x, .int (nI n), .int (nI kc), .int td, .ref m1, .ref m2, .ref m3, .ref m4]]) 0 0 := by
  refine xM.of (cc := cX3_isNot) (maxL := 2) (ret := (some .boolean)) (by decide +kernel) rfl (Nat.le_of_ble_eq_true rfl) ?_
  intro p e s m below meth c hx hb hr hml hts hown hlocks hin hP hK A hA hD ls hl
  have hS : va_S A s.heap s.heap [] := va_S.rf
  generalize hargs : ([.ref m0, .int x] : List Value).toArray = args at hts ⊢
  obtain ⟨Q, hQ⟩ : ∃ Q9, Q9 = MQ below (xMQ γ (List.map Prod.fst ([xO m0 3 [.int th, .int (nI n), .int (nI kc), .int td, .ref m1, .ref m2, .ref m3, .ref m4]])) A (fun r9 w9 => r9 = some (.int 0) ∧ w9 = [xO m0 3 [.int x, .int (nI n), .int (nI kc), .int td, .ref m1, .ref m2, .ref m3, .ref m4]])) args s 0 0 A := ⟨_, rfl⟩
  rw [← hQ]
  have hown : s.vm.findClass RX3 = some m.cls := hown
  have hl : lv_has ls 2 [(0, .ref m0), (1, .int x)] := hl
  refine lv_aload_n hx hb dX3_isNot_0 rfl (lv_at hl 0 rfl) ?_
  refine lv_iload_n hx hb dX3_isNot_1 rfl (lv_at hl 1 rfl) ?_
  refine va_put (D := γ.1) (ci := 3) (v := .int x) (ty := .int) (C := RX3) (T := TX3) (N := 8) hx hb hts iwX3_isNot_3 tyX3 tyX3_ok nmX3 hown hK hP hD hS 0 rfl rfl 0 (by decide) (hts _ flX3_isNot_26) (fun _ h9 => h9) rfl (by decide +kernel) rfl rfl (Nat.le_of_ble_eq_true rfl) dX3_isNot_2 (fun H locs hP hD hS => ?_)
  have hP : xP γ ([xO m0 3 [.int x, .int (nI n), .int (nI kc), .int td, .ref m1, .ref m2, .ref m3, .ref m4]]) H := hP
  have hD : va_D A ([xO m0 3 [.int x, .int (nI n), .int (nI kc), .int td, .ref m1, .ref m2, .ref m3, .ref m4]]) := hD
  refine lv_iconst (v := 0) hx hb dX3_isNot_5 (by decide) ?_
  subst hQ
  exact xM_z hx hb hr hlocks dX3_isNot_6 (Or.inl rfl) hP rfl hS (Nat.le_of_ble_eq_true rfl) (Nat.le_of_ble_eq_true rfl) (⟨rfl, rfl⟩)

theorem flX3_ok_26 : Cond.fieldLink RX3 26 "RingSeesawModel" "thrown" "I" ∈ wsX3_ok := by decide +kernel
theorem iwX3_ok_3 : ∀ w ∈ wsX30, w ∈ wsX3_ok := by decide +kernel
set_option maxHeartbeats 4000000 in
set_option maxRecDepth 100000 in
theorem c_X3_ok (γ : xG) (l : Launch) (m0 m1 m2 m3 m4 n kc : Nat) (th td : Int32) (x : Int32) : xM γ l yX3_ok wsX3_ok ({ frames := 0, cells := 0, slots := 0, locals := 0 } : Room) [.ref m0, .int x] ([xO m0 3 [.int th, .int (nI n), .int (nI kc), .int td, .ref m1, .ref m2, .ref m3, .ref m4]]) (fun r9 w9 => r9 = some (.int x) ∧ w9 = [xO m0 3 [.int 0, .int (nI n), .int (nI kc), .int td, .ref m1, .ref m2, .ref m3, .ref m4]]) 0 0 := by
  refine xM.of (cc := cX3_ok) (maxL := 2) (ret := (some .int)) (by decide +kernel) rfl (Nat.le_of_ble_eq_true rfl) ?_
  intro p e s m below meth c hx hb hr hml hts hown hlocks hin hP hK A hA hD ls hl
  have hS : va_S A s.heap s.heap [] := va_S.rf
  generalize hargs : ([.ref m0, .int x] : List Value).toArray = args at hts ⊢
  obtain ⟨Q, hQ⟩ : ∃ Q9, Q9 = MQ below (xMQ γ (List.map Prod.fst ([xO m0 3 [.int th, .int (nI n), .int (nI kc), .int td, .ref m1, .ref m2, .ref m3, .ref m4]])) A (fun r9 w9 => r9 = some (.int x) ∧ w9 = [xO m0 3 [.int 0, .int (nI n), .int (nI kc), .int td, .ref m1, .ref m2, .ref m3, .ref m4]])) args s 0 0 A := ⟨_, rfl⟩
  rw [← hQ]
  have hown : s.vm.findClass RX3 = some m.cls := hown
  have hl : lv_has ls 2 [(0, .ref m0), (1, .int x)] := hl
  refine lv_aload_n hx hb dX3_ok_0 rfl (lv_at hl 0 rfl) ?_
  refine lv_iconst (v := 0) hx hb dX3_ok_1 (by decide) ?_
  refine va_put (D := γ.1) (ci := 3) (v := .int 0) (ty := .int) (C := RX3) (T := TX3) (N := 8) hx hb hts iwX3_ok_3 tyX3 tyX3_ok nmX3 hown hK hP hD hS 0 rfl rfl 0 (by decide) (hts _ flX3_ok_26) (fun _ h9 => h9) rfl (by decide +kernel) rfl rfl (Nat.le_of_ble_eq_true rfl) dX3_ok_2 (fun H locs hP hD hS => ?_)
  have hP : xP γ ([xO m0 3 [.int 0, .int (nI n), .int (nI kc), .int td, .ref m1, .ref m2, .ref m3, .ref m4]]) H := hP
  have hD : va_D A ([xO m0 3 [.int 0, .int (nI n), .int (nI kc), .int td, .ref m1, .ref m2, .ref m3, .ref m4]]) := hD
  refine lv_iload_n hx hb dX3_ok_5 rfl (lv_at hl 1 rfl) ?_
  subst hQ
  exact xM_i hx hb hr hlocks dX3_ok_6 hP rfl hS (Nat.le_of_ble_eq_true rfl) (Nat.le_of_ble_eq_true rfl) (⟨rfl, rfl⟩)

set_option maxHeartbeats 4000000 in
set_option maxRecDepth 100000 in
theorem c_X3_isIn (γ : xG) (l : Launch) (x a b : Int32) : xR γ l yX3_isIn wsX3_isIn ({ frames := 0, cells := 0, slots := 0, locals := 0 } : Room) [.int x, .int a, .int b] ([]) (some (.int (if xInB x a b = true then 1 else 0))) := by
  refine xR.of (cc := cX3_isIn) (maxL := 3) (ret := (some .boolean)) (by decide +kernel) rfl (Nat.le_of_ble_eq_true rfl) ?_
  intro p e s m below meth c hx hb hr hml hts hown hlocks hP hK ls hl
  generalize hargs : ([.int x, .int a, .int b] : List Value).toArray = args at hts ⊢
  obtain ⟨Q, hQ⟩ : ∃ Q9, Q9 = MQ below (xRQ (some (.int (if xInB x a b = true then 1 else 0)))) args s 0 0 (fun _ => False) := ⟨_, rfl⟩
  rw [← hQ]
  have hown : s.vm.findClass RX3 = some m.cls := hown
  have hl : lv_has ls 3 [(0, .int x), (1, .int a), (2, .int b)] := hl
  refine lv_iload_n hx hb dX3_isIn_0 rfl (lv_at hl 0 rfl) ?_
  refine lv_iload_n hx hb dX3_isIn_1 rfl (lv_at hl 1 rfl) ?_
  refine lv_icmp_lt (tgt := 14) hx hb dX3_isIn_2 (by decide) (fun c2 => ?_) (fun c2 => ?_)
  · refine lv_iconst (v := 0) hx hb dX3_isIn_14 (by decide) ?_
    subst hQ
    exact xR_z hx hb hr hlocks dX3_isIn_15 (Or.inl rfl) (xB_0 (xInB_0 c2))
  · refine lv_iload_n hx hb dX3_isIn_5 rfl (lv_at hl 0 rfl) ?_
    refine lv_iload_n hx hb dX3_isIn_6 rfl (lv_at hl 2 rfl) ?_
    refine lv_icmp_gt (tgt := 14) hx hb dX3_isIn_7 (by decide) (fun c7 => ?_) (fun c7 => ?_)
    · refine lv_iconst (v := 0) hx hb dX3_isIn_14 (by decide) ?_
      subst hQ
      exact xR_z hx hb hr hlocks dX3_isIn_15 (Or.inl rfl) (xB_0 (xInB_1 c7))
    · refine lv_iconst (v := 1) hx hb dX3_isIn_10 (by decide) ?_
      refine lv_goto (tgt := 15) hx hb dX3_isIn_11 (by decide) ?_
      subst hQ
      exact xR_z hx hb hr hlocks dX3_isIn_15 (Or.inr rfl) (xB_1 (xInB_2 c2 c7))

theorem hds_X3_isIn : yX3_isIn.cls ≠ "java/lang/invoke/MethodHandle" ∧ yX3_isIn.cls ≠ "java/lang/invoke/VarHandle" ∧ (parseMethodDescriptor yX3_isIn.desc).map (fun d => d.parameters.length) = some 3 := by decide +kernel
theorem flX3_isPlace_7 : Cond.fieldLink RX3 7 "RingSeesawModel" "n" "I" ∈ wsX3_isPlace := by decide +kernel
theorem iwX3_isPlace_3 : ∀ w ∈ wsX30, w ∈ wsX3_isPlace := by decide +kernel
set_option maxHeartbeats 4000000 in
set_option maxRecDepth 100000 in
theorem c_X3_isPlace (γ : xG) (l : Launch) (m0 m1 m2 m3 m4 n kc : Nat) (th td : Int32) (x : Int32) : xR γ l yX3_isPlace wsX3_isPlace ({ frames := 1, cells := 0, slots := 0, locals := 22 } : Room) [.ref m0, .int x] ([xO m0 3 [.int th, .int (nI n), .int (nI kc), .int td, .ref m1, .ref m2, .ref m3, .ref m4]]) (some (.int (if xInB x 0 (nI n - 1) = true then 1 else 0))) := by
  refine xR.of (cc := cX3_isPlace) (maxL := 2) (ret := (some .boolean)) (by decide +kernel) rfl (Nat.le_of_ble_eq_true rfl) ?_
  intro p e s m below meth c hx hb hr hml hts hown hlocks hP hK ls hl
  generalize hargs : ([.ref m0, .int x] : List Value).toArray = args at hts ⊢
  obtain ⟨Q, hQ⟩ : ∃ Q9, Q9 = MQ below (xRQ (some (.int (if xInB x 0 (nI n - 1) = true then 1 else 0)))) args s 0 0 (fun _ => False) := ⟨_, rfl⟩
  rw [← hQ]
  have hown : s.vm.findClass RX3 = some m.cls := hown
  have hl : lv_has ls 2 [(0, .ref m0), (1, .int x)] := hl
  refine lv_iload_n hx hb dX3_isPlace_0 rfl (lv_at hl 1 rfl) ?_
  refine lv_iconst (v := 0) hx hb dX3_isPlace_1 (by decide) ?_
  refine lv_aload_n hx hb dX3_isPlace_2 rfl (lv_at hl 0 rfl) ?_
  refine va_get (D := γ.1) (ci := 3) (v := .int (nI n)) (C := RX3) (T := TX3) (N := 8) hx hb hts iwX3_isPlace_3 hown hK hP 0 rfl rfl 1 (by decide) (hts _ flX3_isPlace_7) (fun _ h9 => h9) rfl dX3_isPlace_3 ?_
  refine lv_iconst (v := 1) hx hb dX3_isPlace_6 (by decide) ?_
  refine lv_isub hx hb dX3_isPlace_7 ?_
  refine xSR (As := [.int x, .int 0, .int ((nI n) - 1)]) (rest := []) (stk := [.int (if xInB x 0 ((nI n) - 1) = true then 1 else 0)]) ⟨hx, hb, hml, hown, hts⟩ (c_X3_isIn γ l x 0 ((nI n) - 1)) (va_cwS 3 hts gX3_isPlace_X3_isIn rfl rfl rfl hds_X3_isIn ⟨(Nat.le_of_ble_eq_true rfl), (Nat.le_of_ble_eq_true rfl)⟩) hK hP [] rfl rfl hl.1 rfl (Nat.le_of_ble_eq_true rfl) dX3_isPlace_8 ⟨(Nat.le_of_ble_eq_true rfl), (Nat.le_of_ble_eq_true rfl)⟩ rfl ?_
  subst hQ
  exact xR_z hx hb hr hlocks dX3_isPlace_11 (xB_z _) (rfl)

theorem flX3_isTarget_33 : Cond.fieldLink RX3 33 "RingSeesawModel" "targets" "I" ∈ wsX3_isTarget := by decide +kernel
theorem iwX3_isTarget_3 : ∀ w ∈ wsX30, w ∈ wsX3_isTarget := by decide +kernel
set_option maxHeartbeats 4000000 in
set_option maxRecDepth 100000 in
theorem c_X3_isTarget (γ : xG) (l : Launch) (m0 m1 m2 m3 m4 n kc : Nat) (th td : Int32) (x : Int32) : xR γ l yX3_isTarget wsX3_isTarget ({ frames := 1, cells := 0, slots := 0, locals := 22 } : Room) [.ref m0, .int x] ([xO m0 3 [.int th, .int (nI n), .int (nI kc), .int td, .ref m1, .ref m2, .ref m3, .ref m4]]) (some (.int (if xInB x 0 (nI kc - 1) = true then 1 else 0))) := by
  refine xR.of (cc := cX3_isTarget) (maxL := 2) (ret := (some .boolean)) (by decide +kernel) rfl (Nat.le_of_ble_eq_true rfl) ?_
  intro p e s m below meth c hx hb hr hml hts hown hlocks hP hK ls hl
  generalize hargs : ([.ref m0, .int x] : List Value).toArray = args at hts ⊢
  obtain ⟨Q, hQ⟩ : ∃ Q9, Q9 = MQ below (xRQ (some (.int (if xInB x 0 (nI kc - 1) = true then 1 else 0)))) args s 0 0 (fun _ => False) := ⟨_, rfl⟩
  rw [← hQ]
  have hown : s.vm.findClass RX3 = some m.cls := hown
  have hl : lv_has ls 2 [(0, .ref m0), (1, .int x)] := hl
  refine lv_iload_n hx hb dX3_isTarget_0 rfl (lv_at hl 1 rfl) ?_
  refine lv_iconst (v := 0) hx hb dX3_isTarget_1 (by decide) ?_
  refine lv_aload_n hx hb dX3_isTarget_2 rfl (lv_at hl 0 rfl) ?_
  refine va_get (D := γ.1) (ci := 3) (v := .int (nI kc)) (C := RX3) (T := TX3) (N := 8) hx hb hts iwX3_isTarget_3 hown hK hP 0 rfl rfl 2 (by decide) (hts _ flX3_isTarget_33) (fun _ h9 => h9) rfl dX3_isTarget_3 ?_
  refine lv_iconst (v := 1) hx hb dX3_isTarget_6 (by decide) ?_
  refine lv_isub hx hb dX3_isTarget_7 ?_
  refine xSR (As := [.int x, .int 0, .int ((nI kc) - 1)]) (rest := []) (stk := [.int (if xInB x 0 ((nI kc) - 1) = true then 1 else 0)]) ⟨hx, hb, hml, hown, hts⟩ (c_X3_isIn γ l x 0 ((nI kc) - 1)) (va_cwS 3 hts gX3_isTarget_X3_isIn rfl rfl rfl hds_X3_isIn ⟨(Nat.le_of_ble_eq_true rfl), (Nat.le_of_ble_eq_true rfl)⟩) hK hP [] rfl rfl hl.1 rfl (Nat.le_of_ble_eq_true rfl) dX3_isTarget_8 ⟨(Nat.le_of_ble_eq_true rfl), (Nat.le_of_ble_eq_true rfl)⟩ rfl ?_
  subst hQ
  exact xR_z hx hb hr hlocks dX3_isTarget_11 (xB_z _) (rfl)

theorem flX3_on_7 : Cond.fieldLink RX3 7 "RingSeesawModel" "n" "I" ∈ wsX3_on := by decide +kernel
theorem iwX3_on_3 : ∀ w ∈ wsX30, w ∈ wsX3_on := by decide +kernel
set_option maxHeartbeats 4000000 in
set_option maxRecDepth 100000 in
theorem c_X3_on (γ : xG) (l : Launch) (m0 m1 m2 m3 m4 n kc : Nat) (th td : Int32) (p9 : Nat) (y : Int32) (z : Int) (hz : (nI p9 + y).toInt = z) (hn0 : 3 ≤ n) (hn1 : n ≤ 12) (h1 : -(n : Int) ≤ z) (h2 : z < 2 * (n : Int)) : xR γ l yX3_on wsX3_on ({ frames := 0, cells := 0, slots := 0, locals := 0 } : Room) [.ref m0, .int (nI p9), .int y] ([xO m0 3 [.int th, .int (nI n), .int (nI kc), .int td, .ref m1, .ref m2, .ref m3, .ref m4]]) (some (.int (nI (xWr n z)))) := by
  refine xR.of (cc := cX3_on) (maxL := 3) (ret := (some .int)) (by decide +kernel) rfl (Nat.le_of_ble_eq_true rfl) ?_
  intro p e s m below meth c hx hb hr hml hts hown hlocks hP hK ls hl
  generalize hargs : ([.ref m0, .int (nI p9), .int y] : List Value).toArray = args at hts ⊢
  obtain ⟨Q, hQ⟩ : ∃ Q9, Q9 = MQ below (xRQ (some (.int (nI (xWr n z))))) args s 0 0 (fun _ => False) := ⟨_, rfl⟩
  rw [← hQ]
  have hown : s.vm.findClass RX3 = some m.cls := hown
  have hl : lv_has ls 3 [(0, .ref m0), (1, .int (nI p9)), (2, .int y)] := hl
  refine lv_iload_n hx hb dX3_on_0 rfl (lv_at hl 1 rfl) ?_
  refine lv_iload_n hx hb dX3_on_1 rfl (lv_at hl 2 rfl) ?_
  refine lv_iadd hx hb dX3_on_2 ?_
  refine lv_aload_n hx hb dX3_on_3 rfl (lv_at hl 0 rfl) ?_
  refine va_get (D := γ.1) (ci := 3) (v := .int (nI n)) (C := RX3) (T := TX3) (N := 8) hx hb hts iwX3_on_3 hown hK hP 0 rfl rfl 1 (by decide) (hts _ flX3_on_7) (fun _ h9 => h9) rfl dX3_on_4 ?_
  refine lv_iadd hx hb dX3_on_7 ?_
  refine lv_aload_n hx hb dX3_on_8 rfl (lv_at hl 0 rfl) ?_
  refine va_get (D := γ.1) (ci := 3) (v := .int (nI n)) (C := RX3) (T := TX3) (N := 8) hx hb hts iwX3_on_3 hown hK hP 0 rfl rfl 1 (by decide) (hts _ flX3_on_7) (fun _ h9 => h9) rfl dX3_on_9 ?_
  refine lv_irem hx hb dX3_on_12 (nI_ne0 (by omega) (by omega)) ?_
  subst hQ
  exact xR_i hx hb hr hlocks dX3_on_13 (xOn hz hn0 hn1 h1 h2)

theorem hdv_X3_on : yX3_on.cls = RX3 ∧ yX3_on.cls ≠ "java/lang/invoke/MethodHandle" ∧ yX3_on.cls ≠ "java/lang/invoke/VarHandle" ∧ (parseMethodDescriptor yX3_on.desc).map (fun d => d.parameters.length) = some 2 := by decide +kernel
set_option maxHeartbeats 4000000 in
set_option maxRecDepth 100000 in
theorem c_X3_lean (γ : xG) (l : Launch) (m0 m1 m2 m3 m4 n kc : Nat) (th td : Int32) (ra : Nat) (f : xRow) (p9 : Nat) (t : Int32) (hn0 : 3 ≤ n) (hn1 : n ≤ 12) (hp : p9 < n) : xM γ l yX3_lean wsX3_lean ({ frames := 1, cells := 0, slots := 0, locals := 22 } : Room) [.ref m0, .ref ra, .int (nI p9), .int t] ([xO m0 3 [.int th, .int (nI n), .int (nI kc), .int td, .ref m1, .ref m2, .ref m3, .ref m4], xA γ ra 12 f]) (fun r9 w9 => r9 = none ∧ w9 = [xO m0 3 [.int th, .int (nI n), .int (nI kc), .int td, .ref m1, .ref m2, .ref m3, .ref m4], xA γ ra 12 (xTip n f p9 t)]) 0 0 := by
  refine xM.of (cc := cX3_lean) (maxL := 4) (ret := none) (by decide +kernel) rfl (Nat.le_of_ble_eq_true rfl) ?_
  intro p e s m below meth c hx hb hr hml hts hown hlocks hin hP hK A hA hD ls hl
  have hS : va_S A s.heap s.heap [] := va_S.rf
  generalize hargs : ([.ref m0, .ref ra, .int (nI p9), .int t] : List Value).toArray = args at hts ⊢
  obtain ⟨Q, hQ⟩ : ∃ Q9, Q9 = MQ below (xMQ γ (List.map Prod.fst ([xO m0 3 [.int th, .int (nI n), .int (nI kc), .int td, .ref m1, .ref m2, .ref m3, .ref m4], xA γ ra 12 f])) A (fun r9 w9 => r9 = none ∧ w9 = [xO m0 3 [.int th, .int (nI n), .int (nI kc), .int td, .ref m1, .ref m2, .ref m3, .ref m4], xA γ ra 12 (xTip n f p9 t)])) args s 0 0 A := ⟨_, rfl⟩
  rw [← hQ]
  have hown : s.vm.findClass RX3 = some m.cls := hown
  have hl : lv_has ls 4 [(0, .ref m0), (1, .ref ra), (2, .int (nI p9)), (3, .int t)] := hl
  have hap9 : xWr n ((p9 : Int) + 1) < n := xWr_lt (by omega) (by omega) (by omega)
  have hbp9 : xWr n ((p9 : Int) - 1) < n := xWr_lt (by omega) (by omega) (by omega)
  refine lv_aload_n hx hb dX3_lean_0 rfl (lv_at hl 1 rfl) ?_
  refine lv_iload_n hx hb dX3_lean_1 rfl (lv_at hl 2 rfl) ?_
  refine lv_dup2_11 hx hb dX3_lean_2 rfl rfl ?_
  refine x_iald (f := f) hx hb hK hP 1 rfl p9 rfl (by omega) (by omega) dX3_lean_3 ?_
  refine lv_iconst (v := 2) hx hb dX3_lean_4 (by decide) ?_
  refine lv_iload_n hx hb dX3_lean_5 rfl (lv_at hl 3 rfl) ?_
  refine lv_imul hx hb dX3_lean_6 ?_
  refine lv_isub hx hb dX3_lean_7 ?_
  refine x_top (y := f p9 + (-2) * t) (xm2 _ _) ?_
  refine x_iast (f := f) hx hb hK hP hD hS 1 rfl p9 rfl (by omega) (by omega) dX3_lean_8 (fun H locs hP hD hS => ?_)
  have hP : xP γ ([xO m0 3 [.int th, .int (nI n), .int (nI kc), .int td, .ref m1, .ref m2, .ref m3, .ref m4], xA γ ra 12 (xAdd f p9 ((-2) * t))]) H := hP
  have hD : va_D A ([xO m0 3 [.int th, .int (nI n), .int (nI kc), .int td, .ref m1, .ref m2, .ref m3, .ref m4], xA γ ra 12 (xAdd f p9 ((-2) * t))]) := hD
  refine lv_aload_n hx hb dX3_lean_9 rfl (lv_at hl 1 rfl) ?_
  refine lv_aload_n hx hb dX3_lean_10 rfl (lv_at hl 0 rfl) ?_
  refine lv_iload_n hx hb dX3_lean_11 rfl (lv_at hl 2 rfl) ?_
  refine lv_iconst (v := 1) hx hb dX3_lean_12 (by decide) ?_
  refine xVR (q0 := 0) (ci := 3) (As := [.int (nI p9), .int 1]) (rest := [.ref ra]) (stk := [.int (nI (xWr n ((p9 : Int) + 1))), .ref ra]) ⟨hx, hb, hml, hown, hts⟩ (c_X3_on γ l m0 m1 m2 m3 m4 n kc th td p9 1 ((p9 : Int) + 1) (xaddI (nI_toInt (n := p9) (by omega)) (show (1 : Int32).toInt = 1 from rfl) (by omega) (by omega)) (by omega) (by omega) (by omega) (by omega)) (cwV 2 hts gX3_lean_X3_on rfl rfl rfl hdv_X3_on ⟨(Nat.le_of_ble_eq_true rfl), (Nat.le_of_ble_eq_true rfl)⟩) hK hP [0] rfl rfl rfl rfl hl.1 rfl (Nat.le_of_ble_eq_true rfl) dX3_lean_13 ⟨(Nat.le_of_ble_eq_true rfl), (Nat.le_of_ble_eq_true rfl)⟩ rfl ?_
  refine lv_dup2_11 hx hb dX3_lean_16 rfl rfl ?_
  refine x_iald (f := xAdd f p9 ((-2) * t)) hx hb hK hP 1 rfl (xWr n ((p9 : Int) + 1)) rfl (by omega) (by omega) dX3_lean_17 ?_
  refine lv_iload_n hx hb dX3_lean_18 rfl (lv_at hl 3 rfl) ?_
  refine lv_iadd hx hb dX3_lean_19 ?_
  refine x_iast (f := xAdd f p9 ((-2) * t)) hx hb hK hP hD hS 1 rfl (xWr n ((p9 : Int) + 1)) rfl (by omega) (by omega) dX3_lean_20 (fun H locs hP hD hS => ?_)
  have hP : xP γ ([xO m0 3 [.int th, .int (nI n), .int (nI kc), .int td, .ref m1, .ref m2, .ref m3, .ref m4], xA γ ra 12 (xAdd (xAdd f p9 ((-2) * t)) (xWr n ((p9 : Int) + 1)) t)]) H := hP
  have hD : va_D A ([xO m0 3 [.int th, .int (nI n), .int (nI kc), .int td, .ref m1, .ref m2, .ref m3, .ref m4], xA γ ra 12 (xAdd (xAdd f p9 ((-2) * t)) (xWr n ((p9 : Int) + 1)) t)]) := hD
  refine lv_aload_n hx hb dX3_lean_21 rfl (lv_at hl 1 rfl) ?_
  refine lv_aload_n hx hb dX3_lean_22 rfl (lv_at hl 0 rfl) ?_
  refine lv_iload_n hx hb dX3_lean_23 rfl (lv_at hl 2 rfl) ?_
  refine lv_iconst (v := (-1)) hx hb dX3_lean_24 (by decide) ?_
  refine xVR (q0 := 0) (ci := 3) (As := [.int (nI p9), .int (-1)]) (rest := [.ref ra]) (stk := [.int (nI (xWr n ((p9 : Int) - 1))), .ref ra]) ⟨hx, hb, hml, hown, hts⟩ (c_X3_on γ l m0 m1 m2 m3 m4 n kc th td p9 (-1) ((p9 : Int) - 1) ((xaddI (nI_toInt (n := p9) (by omega)) (show ((-1) : Int32).toInt = -1 by decide) (by omega) (by omega)).trans (Int.sub_eq_add_neg).symm) (by omega) (by omega) (by omega) (by omega)) (cwV 2 hts gX3_lean_X3_on rfl rfl rfl hdv_X3_on ⟨(Nat.le_of_ble_eq_true rfl), (Nat.le_of_ble_eq_true rfl)⟩) hK hP [0] rfl rfl rfl rfl hl.1 rfl (Nat.le_of_ble_eq_true rfl) dX3_lean_25 ⟨(Nat.le_of_ble_eq_true rfl), (Nat.le_of_ble_eq_true rfl)⟩ rfl ?_
  refine lv_dup2_11 hx hb dX3_lean_28 rfl rfl ?_
  refine x_iald (f := xAdd (xAdd f p9 ((-2) * t)) (xWr n ((p9 : Int) + 1)) t) hx hb hK hP 1 rfl (xWr n ((p9 : Int) - 1)) rfl (by omega) (by omega) dX3_lean_29 ?_
  refine lv_iload_n hx hb dX3_lean_30 rfl (lv_at hl 3 rfl) ?_
  refine lv_iadd hx hb dX3_lean_31 ?_
  refine x_iast (f := xAdd (xAdd f p9 ((-2) * t)) (xWr n ((p9 : Int) + 1)) t) hx hb hK hP hD hS 1 rfl (xWr n ((p9 : Int) - 1)) rfl (by omega) (by omega) dX3_lean_32 (fun H locs hP hD hS => ?_)
  have hP : xP γ ([xO m0 3 [.int th, .int (nI n), .int (nI kc), .int td, .ref m1, .ref m2, .ref m3, .ref m4], xA γ ra 12 (xTip n f p9 t)]) H := hP
  have hD : va_D A ([xO m0 3 [.int th, .int (nI n), .int (nI kc), .int td, .ref m1, .ref m2, .ref m3, .ref m4], xA γ ra 12 (xTip n f p9 t)]) := hD
  subst hQ
  exact xM_v hx hb hr hlocks dX3_lean_33 hP rfl hS (Nat.le_of_ble_eq_true rfl) (Nat.le_of_ble_eq_true rfl) (⟨rfl, rfl⟩)

theorem flX3_wide_7 : Cond.fieldLink RX3 7 "RingSeesawModel" "n" "I" ∈ wsX3_wide := by decide +kernel
theorem iwX3_wide_3 : ∀ w ∈ wsX30, w ∈ wsX3_wide := by decide +kernel
theorem wdX3_wide_m46a : Cond.methodLink RX3 46 Lib.Math.min.name ∈ wsX3_wide := by decide +kernel
theorem wdX3_wide_m46b : Cond.static Lib.Math.min.name ∈ wsX3_wide := by decide +kernel
theorem wdX3_wide_m46c : Cond.initialized "java/lang/Math" ∈ wsX3_wide := by decide +kernel
theorem wdX3_wide_m46d : Cond.code Lib.Math.min.name Lib.Math.min.code 2 (some .int) ∈ wsX3_wide := by decide +kernel
theorem wdX3_wide_m51a : Cond.methodLink RX3 51 Lib.Math.max.name ∈ wsX3_wide := by decide +kernel
theorem wdX3_wide_m51b : Cond.static Lib.Math.max.name ∈ wsX3_wide := by decide +kernel
theorem wdX3_wide_m51c : Cond.initialized "java/lang/Math" ∈ wsX3_wide := by decide +kernel
theorem wdX3_wide_m51d : Cond.code Lib.Math.max.name Lib.Math.max.code 2 (some .int) ∈ wsX3_wide := by decide +kernel
set_option maxHeartbeats 4000000 in
set_option maxRecDepth 100000 in
theorem c_X3_wide (γ : xG) (l : Launch) (m0 m1 m2 m3 m4 n kc : Nat) (th td : Int32) (ra : Nat) (f : xRow) (hn0 : 3 ≤ n) (hn1 : n ≤ 12) : xR γ l yX3_wide wsX3_wide ({ frames := 1, cells := 0, slots := 0, locals := 15 } : Room) [.ref m0, .ref ra] ([xO m0 3 [.int th, .int (nI n), .int (nI kc), .int td, .ref m1, .ref m2, .ref m3, .ref m4], xA γ ra 12 f]) (some (.int (xSpn n f))) := by
  refine xR.of (cc := cX3_wide) (maxL := 5) (ret := (some .int)) (by decide +kernel) rfl (Nat.le_of_ble_eq_true rfl) ?_
  intro p e s m below meth c hx hb hr hml hts hown hlocks hP hK ls hl
  generalize hargs : ([.ref m0, .ref ra] : List Value).toArray = args at hts ⊢
  obtain ⟨Q, hQ⟩ : ∃ Q9, Q9 = MQ below (xRQ (some (.int (xSpn n f)))) args s 0 0 (fun _ => False) := ⟨_, rfl⟩
  rw [← hQ]
  have hown : s.vm.findClass RX3 = some m.cls := hown
  have hl : lv_has ls 5 [(0, .ref m0), (1, .ref ra)] := hl
  refine lv_aload_n hx hb dX3_wide_0 rfl (lv_at hl 1 rfl) ?_
  refine lv_iconst (v := 0) hx hb dX3_wide_1 (by decide) ?_
  refine x_iald (f := f) hx hb hK hP 1 rfl 0 rfl (by omega) (by omega) dX3_wide_2 ?_
  refine lv_istore_n (lv' := [(2, .int (f 0)), (0, .ref m0), (1, .ref ra)]) hx hb dX3_wide_3 rfl hl (by decide) rfl (fun ls hl => ?_)
  refine lv_aload_n hx hb dX3_wide_4 rfl (lv_at hl 2 rfl) ?_
  refine lv_iconst (v := 0) hx hb dX3_wide_5 (by decide) ?_
  refine x_iald (f := f) hx hb hK hP 1 rfl 0 rfl (by omega) (by omega) dX3_wide_6 ?_
  refine lv_istore_n (lv' := [(3, .int (f 0)), (2, .int (f 0)), (0, .ref m0), (1, .ref ra)]) hx hb dX3_wide_7 rfl hl (by decide) rfl (fun ls hl => ?_)
  refine lv_iconst (v := 1) hx hb dX3_wide_8 (by decide) ?_
  refine lv_istore (lv' := [(4, .int 1), (3, .int (f 0)), (2, .int (f 0)), (0, .ref m0), (1, .ref ra)]) hx hb dX3_wide_9 hl (by decide) rfl (fun ls hl => ?_)
  have loop11 : ∀ j : Nat, ∀ (k : Nat), k + 1 + j = n → ∀ ls : Array Slot, lv_has ls 5 [(0, .ref m0), (1, .ref ra), (2, .int (xLo f k)), (3, .int (xHi f k)), (4, .int (nI (k + 1)))] → W p l e ({ frames := 1, cells := 0, slots := 0, locals := 15 } : Room) s m args below meth c s.heap [] 0 0 Q (F0 m 11 ls []) := by
    intro j
    induction j with
    | zero =>
      intro k hj ls hl
      refine lv_iload hx hb dX3_wide_11 (lv_at hl 4 rfl) ?_
      refine lv_aload_n hx hb dX3_wide_13 rfl (lv_at hl 0 rfl) ?_
      refine va_get (D := γ.1) (ci := 3) (v := .int (nI n)) (C := RX3) (T := TX3) (N := 8) hx hb hts iwX3_wide_3 hown hK hP 0 rfl rfl 1 (by decide) (hts _ flX3_wide_7) (fun _ h9 => h9) rfl dX3_wide_14 ?_
      refine lv_icmp_ge (tgt := 44) hx hb dX3_wide_17 (by decide) (fun _ => ?_) (fun c => absurd (nI_le (a := n) (b := k + 1) (by omega) (by omega)) c)
      refine lv_iload_n hx hb dX3_wide_44 rfl (lv_at hl 3 rfl) ?_
      refine lv_iload_n hx hb dX3_wide_45 rfl (lv_at hl 2 rfl) ?_
      refine lv_isub hx hb dX3_wide_46 ?_
      subst hQ
      exact xR_i hx hb hr hlocks dX3_wide_47 (by rw [show k = n - 1 by omega, ← xTop_hi]; rfl)
    | succ j ih11 =>
      intro k hj ls hl
      refine lv_iload hx hb dX3_wide_11 (lv_at hl 4 rfl) ?_
      refine lv_aload_n hx hb dX3_wide_13 rfl (lv_at hl 0 rfl) ?_
      refine va_get (D := γ.1) (ci := 3) (v := .int (nI n)) (C := RX3) (T := TX3) (N := 8) hx hb hts iwX3_wide_3 hown hK hP 0 rfl rfl 1 (by decide) (hts _ flX3_wide_7) (fun _ h9 => h9) rfl dX3_wide_14 ?_
      refine lv_icmp_ge (tgt := 44) hx hb dX3_wide_17 (by decide) (fun c => absurd c (nI_ge (a := k + 1) (b := n) (by omega) (by omega))) (fun _ => ?_)
      refine lv_iload_n hx hb dX3_wide_20 rfl (lv_at hl 2 rfl) ?_
      refine lv_aload_n hx hb dX3_wide_21 rfl (lv_at hl 1 rfl) ?_
      refine lv_iload hx hb dX3_wide_22 (lv_at hl 4 rfl) ?_
      refine x_iald (f := f) hx hb hK hP 1 rfl (k + 1) rfl (by omega) (by omega) dX3_wide_24 ?_
      refine va_mmin hx hb (hml.trans hl.1.symm) hown (hts _ wdX3_wide_m46a) (hts _ wdX3_wide_m46b) (hts _ wdX3_wide_m46c) (hts _ wdX3_wide_m46d) (Nat.le_of_ble_eq_true rfl) (Nat.le_of_ble_eq_true rfl) (Nat.le_of_ble_eq_true rfl) (Nat.le_of_ble_eq_true rfl) dX3_wide_25 ?_
      refine lv_istore_n (lv' := [(2, .int (if (f (k + 1)) < (xLo f k) then (f (k + 1)) else (xLo f k))), (0, .ref m0), (1, .ref ra), (3, .int (xHi f k)), (4, .int (nI (k + 1)))]) hx hb dX3_wide_28 rfl hl (by decide) rfl (fun ls hl => ?_)
      refine lv_iload_n hx hb dX3_wide_29 rfl (lv_at hl 3 rfl) ?_
      refine lv_aload_n hx hb dX3_wide_30 rfl (lv_at hl 2 rfl) ?_
      refine lv_iload hx hb dX3_wide_31 (lv_at hl 4 rfl) ?_
      refine x_iald (f := f) hx hb hK hP 1 rfl (k + 1) rfl (by omega) (by omega) dX3_wide_33 ?_
      refine va_mmax hx hb (hml.trans hl.1.symm) hown (hts _ wdX3_wide_m51a) (hts _ wdX3_wide_m51b) (hts _ wdX3_wide_m51c) (hts _ wdX3_wide_m51d) (Nat.le_of_ble_eq_true rfl) (Nat.le_of_ble_eq_true rfl) (Nat.le_of_ble_eq_true rfl) (Nat.le_of_ble_eq_true rfl) dX3_wide_34 ?_
      refine lv_istore_n (lv' := [(3, .int (if (xHi f k) < (f (k + 1)) then (f (k + 1)) else (xHi f k))), (2, .int (if (f (k + 1)) < (xLo f k) then (f (k + 1)) else (xLo f k))), (0, .ref m0), (1, .ref ra), (4, .int (nI (k + 1)))]) hx hb dX3_wide_37 rfl hl (by decide) rfl (fun ls hl => ?_)
      refine lv_iinc (v := nI (k + 1 + 1)) (lv' := [(4, .int (nI (k + 1 + 1))), (3, .int (if (xHi f k) < (f (k + 1)) then (f (k + 1)) else (xHi f k))), (2, .int (if (f (k + 1)) < (xLo f k) then (f (k + 1)) else (xLo f k))), (0, .ref m0), (1, .ref ra)]) hx hb dX3_wide_38 hl (k := 4) rfl (nI_add (k + 1) 1) (by decide) rfl (fun ls hl => ?_)
      refine lv_goto (tgt := 11) hx hb dX3_wide_41 (by decide) ?_
      exact ih11 (k + 1) (by omega) ls (lv_sub hl [3, 4, 2, 1, 0] rfl)
  exact loop11 (n - 1) 0 (by omega) ls (lv_sub hl [3, 4, 2, 1, 0] rfl)

set_option maxHeartbeats 4000000 in
set_option maxRecDepth 100000 in
theorem c_X3_steep (γ : xG) (l : Launch) (m0 m1 m2 m3 m4 n kc : Nat) (th td : Int32) (ra : Nat) (f : xRow) (p9 : Nat) (hn0 : 3 ≤ n) (hn1 : n ≤ 12) (hp : p9 < n) : xR γ l yX3_steep wsX3_steep ({ frames := 1, cells := 0, slots := 0, locals := 22 } : Room) [.ref m0, .ref ra, .int (nI p9)] ([xO m0 3 [.int th, .int (nI n), .int (nI kc), .int td, .ref m1, .ref m2, .ref m3, .ref m4], xA γ ra 12 f]) (some (.int (if xSt n f p9 = true then 1 else 0))) := by
  refine xR.of (cc := cX3_steep) (maxL := 3) (ret := (some .boolean)) (by decide +kernel) rfl (Nat.le_of_ble_eq_true rfl) ?_
  intro p e s m below meth c hx hb hr hml hts hown hlocks hP hK ls hl
  generalize hargs : ([.ref m0, .ref ra, .int (nI p9)] : List Value).toArray = args at hts ⊢
  obtain ⟨Q, hQ⟩ : ∃ Q9, Q9 = MQ below (xRQ (some (.int (if xSt n f p9 = true then 1 else 0)))) args s 0 0 (fun _ => False) := ⟨_, rfl⟩
  rw [← hQ]
  have hown : s.vm.findClass RX3 = some m.cls := hown
  have hl : lv_has ls 3 [(0, .ref m0), (1, .ref ra), (2, .int (nI p9))] := hl
  have hap9 : xWr n ((p9 : Int) + 1) < n := xWr_lt (by omega) (by omega) (by omega)
  have hbp9 : xWr n ((p9 : Int) - 1) < n := xWr_lt (by omega) (by omega) (by omega)
  refine lv_iconst (v := 2) hx hb dX3_steep_0 (by decide) ?_
  refine lv_aload_n hx hb dX3_steep_1 rfl (lv_at hl 1 rfl) ?_
  refine lv_iload_n hx hb dX3_steep_2 rfl (lv_at hl 2 rfl) ?_
  refine x_iald (f := f) hx hb hK hP 1 rfl p9 rfl (by omega) (by omega) dX3_steep_3 ?_
  refine lv_imul hx hb dX3_steep_4 ?_
  refine lv_aload_n hx hb dX3_steep_5 rfl (lv_at hl 1 rfl) ?_
  refine lv_aload_n hx hb dX3_steep_6 rfl (lv_at hl 0 rfl) ?_
  refine lv_iload_n hx hb dX3_steep_7 rfl (lv_at hl 2 rfl) ?_
  refine lv_iconst (v := 1) hx hb dX3_steep_8 (by decide) ?_
  refine xVR (q0 := 0) (ci := 3) (As := [.int (nI p9), .int 1]) (rest := [.ref ra, .int (2 * (f p9))]) (stk := [.int (nI (xWr n ((p9 : Int) + 1))), .ref ra, .int (2 * (f p9))]) ⟨hx, hb, hml, hown, hts⟩ (c_X3_on γ l m0 m1 m2 m3 m4 n kc th td p9 1 ((p9 : Int) + 1) (xaddI (nI_toInt (n := p9) (by omega)) (show (1 : Int32).toInt = 1 from rfl) (by omega) (by omega)) (by omega) (by omega) (by omega) (by omega)) (cwV 2 hts gX3_steep_X3_on rfl rfl rfl hdv_X3_on ⟨(Nat.le_of_ble_eq_true rfl), (Nat.le_of_ble_eq_true rfl)⟩) hK hP [0] rfl rfl rfl rfl hl.1 rfl (Nat.le_of_ble_eq_true rfl) dX3_steep_9 ⟨(Nat.le_of_ble_eq_true rfl), (Nat.le_of_ble_eq_true rfl)⟩ rfl ?_
  refine x_iald (f := f) hx hb hK hP 1 rfl (xWr n ((p9 : Int) + 1)) rfl (by omega) (by omega) dX3_steep_12 ?_
  refine lv_isub hx hb dX3_steep_13 ?_
  refine lv_aload_n hx hb dX3_steep_14 rfl (lv_at hl 1 rfl) ?_
  refine lv_aload_n hx hb dX3_steep_15 rfl (lv_at hl 0 rfl) ?_
  refine lv_iload_n hx hb dX3_steep_16 rfl (lv_at hl 2 rfl) ?_
  refine lv_iconst (v := (-1)) hx hb dX3_steep_17 (by decide) ?_
  refine xVR (q0 := 0) (ci := 3) (As := [.int (nI p9), .int (-1)]) (rest := [.ref ra, .int ((2 * (f p9)) - (f (xWr n ((p9 : Int) + 1))))]) (stk := [.int (nI (xWr n ((p9 : Int) - 1))), .ref ra, .int ((2 * (f p9)) - (f (xWr n ((p9 : Int) + 1))))]) ⟨hx, hb, hml, hown, hts⟩ (c_X3_on γ l m0 m1 m2 m3 m4 n kc th td p9 (-1) ((p9 : Int) - 1) ((xaddI (nI_toInt (n := p9) (by omega)) (show ((-1) : Int32).toInt = -1 by decide) (by omega) (by omega)).trans (Int.sub_eq_add_neg).symm) (by omega) (by omega) (by omega) (by omega)) (cwV 2 hts gX3_steep_X3_on rfl rfl rfl hdv_X3_on ⟨(Nat.le_of_ble_eq_true rfl), (Nat.le_of_ble_eq_true rfl)⟩) hK hP [0] rfl rfl rfl rfl hl.1 rfl (Nat.le_of_ble_eq_true rfl) dX3_steep_18 ⟨(Nat.le_of_ble_eq_true rfl), (Nat.le_of_ble_eq_true rfl)⟩ rfl ?_
  refine x_iald (f := f) hx hb hK hP 1 rfl (xWr n ((p9 : Int) - 1)) rfl (by omega) (by omega) dX3_steep_21 ?_
  refine lv_isub hx hb dX3_steep_22 ?_
  refine lv_iconst (v := 3) hx hb dX3_steep_23 (by decide) ?_
  refine lv_icmp_le (tgt := 31) hx hb dX3_steep_24 (by decide) (fun c24 => ?_) (fun c24 => ?_)
  · refine lv_iconst (v := 0) hx hb dX3_steep_31 (by decide) ?_
    subst hQ
    exact xR_z hx hb hr hlocks dX3_steep_32 (Or.inl rfl) (xB_0 (xSt_f c24))
  · refine lv_iconst (v := 1) hx hb dX3_steep_27 (by decide) ?_
    refine lv_goto (tgt := 32) hx hb dX3_steep_28 (by decide) ?_
    subst hQ
    exact xR_z hx hb hr hlocks dX3_steep_32 (Or.inr rfl) (xB_1 (xSt_t c24))

theorem hdv_X3_steep : yX3_steep.cls = RX3 ∧ yX3_steep.cls ≠ "java/lang/invoke/MethodHandle" ∧ yX3_steep.cls ≠ "java/lang/invoke/VarHandle" ∧ (parseMethodDescriptor yX3_steep.desc).map (fun d => d.parameters.length) = some 2 := by decide +kernel
theorem flX3_firstSteep_7 : Cond.fieldLink RX3 7 "RingSeesawModel" "n" "I" ∈ wsX3_firstSteep := by decide +kernel
theorem iwX3_firstSteep_3 : ∀ w ∈ wsX30, w ∈ wsX3_firstSteep := by decide +kernel
set_option maxHeartbeats 4000000 in
set_option maxRecDepth 100000 in
theorem c_X3_firstSteep (γ : xG) (l : Launch) (m0 m1 m2 m3 m4 n kc : Nat) (th td : Int32) (ra : Nat) (f : xRow) (hn0 : 3 ≤ n) (hn1 : n ≤ 12) : xR γ l yX3_firstSteep wsX3_firstSteep ({ frames := 2, cells := 0, slots := 0, locals := 44 } : Room) [.ref m0, .ref ra] ([xO m0 3 [.int th, .int (nI n), .int (nI kc), .int td, .ref m1, .ref m2, .ref m3, .ref m4], xA γ ra 12 f]) (some (.int (xFi (xSt n f) n))) := by
  refine xR.of (cc := cX3_firstSteep) (maxL := 3) (ret := (some .int)) (by decide +kernel) rfl (Nat.le_of_ble_eq_true rfl) ?_
  intro p e s m below meth c hx hb hr hml hts hown hlocks hP hK ls hl
  generalize hargs : ([.ref m0, .ref ra] : List Value).toArray = args at hts ⊢
  obtain ⟨Q, hQ⟩ : ∃ Q9, Q9 = MQ below (xRQ (some (.int (xFi (xSt n f) n)))) args s 0 0 (fun _ => False) := ⟨_, rfl⟩
  rw [← hQ]
  have hown : s.vm.findClass RX3 = some m.cls := hown
  have hl : lv_has ls 3 [(0, .ref m0), (1, .ref ra)] := hl
  refine lv_iconst (v := 0) hx hb dX3_firstSteep_0 (by decide) ?_
  refine lv_istore_n (lv' := [(2, .int 0), (0, .ref m0), (1, .ref ra)]) hx hb dX3_firstSteep_1 rfl hl (by decide) rfl (fun ls hl => ?_)
  have loop2 : ∀ j : Nat, ∀ (k : Nat), k + j = n → (∀ i, i < k → xSt n f i = false) → ∀ ls : Array Slot, lv_has ls 3 [(0, .ref m0), (1, .ref ra), (2, .int (nI k))] → W p l e ({ frames := 2, cells := 0, slots := 0, locals := 44 } : Room) s m args below meth c s.heap [] 0 0 Q (F0 m 2 ls []) := by
    intro j
    induction j with
    | zero =>
      intro k hj hno ls hl
      refine lv_iload_n hx hb dX3_firstSteep_2 rfl (lv_at hl 2 rfl) ?_
      refine lv_aload_n hx hb dX3_firstSteep_3 rfl (lv_at hl 0 rfl) ?_
      refine va_get (D := γ.1) (ci := 3) (v := .int (nI n)) (C := RX3) (T := TX3) (N := 8) hx hb hts iwX3_firstSteep_3 hown hK hP 0 rfl rfl 1 (by decide) (hts _ flX3_firstSteep_7) (fun _ h9 => h9) rfl dX3_firstSteep_4 ?_
      refine lv_icmp_ge (tgt := 27) hx hb dX3_firstSteep_7 (by decide) (fun _ => ?_) (fun c => absurd (nI_le (a := n) (b := k) (by omega) (by omega)) c)
      refine lv_iconst (v := (-1)) hx hb dX3_firstSteep_27 (by decide) ?_
      subst hQ
      exact xR_i hx hb hr hlocks dX3_firstSteep_28 ((xFi_none (fun i hi => hno i (by omega))).symm)
    | succ j ih2 =>
      intro k hj hno ls hl
      refine lv_iload_n hx hb dX3_firstSteep_2 rfl (lv_at hl 2 rfl) ?_
      refine lv_aload_n hx hb dX3_firstSteep_3 rfl (lv_at hl 0 rfl) ?_
      refine va_get (D := γ.1) (ci := 3) (v := .int (nI n)) (C := RX3) (T := TX3) (N := 8) hx hb hts iwX3_firstSteep_3 hown hK hP 0 rfl rfl 1 (by decide) (hts _ flX3_firstSteep_7) (fun _ h9 => h9) rfl dX3_firstSteep_4 ?_
      refine lv_icmp_ge (tgt := 27) hx hb dX3_firstSteep_7 (by decide) (fun c => absurd c (nI_ge (a := k) (b := n) (by omega) (by omega))) (fun _ => ?_)
      refine lv_aload_n hx hb dX3_firstSteep_10 rfl (lv_at hl 0 rfl) ?_
      refine lv_aload_n hx hb dX3_firstSteep_11 rfl (lv_at hl 1 rfl) ?_
      refine lv_iload_n hx hb dX3_firstSteep_12 rfl (lv_at hl 2 rfl) ?_
      refine xVR (q0 := 0) (ci := 3) (As := [.ref ra, .int (nI k)]) (rest := []) (stk := [.int (if xSt n f k = true then 1 else 0)]) ⟨hx, hb, hml, hown, hts⟩ (c_X3_steep γ l m0 m1 m2 m3 m4 n kc th td ra f k (by omega) (by omega) (by omega)) (cwV 2 hts gX3_firstSteep_X3_steep rfl rfl rfl hdv_X3_steep ⟨(Nat.le_of_ble_eq_true rfl), (Nat.le_of_ble_eq_true rfl)⟩) hK hP [0, 1] rfl rfl rfl rfl hl.1 rfl (Nat.le_of_ble_eq_true rfl) dX3_firstSteep_13 ⟨(Nat.le_of_ble_eq_true rfl), (Nat.le_of_ble_eq_true rfl)⟩ rfl ?_
      refine lv_if_eq (tgt := 21) hx hb dX3_firstSteep_16 (by decide) (fun c16 => ?_) (fun c16 => ?_)
      · refine lv_iinc (v := nI (k + 1)) (lv' := [(2, .int (nI (k + 1))), (0, .ref m0), (1, .ref ra)]) hx hb dX3_firstSteep_21 hl (k := 2) rfl (nI_add k 1) (by decide) rfl (fun ls hl => ?_)
        refine lv_goto (tgt := 2) hx hb dX3_firstSteep_24 (by decide) ?_
        exact ih2 (k + 1) (by omega) (fun i hi => by rcases (show i < k ∨ i = k by omega) with h | h; exact hno i h; (rw [h]; exact xB_f c16)) ls (lv_sub hl [1, 2, 0] rfl)
      · refine lv_iload_n hx hb dX3_firstSteep_19 rfl (lv_at hl 2 rfl) ?_
        subst hQ
        exact xR_i hx hb hr hlocks dX3_firstSteep_20 ((xFi_some (xB_t c16) hno (by omega)).symm)
  exact loop2 n 0 (by omega) (fun i h => absurd h (Nat.not_lt_zero i)) ls (lv_sub hl [1, 2, 0] rfl)

theorem hdv_X3_firstSteep : yX3_firstSteep.cls = RX3 ∧ yX3_firstSteep.cls ≠ "java/lang/invoke/MethodHandle" ∧ yX3_firstSteep.cls ≠ "java/lang/invoke/VarHandle" ∧ (parseMethodDescriptor yX3_firstSteep.desc).map (fun d => d.parameters.length) = some 1 := by decide +kernel
theorem hdv_X3_lean : yX3_lean.cls = RX3 ∧ yX3_lean.cls ≠ "java/lang/invoke/MethodHandle" ∧ yX3_lean.cls ≠ "java/lang/invoke/VarHandle" ∧ (parseMethodDescriptor yX3_lean.desc).map (fun d => d.parameters.length) = some 3 := by decide +kernel
set_option maxHeartbeats 4000000 in
set_option maxRecDepth 100000 in
theorem c_X3_settled (γ : xG) (l : Launch) (m0 m1 m2 m3 m4 n kc : Nat) (th td : Int32) (ra : Nat) (f : xRow) (k : Nat) (hn0 : 3 ≤ n) (hn1 : n ≤ 12) (hk : k < 1000) : xM γ l yX3_settled wsX3_settled ({ frames := 3, cells := 0, slots := 0, locals := 66 } : Room) [.ref m0, .ref ra, .int (nI k)] ([xO m0 3 [.int th, .int (nI n), .int (nI kc), .int td, .ref m1, .ref m2, .ref m3, .ref m4], xA γ ra 12 f]) (fun r9 w9 => r9 = some (.int (nI (xStl n k f).1)) ∧ w9 = [xO m0 3 [.int th, .int (nI n), .int (nI kc), .int td, .ref m1, .ref m2, .ref m3, .ref m4], xA γ ra 12 ((xStl n k f).2)]) 0 0 := by
  refine xM.of (cc := cX3_settled) (maxL := 5) (ret := (some .int)) (by decide +kernel) rfl (Nat.le_of_ble_eq_true rfl) ?_
  intro p e s m below meth c hx hb hr hml hts hown hlocks hin hP hK A hA hD ls hl
  have hS : va_S A s.heap s.heap [] := va_S.rf
  generalize hargs : ([.ref m0, .ref ra, .int (nI k)] : List Value).toArray = args at hts ⊢
  obtain ⟨Q, hQ⟩ : ∃ Q9, Q9 = MQ below (xMQ γ (List.map Prod.fst ([xO m0 3 [.int th, .int (nI n), .int (nI kc), .int td, .ref m1, .ref m2, .ref m3, .ref m4], xA γ ra 12 f])) A (fun r9 w9 => r9 = some (.int (nI (xStl n k f).1)) ∧ w9 = [xO m0 3 [.int th, .int (nI n), .int (nI kc), .int td, .ref m1, .ref m2, .ref m3, .ref m4], xA γ ra 12 ((xStl n k f).2)])) args s 0 0 A := ⟨_, rfl⟩
  rw [← hQ]
  have hown : s.vm.findClass RX3 = some m.cls := hown
  have hl : lv_has ls 5 [(0, .ref m0), (1, .ref ra), (2, .int (nI k))] := hl
  refine lv_iconst (v := 0) hx hb dX3_settled_0 (by decide) ?_
  refine lv_istore_n (lv' := [(3, .int 0), (0, .ref m0), (1, .ref ra), (2, .int (nI k))]) hx hb dX3_settled_1 rfl hl (by decide) rfl (fun ls hl => ?_)
  refine lv_aload_n hx hb dX3_settled_2 rfl (lv_at hl 1 rfl) ?_
  refine lv_aload_n hx hb dX3_settled_3 rfl (lv_at hl 2 rfl) ?_
  refine xVR (q0 := 0) (ci := 3) (As := [.ref ra]) (rest := []) (stk := [.int (xFi (xSt n f) n)]) ⟨hx, hb, hml, hown, hts⟩ (c_X3_firstSteep γ l m0 m1 m2 m3 m4 n kc th td ra f (by omega) (by omega)) (cwV 1 hts gX3_settled_X3_firstSteep rfl rfl rfl hdv_X3_firstSteep ⟨(Nat.le_of_ble_eq_true rfl), (Nat.le_of_ble_eq_true rfl)⟩) hK hP [0, 1] rfl rfl rfl rfl hl.1 rfl (Nat.le_of_ble_eq_true rfl) dX3_settled_4 ⟨(Nat.le_of_ble_eq_true rfl), (Nat.le_of_ble_eq_true rfl)⟩ rfl ?_
  refine lv_istore (lv' := [(4, .int (xFi (xSt n f) n)), (3, .int 0), (0, .ref m0), (1, .ref ra), (2, .int (nI k))]) hx hb dX3_settled_7 hl (by decide) rfl (fun ls hl => ?_)
  have loop9 : ∀ j : Nat, ∀ (d : Nat) (g : xRow), d + j = k → (xStl n k f = (d + (xStl n j g).1, (xStl n j g).2)) → ∀ (H : Heap) (locs : List Loc), xP γ ([xO m0 3 [.int th, .int (nI n), .int (nI kc), .int td, .ref m1, .ref m2, .ref m3, .ref m4], xA γ ra 12 g]) H → va_D A ([xO m0 3 [.int th, .int (nI n), .int (nI kc), .int td, .ref m1, .ref m2, .ref m3, .ref m4], xA γ ra 12 g]) → va_S A s.heap H locs → ∀ ls : Array Slot, lv_has ls 5 [(0, .ref m0), (1, .ref ra), (2, .int (nI k)), (3, .int (nI d)), (4, .int (xFi (xSt n g) n))] → W p l e ({ frames := 3, cells := 0, slots := 0, locals := 66 } : Room) s m args below meth c H locs 0 0 Q (F0 m 9 ls []) := by
    intro j
    induction j with
    | zero =>
      intro d g hj hst H locs hP hD hS ls hl
      refine lv_iload hx hb dX3_settled_9 (lv_at hl 4 rfl) ?_
      refine lv_iconst (v := (-1)) hx hb dX3_settled_11 (by decide) ?_
      refine lv_icmp_eq (tgt := 41) hx hb dX3_settled_12 (by decide) (fun c12 => ?_) (fun c12 => ?_)
      · have hi := xFi_eq (by omega) c12
        refine lv_iload_n hx hb dX3_settled_41 rfl (lv_at hl 3 rfl) ?_
        subst hQ
        exact xM_i hx hb hr hlocks dX3_settled_42 hP rfl hS (Nat.le_of_ble_eq_true rfl) (Nat.le_of_ble_eq_true rfl) (⟨by rw [hst, xStl_0 hi]; rfl, by rw [hst, xStl_0 hi]⟩)
      · obtain ⟨hi, ei⟩ := xFi_ne c12
        refine lv_iload_n hx hb dX3_settled_15 rfl (lv_at hl 3 rfl) ?_
        refine lv_iload_n hx hb dX3_settled_16 rfl (lv_at hl 2 rfl) ?_
        refine lv_icmp_ge (tgt := 41) hx hb dX3_settled_17 (by decide) (fun _ => ?_) (fun c => absurd (nI_le (a := k) (b := d) (by omega) (by omega)) c)
        refine lv_iload_n hx hb dX3_settled_41 rfl (lv_at hl 3 rfl) ?_
        subst hQ
        exact xM_i hx hb hr hlocks dX3_settled_42 hP rfl hS (Nat.le_of_ble_eq_true rfl) (Nat.le_of_ble_eq_true rfl) (⟨by rw [hst]; rfl, by rw [hst]; rfl⟩)
    | succ j ih9 =>
      intro d g hj hst H locs hP hD hS ls hl
      refine lv_iload hx hb dX3_settled_9 (lv_at hl 4 rfl) ?_
      refine lv_iconst (v := (-1)) hx hb dX3_settled_11 (by decide) ?_
      refine lv_icmp_eq (tgt := 41) hx hb dX3_settled_12 (by decide) (fun c12 => ?_) (fun c12 => ?_)
      · have hi := xFi_eq (by omega) c12
        refine lv_iload_n hx hb dX3_settled_41 rfl (lv_at hl 3 rfl) ?_
        subst hQ
        exact xM_i hx hb hr hlocks dX3_settled_42 hP rfl hS (Nat.le_of_ble_eq_true rfl) (Nat.le_of_ble_eq_true rfl) (⟨by rw [hst, xStl_0 hi]; rfl, by rw [hst, xStl_0 hi]⟩)
      · obtain ⟨hi, ei⟩ := xFi_ne c12
        refine lv_iload_n hx hb dX3_settled_15 rfl (lv_at hl 3 rfl) ?_
        refine lv_iload_n hx hb dX3_settled_16 rfl (lv_at hl 2 rfl) ?_
        refine lv_icmp_ge (tgt := 41) hx hb dX3_settled_17 (by decide) (fun c => absurd c (nI_ge (a := d) (b := k) (by omega) (by omega))) (fun _ => ?_)
        refine lv_aload_n hx hb dX3_settled_20 rfl (lv_at hl 0 rfl) ?_
        refine lv_aload_n hx hb dX3_settled_21 rfl (lv_at hl 1 rfl) ?_
        refine lv_iload hx hb dX3_settled_22 (lv_at hl 4 rfl) ?_
        refine x_top (y := nI (xFirst (xSt n g) n)) (ei) ?_
        refine lv_iconst (v := 1) hx hb dX3_settled_24 (by decide) ?_
        refine xVM (q0 := 0) (ci := 3) (As := [.ref ra, .int (nI (xFirst (xSt n g) n)), .int 1]) (rest := []) ⟨hx, hb, hml, hown, hts⟩ (c_X3_lean γ l m0 m1 m2 m3 m4 n kc th td ra g (xFirst (xSt n g) n) 1 (by omega) (by omega) (by omega)) (cwV 3 hts gX3_settled_X3_lean rfl rfl rfl hdv_X3_lean ⟨(Nat.le_of_ble_eq_true rfl), (Nat.le_of_ble_eq_true rfl)⟩) hK hP hD hS hA [0, 1] rfl rfl rfl rfl rfl hl.1 rfl (Nat.le_of_ble_eq_true rfl) dX3_settled_25 ⟨(Nat.le_of_ble_eq_true rfl), (Nat.le_of_ble_eq_true rfl)⟩ (fun r9 w9 H locs hw hP hD hS => ?_)
        obtain ⟨rfl, rfl⟩ := hw
        have hP : xP γ ([xO m0 3 [.int th, .int (nI n), .int (nI kc), .int td, .ref m1, .ref m2, .ref m3, .ref m4], xA γ ra 12 (xTip n g (xFirst (xSt n g) n) 1)]) H := hP
        have hD : va_D A ([xO m0 3 [.int th, .int (nI n), .int (nI kc), .int td, .ref m1, .ref m2, .ref m3, .ref m4], xA γ ra 12 (xTip n g (xFirst (xSt n g) n) 1)]) := hD
        refine W.eq (g2 := F0 m 28 ls []) rfl ?_
        refine lv_iinc (v := nI (d + 1)) (lv' := [(3, .int (nI (d + 1))), (0, .ref m0), (1, .ref ra), (2, .int (nI k)), (4, .int (xFi (xSt n g) n))]) hx hb dX3_settled_28 hl (k := 3) rfl (nI_add d 1) (by decide) rfl (fun ls hl => ?_)
        refine lv_aload_n hx hb dX3_settled_31 rfl (lv_at hl 1 rfl) ?_
        refine lv_aload_n hx hb dX3_settled_32 rfl (lv_at hl 2 rfl) ?_
        refine xVR (q0 := 0) (ci := 3) (As := [.ref ra]) (rest := []) (stk := [.int (xFi (xSt n (xTip n g (xFirst (xSt n g) n) 1)) n)]) ⟨hx, hb, hml, hown, hts⟩ (c_X3_firstSteep γ l m0 m1 m2 m3 m4 n kc th td ra (xTip n g (xFirst (xSt n g) n) 1) (by omega) (by omega)) (cwV 1 hts gX3_settled_X3_firstSteep rfl rfl rfl hdv_X3_firstSteep ⟨(Nat.le_of_ble_eq_true rfl), (Nat.le_of_ble_eq_true rfl)⟩) hK hP [0, 1] rfl rfl rfl rfl hl.1 rfl (Nat.le_of_ble_eq_true rfl) dX3_settled_33 ⟨(Nat.le_of_ble_eq_true rfl), (Nat.le_of_ble_eq_true rfl)⟩ rfl ?_
        refine lv_istore (lv' := [(4, .int (xFi (xSt n (xTip n g (xFirst (xSt n g) n) 1)) n)), (3, .int (nI (d + 1))), (0, .ref m0), (1, .ref ra), (2, .int (nI k))]) hx hb dX3_settled_36 hl (by decide) rfl (fun ls hl => ?_)
        refine lv_goto (tgt := 9) hx hb dX3_settled_38 (by decide) ?_
        exact ih9 (d + 1) (xTip n g (xFirst (xSt n g) n) 1) (by omega) (by rw [hst, xStl_t j hi]; exact Prod.ext (by show d + (_ + 1) = d + 1 + _; omega) rfl) _ _ hP hD hS ls (lv_sub hl [2, 3, 4, 1, 0] rfl)
  exact loop9 k 0 f (by omega) (Prod.ext (Nat.zero_add _).symm rfl) _ _ hP hD hS ls (lv_sub hl [2, 3, 4, 1, 0] rfl)

theorem flX3_look_13 : Cond.fieldLink RX3 13 "RingSeesawModel" "x" "[I" ∈ wsX3_look := by decide +kernel
theorem iwX3_look_3 : ∀ w ∈ wsX30, w ∈ wsX3_look := by decide +kernel
theorem flX3_look_17 : Cond.fieldLink RX3 17 "RingSeesawModel" "then" "[I" ∈ wsX3_look := by decide +kernel
theorem wdX3_look_ac1 : Cond.methodLink RX3 40 arraycopyName ∈ wsX3_look := by decide +kernel
theorem wdX3_look_ac2 : Cond.native arraycopyName ∈ wsX3_look := by decide +kernel
theorem wdX3_look_ac3 : Cond.static arraycopyName ∈ wsX3_look := by decide +kernel
theorem wdX3_look_ac4 : Cond.initialized "java/lang/System" ∈ wsX3_look := by decide +kernel
set_option maxHeartbeats 4000000 in
set_option maxRecDepth 100000 in
theorem c_X3_look (γ : xG) (l : Launch) (m0 m1 m2 m3 m4 n kc : Nat) (th td : Int32) (f tf : xRow) : xM γ l yX3_look wsX3_look ({ frames := 1, cells := 0, slots := 0, locals := 60 } : Room) [.ref m0] ([xO m0 3 [.int th, .int (nI n), .int (nI kc), .int td, .ref m1, .ref m2, .ref m3, .ref m4], xA γ m1 12 f, xA γ m2 12 tf]) (fun r9 w9 => r9 = none ∧ w9 = [xO m0 3 [.int th, .int (nI n), .int (nI kc), .int td, .ref m1, .ref m2, .ref m3, .ref m4], xA γ m1 12 f, xA γ m2 12 f]) 0 0 := by
  refine xM.of (cc := cX3_look) (maxL := 1) (ret := none) (by decide +kernel) rfl (Nat.le_of_ble_eq_true rfl) ?_
  intro p e s m below meth c hx hb hr hml hts hown hlocks hin hP hK A hA hD ls hl
  have hS : va_S A s.heap s.heap [] := va_S.rf
  generalize hargs : ([.ref m0] : List Value).toArray = args at hts ⊢
  obtain ⟨Q, hQ⟩ : ∃ Q9, Q9 = MQ below (xMQ γ (List.map Prod.fst ([xO m0 3 [.int th, .int (nI n), .int (nI kc), .int td, .ref m1, .ref m2, .ref m3, .ref m4], xA γ m1 12 f, xA γ m2 12 tf])) A (fun r9 w9 => r9 = none ∧ w9 = [xO m0 3 [.int th, .int (nI n), .int (nI kc), .int td, .ref m1, .ref m2, .ref m3, .ref m4], xA γ m1 12 f, xA γ m2 12 f])) args s 0 0 A := ⟨_, rfl⟩
  rw [← hQ]
  have hown : s.vm.findClass RX3 = some m.cls := hown
  have hl : lv_has ls 1 [(0, .ref m0)] := hl
  refine lv_aload_n hx hb dX3_look_0 rfl (lv_at hl 0 rfl) ?_
  refine va_get (D := γ.1) (ci := 3) (v := .ref m1) (C := RX3) (T := TX3) (N := 8) hx hb hts iwX3_look_3 hown hK hP 0 rfl rfl 4 (by decide) (hts _ flX3_look_13) (fun _ h9 => h9) rfl dX3_look_1 ?_
  refine lv_iconst (v := 0) hx hb dX3_look_4 (by decide) ?_
  refine lv_aload_n hx hb dX3_look_5 rfl (lv_at hl 0 rfl) ?_
  refine va_get (D := γ.1) (ci := 3) (v := .ref m2) (C := RX3) (T := TX3) (N := 8) hx hb hts iwX3_look_3 hown hK hP 0 rfl rfl 5 (by decide) (hts _ flX3_look_17) (fun _ h9 => h9) rfl dX3_look_6 ?_
  refine lv_iconst (v := 0) hx hb dX3_look_9 (by decide) ?_
  refine lv_bipush (v := 12) hx hb dX3_look_10 (by decide) ?_
  refine va_copyi hx hb (hml.trans hl.1.symm) hown (hts _ wdX3_look_ac1) (hts _ wdX3_look_ac2) (hts _ wdX3_look_ac3) (hts _ wdX3_look_ac4) hK hP hD hS 1 2 0 0 (n0 := 12) (n1 := 12) (f := f) (g := tf) rfl rfl rfl rfl rfl (by decide) (by decide) (by decide) (by decide) (by decide) (fun _ _ => rfl) (Nat.le_of_ble_eq_true rfl) (Nat.le_of_ble_eq_true rfl) dX3_look_12 (fun H locs hP hD hS => ?_)
  have hP := xP_row hP 2 rfl (f) (fun i hi => by show (if 0 ≤ i ∧ i < 0 + 12 then f (0 + (i - 0)) else tf i) = f i; rw [if_pos (by omega), Nat.zero_add, Nat.sub_zero])
  have hD : va_D A ([xO m0 3 [.int th, .int (nI n), .int (nI kc), .int td, .ref m1, .ref m2, .ref m3, .ref m4], xA γ m1 12 f, xA γ m2 12 f]) := xD_row hD 2 rfl
  have hP : xP γ ([xO m0 3 [.int th, .int (nI n), .int (nI kc), .int td, .ref m1, .ref m2, .ref m3, .ref m4], xA γ m1 12 f, xA γ m2 12 f]) H := hP
  subst hQ
  exact xM_v hx hb hr hlocks dX3_look_15 hP rfl hS (Nat.le_of_ble_eq_true rfl) (Nat.le_of_ble_eq_true rfl) (⟨rfl, rfl⟩)

theorem flX3_sumOf_7 : Cond.fieldLink RX3 7 "RingSeesawModel" "n" "I" ∈ wsX3_sumOf := by decide +kernel
theorem iwX3_sumOf_3 : ∀ w ∈ wsX30, w ∈ wsX3_sumOf := by decide +kernel
theorem flX3_sumOf_13 : Cond.fieldLink RX3 13 "RingSeesawModel" "x" "[I" ∈ wsX3_sumOf := by decide +kernel
set_option maxHeartbeats 4000000 in
set_option maxRecDepth 100000 in
theorem c_X3_sumOf (γ : xG) (l : Launch) (m0 m1 m2 m3 m4 n kc : Nat) (th td : Int32) (f : xRow) (hn0 : 3 ≤ n) (hn1 : n ≤ 12) : xR γ l yX3_sumOf wsX3_sumOf ({ frames := 0, cells := 0, slots := 0, locals := 0 } : Room) [.ref m0] ([xO m0 3 [.int th, .int (nI n), .int (nI kc), .int td, .ref m1, .ref m2, .ref m3, .ref m4], xA γ m1 12 f]) (some (.int (xTot f n))) := by
  refine xR.of (cc := cX3_sumOf) (maxL := 3) (ret := (some .int)) (by decide +kernel) rfl (Nat.le_of_ble_eq_true rfl) ?_
  intro p e s m below meth c hx hb hr hml hts hown hlocks hP hK ls hl
  generalize hargs : ([.ref m0] : List Value).toArray = args at hts ⊢
  obtain ⟨Q, hQ⟩ : ∃ Q9, Q9 = MQ below (xRQ (some (.int (xTot f n)))) args s 0 0 (fun _ => False) := ⟨_, rfl⟩
  rw [← hQ]
  have hown : s.vm.findClass RX3 = some m.cls := hown
  have hl : lv_has ls 3 [(0, .ref m0)] := hl
  refine lv_iconst (v := 0) hx hb dX3_sumOf_0 (by decide) ?_
  refine lv_istore_n (lv' := [(1, .int 0), (0, .ref m0)]) hx hb dX3_sumOf_1 rfl hl (by decide) rfl (fun ls hl => ?_)
  refine lv_iconst (v := 0) hx hb dX3_sumOf_2 (by decide) ?_
  refine lv_istore_n (lv' := [(2, .int 0), (1, .int 0), (0, .ref m0)]) hx hb dX3_sumOf_3 rfl hl (by decide) rfl (fun ls hl => ?_)
  have loop4 : ∀ j : Nat, ∀ (k : Nat), k + j = n → ∀ ls : Array Slot, lv_has ls 3 [(0, .ref m0), (1, .int (xTot f k)), (2, .int (nI k))] → W p l e ({ frames := 0, cells := 0, slots := 0, locals := 0 } : Room) s m args below meth c s.heap [] 0 0 Q (F0 m 4 ls []) := by
    intro j
    induction j with
    | zero =>
      intro k hj ls hl
      refine lv_iload_n hx hb dX3_sumOf_4 rfl (lv_at hl 2 rfl) ?_
      refine lv_aload_n hx hb dX3_sumOf_5 rfl (lv_at hl 0 rfl) ?_
      refine va_get (D := γ.1) (ci := 3) (v := .int (nI n)) (C := RX3) (T := TX3) (N := 8) hx hb hts iwX3_sumOf_3 hown hK hP 0 rfl rfl 1 (by decide) (hts _ flX3_sumOf_7) (fun _ h9 => h9) rfl dX3_sumOf_6 ?_
      refine lv_icmp_ge (tgt := 27) hx hb dX3_sumOf_9 (by decide) (fun _ => ?_) (fun c => absurd (nI_le (a := n) (b := k) (by omega) (by omega)) c)
      refine lv_iload_n hx hb dX3_sumOf_27 rfl (lv_at hl 1 rfl) ?_
      subst hQ
      exact xR_i hx hb hr hlocks dX3_sumOf_28 (by rw [show k = n by omega])
    | succ j ih4 =>
      intro k hj ls hl
      refine lv_iload_n hx hb dX3_sumOf_4 rfl (lv_at hl 2 rfl) ?_
      refine lv_aload_n hx hb dX3_sumOf_5 rfl (lv_at hl 0 rfl) ?_
      refine va_get (D := γ.1) (ci := 3) (v := .int (nI n)) (C := RX3) (T := TX3) (N := 8) hx hb hts iwX3_sumOf_3 hown hK hP 0 rfl rfl 1 (by decide) (hts _ flX3_sumOf_7) (fun _ h9 => h9) rfl dX3_sumOf_6 ?_
      refine lv_icmp_ge (tgt := 27) hx hb dX3_sumOf_9 (by decide) (fun c => absurd c (nI_ge (a := k) (b := n) (by omega) (by omega))) (fun _ => ?_)
      refine lv_iload_n hx hb dX3_sumOf_12 rfl (lv_at hl 1 rfl) ?_
      refine lv_aload_n hx hb dX3_sumOf_13 rfl (lv_at hl 0 rfl) ?_
      refine va_get (D := γ.1) (ci := 3) (v := .ref m1) (C := RX3) (T := TX3) (N := 8) hx hb hts iwX3_sumOf_3 hown hK hP 0 rfl rfl 4 (by decide) (hts _ flX3_sumOf_13) (fun _ h9 => h9) rfl dX3_sumOf_14 ?_
      refine lv_iload_n hx hb dX3_sumOf_17 rfl (lv_at hl 2 rfl) ?_
      refine x_iald (f := f) hx hb hK hP 1 rfl k rfl (by omega) (by omega) dX3_sumOf_18 ?_
      refine lv_iadd hx hb dX3_sumOf_19 ?_
      refine lv_istore_n (lv' := [(1, .int ((xTot f k) + (f k))), (0, .ref m0), (2, .int (nI k))]) hx hb dX3_sumOf_20 rfl hl (by decide) rfl (fun ls hl => ?_)
      refine lv_iinc (v := nI (k + 1)) (lv' := [(2, .int (nI (k + 1))), (1, .int ((xTot f k) + (f k))), (0, .ref m0)]) hx hb dX3_sumOf_21 hl (k := 2) rfl (nI_add k 1) (by decide) rfl (fun ls hl => ?_)
      refine lv_goto (tgt := 4) hx hb dX3_sumOf_24 (by decide) ?_
      exact ih4 (k + 1) (by omega) ls (lv_sub hl [2, 1, 0] rfl)
  exact loop4 n 0 (by omega) ls (lv_sub hl [2, 1, 0] rfl)

theorem flX3_turning_7 : Cond.fieldLink RX3 7 "RingSeesawModel" "n" "I" ∈ wsX3_turning := by decide +kernel
theorem iwX3_turning_3 : ∀ w ∈ wsX30, w ∈ wsX3_turning := by decide +kernel
theorem flX3_turning_13 : Cond.fieldLink RX3 13 "RingSeesawModel" "x" "[I" ∈ wsX3_turning := by decide +kernel
set_option maxHeartbeats 4000000 in
set_option maxRecDepth 100000 in
theorem c_X3_turning (γ : xG) (l : Launch) (m0 m1 m2 m3 m4 n kc : Nat) (th td : Int32) (f : xRow) (hn0 : 3 ≤ n) (hn1 : n ≤ 12) : xR γ l yX3_turning wsX3_turning ({ frames := 1, cells := 0, slots := 0, locals := 22 } : Room) [.ref m0] ([xO m0 3 [.int th, .int (nI n), .int (nI kc), .int td, .ref m1, .ref m2, .ref m3, .ref m4], xA γ m1 12 f]) (some (.int (xMm n f))) := by
  refine xR.of (cc := cX3_turning) (maxL := 3) (ret := (some .int)) (by decide +kernel) rfl (Nat.le_of_ble_eq_true rfl) ?_
  intro p e s m below meth c hx hb hr hml hts hown hlocks hP hK ls hl
  generalize hargs : ([.ref m0] : List Value).toArray = args at hts ⊢
  obtain ⟨Q, hQ⟩ : ∃ Q9, Q9 = MQ below (xRQ (some (.int (xMm n f)))) args s 0 0 (fun _ => False) := ⟨_, rfl⟩
  rw [← hQ]
  have hown : s.vm.findClass RX3 = some m.cls := hown
  have hl : lv_has ls 3 [(0, .ref m0)] := hl
  refine lv_iconst (v := 0) hx hb dX3_turning_0 (by decide) ?_
  refine lv_istore_n (lv' := [(1, .int 0), (0, .ref m0)]) hx hb dX3_turning_1 rfl hl (by decide) rfl (fun ls hl => ?_)
  refine lv_iconst (v := 0) hx hb dX3_turning_2 (by decide) ?_
  refine lv_istore_n (lv' := [(2, .int 0), (1, .int 0), (0, .ref m0)]) hx hb dX3_turning_3 rfl hl (by decide) rfl (fun ls hl => ?_)
  have loop4 : ∀ j : Nat, ∀ (k : Nat), k + j = n → ∀ ls : Array Slot, lv_has ls 3 [(0, .ref m0), (1, .int (xMom f k)), (2, .int (nI k))] → W p l e ({ frames := 1, cells := 0, slots := 0, locals := 22 } : Room) s m args below meth c s.heap [] 0 0 Q (F0 m 4 ls []) := by
    intro j
    induction j with
    | zero =>
      intro k hj ls hl
      refine lv_iload_n hx hb dX3_turning_4 rfl (lv_at hl 2 rfl) ?_
      refine lv_aload_n hx hb dX3_turning_5 rfl (lv_at hl 0 rfl) ?_
      refine va_get (D := γ.1) (ci := 3) (v := .int (nI n)) (C := RX3) (T := TX3) (N := 8) hx hb hts iwX3_turning_3 hown hK hP 0 rfl rfl 1 (by decide) (hts _ flX3_turning_7) (fun _ h9 => h9) rfl dX3_turning_6 ?_
      refine lv_icmp_ge (tgt := 29) hx hb dX3_turning_9 (by decide) (fun _ => ?_) (fun c => absurd (nI_le (a := n) (b := k) (by omega) (by omega)) c)
      refine lv_iload_n hx hb dX3_turning_29 rfl (lv_at hl 1 rfl) ?_
      refine lv_aload_n hx hb dX3_turning_30 rfl (lv_at hl 0 rfl) ?_
      refine va_get (D := γ.1) (ci := 3) (v := .int (nI n)) (C := RX3) (T := TX3) (N := 8) hx hb hts iwX3_turning_3 hown hK hP 0 rfl rfl 1 (by decide) (hts _ flX3_turning_7) (fun _ h9 => h9) rfl dX3_turning_31 ?_
      refine xSR (As := [.int (xMom f k), .int (nI n)]) (rest := []) (stk := [.int (xFm (xMom f k) n)]) ⟨hx, hb, hml, hown, hts⟩ (c_J9_floorMod_7cf53 γ l (xMom f k) n (by omega) (by omega)) (va_cwS 2 hts gX3_turning_J9_floorMod_7cf53 rfl rfl rfl hds_J9_floorMod_7cf53 ⟨(Nat.le_of_ble_eq_true rfl), (Nat.le_of_ble_eq_true rfl)⟩) hK hP [] rfl rfl hl.1 rfl (Nat.le_of_ble_eq_true rfl) dX3_turning_34 ⟨(Nat.le_of_ble_eq_true rfl), (Nat.le_of_ble_eq_true rfl)⟩ rfl ?_
      subst hQ
      exact xR_i hx hb hr hlocks dX3_turning_37 (by rw [show k = n by omega]; rfl)
    | succ j ih4 =>
      intro k hj ls hl
      refine lv_iload_n hx hb dX3_turning_4 rfl (lv_at hl 2 rfl) ?_
      refine lv_aload_n hx hb dX3_turning_5 rfl (lv_at hl 0 rfl) ?_
      refine va_get (D := γ.1) (ci := 3) (v := .int (nI n)) (C := RX3) (T := TX3) (N := 8) hx hb hts iwX3_turning_3 hown hK hP 0 rfl rfl 1 (by decide) (hts _ flX3_turning_7) (fun _ h9 => h9) rfl dX3_turning_6 ?_
      refine lv_icmp_ge (tgt := 29) hx hb dX3_turning_9 (by decide) (fun c => absurd c (nI_ge (a := k) (b := n) (by omega) (by omega))) (fun _ => ?_)
      refine lv_iload_n hx hb dX3_turning_12 rfl (lv_at hl 1 rfl) ?_
      refine lv_iload_n hx hb dX3_turning_13 rfl (lv_at hl 2 rfl) ?_
      refine lv_aload_n hx hb dX3_turning_14 rfl (lv_at hl 0 rfl) ?_
      refine va_get (D := γ.1) (ci := 3) (v := .ref m1) (C := RX3) (T := TX3) (N := 8) hx hb hts iwX3_turning_3 hown hK hP 0 rfl rfl 4 (by decide) (hts _ flX3_turning_13) (fun _ h9 => h9) rfl dX3_turning_15 ?_
      refine lv_iload_n hx hb dX3_turning_18 rfl (lv_at hl 2 rfl) ?_
      refine x_iald (f := f) hx hb hK hP 1 rfl k rfl (by omega) (by omega) dX3_turning_19 ?_
      refine lv_imul hx hb dX3_turning_20 ?_
      refine x_top (y := f k * nI k) (Int32.mul_comm _ _) ?_
      refine lv_iadd hx hb dX3_turning_21 ?_
      refine lv_istore_n (lv' := [(1, .int ((xMom f k) + (f k * nI k))), (0, .ref m0), (2, .int (nI k))]) hx hb dX3_turning_22 rfl hl (by decide) rfl (fun ls hl => ?_)
      refine lv_iinc (v := nI (k + 1)) (lv' := [(2, .int (nI (k + 1))), (1, .int ((xMom f k) + (f k * nI k))), (0, .ref m0)]) hx hb dX3_turning_23 hl (k := 2) rfl (nI_add k 1) (by decide) rfl (fun ls hl => ?_)
      refine lv_goto (tgt := 4) hx hb dX3_turning_26 (by decide) ?_
      exact ih4 (k + 1) (by omega) ls (lv_sub hl [2, 1, 0] rfl)
  exact loop4 n 0 (by omega) ls (lv_sub hl [2, 1, 0] rfl)

theorem flX3_top_7 : Cond.fieldLink RX3 7 "RingSeesawModel" "n" "I" ∈ wsX3_top := by decide +kernel
theorem iwX3_top_3 : ∀ w ∈ wsX30, w ∈ wsX3_top := by decide +kernel
theorem flX3_top_13 : Cond.fieldLink RX3 13 "RingSeesawModel" "x" "[I" ∈ wsX3_top := by decide +kernel
set_option maxHeartbeats 4000000 in
set_option maxRecDepth 100000 in
theorem c_X3_top (γ : xG) (l : Launch) (m0 m1 m2 m3 m4 n kc : Nat) (th td : Int32) (f : xRow) (hn0 : 3 ≤ n) (hn1 : n ≤ 12) : xR γ l yX3_top wsX3_top ({ frames := 0, cells := 0, slots := 0, locals := 0 } : Room) [.ref m0] ([xO m0 3 [.int th, .int (nI n), .int (nI kc), .int td, .ref m1, .ref m2, .ref m3, .ref m4], xA γ m1 12 f]) (some (.int (nI (xTopI f (n - 1))))) := by
  refine xR.of (cc := cX3_top) (maxL := 3) (ret := (some .int)) (by decide +kernel) rfl (Nat.le_of_ble_eq_true rfl) ?_
  intro p e s m below meth c hx hb hr hml hts hown hlocks hP hK ls hl
  generalize hargs : ([.ref m0] : List Value).toArray = args at hts ⊢
  obtain ⟨Q, hQ⟩ : ∃ Q9, Q9 = MQ below (xRQ (some (.int (nI (xTopI f (n - 1)))))) args s 0 0 (fun _ => False) := ⟨_, rfl⟩
  rw [← hQ]
  have hown : s.vm.findClass RX3 = some m.cls := hown
  have hl : lv_has ls 3 [(0, .ref m0)] := hl
  refine lv_iconst (v := 0) hx hb dX3_top_0 (by decide) ?_
  refine lv_istore_n (lv' := [(1, .int 0), (0, .ref m0)]) hx hb dX3_top_1 rfl hl (by decide) rfl (fun ls hl => ?_)
  refine lv_iconst (v := 1) hx hb dX3_top_2 (by decide) ?_
  refine lv_istore_n (lv' := [(2, .int 1), (1, .int 0), (0, .ref m0)]) hx hb dX3_top_3 rfl hl (by decide) rfl (fun ls hl => ?_)
  have loop4 : ∀ j : Nat, ∀ (k : Nat), k + 1 + j = n → ∀ ls : Array Slot, lv_has ls 3 [(0, .ref m0), (1, .int (nI (xTopI f k))), (2, .int (nI (k + 1)))] → W p l e ({ frames := 0, cells := 0, slots := 0, locals := 0 } : Room) s m args below meth c s.heap [] 0 0 Q (F0 m 4 ls []) := by
    intro j
    induction j with
    | zero =>
      intro k hj ls hl
      refine lv_iload_n hx hb dX3_top_4 rfl (lv_at hl 2 rfl) ?_
      refine lv_aload_n hx hb dX3_top_5 rfl (lv_at hl 0 rfl) ?_
      refine va_get (D := γ.1) (ci := 3) (v := .int (nI n)) (C := RX3) (T := TX3) (N := 8) hx hb hts iwX3_top_3 hown hK hP 0 rfl rfl 1 (by decide) (hts _ flX3_top_7) (fun _ h9 => h9) rfl dX3_top_6 ?_
      refine lv_icmp_ge (tgt := 35) hx hb dX3_top_9 (by decide) (fun _ => ?_) (fun c => absurd (nI_le (a := n) (b := k + 1) (by omega) (by omega)) c)
      refine lv_iload_n hx hb dX3_top_35 rfl (lv_at hl 1 rfl) ?_
      subst hQ
      exact xR_i hx hb hr hlocks dX3_top_36 (by rw [show k = n - 1 by omega])
    | succ j ih4 =>
      intro k hj ls hl
      refine lv_iload_n hx hb dX3_top_4 rfl (lv_at hl 2 rfl) ?_
      refine lv_aload_n hx hb dX3_top_5 rfl (lv_at hl 0 rfl) ?_
      refine va_get (D := γ.1) (ci := 3) (v := .int (nI n)) (C := RX3) (T := TX3) (N := 8) hx hb hts iwX3_top_3 hown hK hP 0 rfl rfl 1 (by decide) (hts _ flX3_top_7) (fun _ h9 => h9) rfl dX3_top_6 ?_
      refine lv_icmp_ge (tgt := 35) hx hb dX3_top_9 (by decide) (fun c => absurd c (nI_ge (a := k + 1) (b := n) (by omega) (by omega))) (fun _ => ?_)
      have ht := xTopI_le f k
      refine lv_aload_n hx hb dX3_top_12 rfl (lv_at hl 0 rfl) ?_
      refine va_get (D := γ.1) (ci := 3) (v := .ref m1) (C := RX3) (T := TX3) (N := 8) hx hb hts iwX3_top_3 hown hK hP 0 rfl rfl 4 (by decide) (hts _ flX3_top_13) (fun _ h9 => h9) rfl dX3_top_13 ?_
      refine lv_iload_n hx hb dX3_top_16 rfl (lv_at hl 2 rfl) ?_
      refine x_iald (f := f) hx hb hK hP 1 rfl (k + 1) rfl (by omega) (by omega) dX3_top_17 ?_
      refine lv_aload_n hx hb dX3_top_18 rfl (lv_at hl 0 rfl) ?_
      refine va_get (D := γ.1) (ci := 3) (v := .ref m1) (C := RX3) (T := TX3) (N := 8) hx hb hts iwX3_top_3 hown hK hP 0 rfl rfl 4 (by decide) (hts _ flX3_top_13) (fun _ h9 => h9) rfl dX3_top_19 ?_
      refine lv_iload_n hx hb dX3_top_22 rfl (lv_at hl 1 rfl) ?_
      refine x_iald (f := f) hx hb hK hP 1 rfl (xTopI f k) rfl (by omega) (by omega) dX3_top_23 ?_
      refine lv_icmp_le (tgt := 29) hx hb dX3_top_24 (by decide) (fun c24 => ?_) (fun c24 => ?_)
      · rw [← xTopI_f c24] at hl
        refine lv_iinc (v := nI (k + 1 + 1)) (lv' := [(2, .int (nI (k + 1 + 1))), (0, .ref m0), (1, .int (nI (xTopI f (k + 1))))]) hx hb dX3_top_29 hl (k := 2) rfl (nI_add (k + 1) 1) (by decide) rfl (fun ls hl => ?_)
        refine lv_goto (tgt := 4) hx hb dX3_top_32 (by decide) ?_
        exact ih4 (k + 1) (by omega) ls (lv_sub hl [1, 2, 0] rfl)
      · refine lv_iload_n hx hb dX3_top_27 rfl (lv_at hl 2 rfl) ?_
        refine x_top (y := nI (xTopI f (k + 1))) (by rw [xTopI_t c24]) ?_
        refine lv_istore_n (lv' := [(1, .int (nI (xTopI f (k + 1)))), (0, .ref m0), (2, .int (nI (k + 1)))]) hx hb dX3_top_28 rfl hl (by decide) rfl (fun ls hl => ?_)
        refine lv_iinc (v := nI (k + 1 + 1)) (lv' := [(2, .int (nI (k + 1 + 1))), (1, .int (nI (xTopI f (k + 1)))), (0, .ref m0)]) hx hb dX3_top_29 hl (k := 2) rfl (nI_add (k + 1) 1) (by decide) rfl (fun ls hl => ?_)
        refine lv_goto (tgt := 4) hx hb dX3_top_32 (by decide) ?_
        exact ih4 (k + 1) (by omega) ls (lv_sub hl [2, 1, 0] rfl)
  exact loop4 (n - 1) 0 (by omega) ls (lv_sub hl [2, 1, 0] rfl)

theorem flX3_manySteep_7 : Cond.fieldLink RX3 7 "RingSeesawModel" "n" "I" ∈ wsX3_manySteep := by decide +kernel
theorem iwX3_manySteep_3 : ∀ w ∈ wsX30, w ∈ wsX3_manySteep := by decide +kernel
theorem flX3_manySteep_13 : Cond.fieldLink RX3 13 "RingSeesawModel" "x" "[I" ∈ wsX3_manySteep := by decide +kernel
set_option maxHeartbeats 4000000 in
set_option maxRecDepth 100000 in
theorem c_X3_manySteep (γ : xG) (l : Launch) (m0 m1 m2 m3 m4 n kc : Nat) (th td : Int32) (f : xRow) (hn0 : 3 ≤ n) (hn1 : n ≤ 12) : xR γ l yX3_manySteep wsX3_manySteep ({ frames := 2, cells := 0, slots := 0, locals := 44 } : Room) [.ref m0] ([xO m0 3 [.int th, .int (nI n), .int (nI kc), .int td, .ref m1, .ref m2, .ref m3, .ref m4], xA γ m1 12 f]) (some (.int (nI (xCnt (xSt n f) n)))) := by
  refine xR.of (cc := cX3_manySteep) (maxL := 3) (ret := (some .int)) (by decide +kernel) rfl (Nat.le_of_ble_eq_true rfl) ?_
  intro p e s m below meth c hx hb hr hml hts hown hlocks hP hK ls hl
  generalize hargs : ([.ref m0] : List Value).toArray = args at hts ⊢
  obtain ⟨Q, hQ⟩ : ∃ Q9, Q9 = MQ below (xRQ (some (.int (nI (xCnt (xSt n f) n))))) args s 0 0 (fun _ => False) := ⟨_, rfl⟩
  rw [← hQ]
  have hown : s.vm.findClass RX3 = some m.cls := hown
  have hl : lv_has ls 3 [(0, .ref m0)] := hl
  refine lv_iconst (v := 0) hx hb dX3_manySteep_0 (by decide) ?_
  refine lv_istore_n (lv' := [(1, .int 0), (0, .ref m0)]) hx hb dX3_manySteep_1 rfl hl (by decide) rfl (fun ls hl => ?_)
  refine lv_iconst (v := 0) hx hb dX3_manySteep_2 (by decide) ?_
  refine lv_istore_n (lv' := [(2, .int 0), (1, .int 0), (0, .ref m0)]) hx hb dX3_manySteep_3 rfl hl (by decide) rfl (fun ls hl => ?_)
  have loop4 : ∀ j : Nat, ∀ (k : Nat), k + j = n → ∀ ls : Array Slot, lv_has ls 3 [(0, .ref m0), (1, .int (nI (xCnt (xSt n f) k))), (2, .int (nI k))] → W p l e ({ frames := 2, cells := 0, slots := 0, locals := 44 } : Room) s m args below meth c s.heap [] 0 0 Q (F0 m 4 ls []) := by
    intro j
    induction j with
    | zero =>
      intro k hj ls hl
      refine lv_iload_n hx hb dX3_manySteep_4 rfl (lv_at hl 2 rfl) ?_
      refine lv_aload_n hx hb dX3_manySteep_5 rfl (lv_at hl 0 rfl) ?_
      refine va_get (D := γ.1) (ci := 3) (v := .int (nI n)) (C := RX3) (T := TX3) (N := 8) hx hb hts iwX3_manySteep_3 hown hK hP 0 rfl rfl 1 (by decide) (hts _ flX3_manySteep_7) (fun _ h9 => h9) rfl dX3_manySteep_6 ?_
      refine lv_icmp_ge (tgt := 38) hx hb dX3_manySteep_9 (by decide) (fun _ => ?_) (fun c => absurd (nI_le (a := n) (b := k) (by omega) (by omega)) c)
      refine lv_iload_n hx hb dX3_manySteep_38 rfl (lv_at hl 1 rfl) ?_
      subst hQ
      exact xR_i hx hb hr hlocks dX3_manySteep_39 (by rw [show k = n by omega])
    | succ j ih4 =>
      intro k hj ls hl
      refine lv_iload_n hx hb dX3_manySteep_4 rfl (lv_at hl 2 rfl) ?_
      refine lv_aload_n hx hb dX3_manySteep_5 rfl (lv_at hl 0 rfl) ?_
      refine va_get (D := γ.1) (ci := 3) (v := .int (nI n)) (C := RX3) (T := TX3) (N := 8) hx hb hts iwX3_manySteep_3 hown hK hP 0 rfl rfl 1 (by decide) (hts _ flX3_manySteep_7) (fun _ h9 => h9) rfl dX3_manySteep_6 ?_
      refine lv_icmp_ge (tgt := 38) hx hb dX3_manySteep_9 (by decide) (fun c => absurd c (nI_ge (a := k) (b := n) (by omega) (by omega))) (fun _ => ?_)
      refine lv_iload_n hx hb dX3_manySteep_12 rfl (lv_at hl 1 rfl) ?_
      refine lv_aload_n hx hb dX3_manySteep_13 rfl (lv_at hl 0 rfl) ?_
      refine lv_aload_n hx hb dX3_manySteep_14 rfl (lv_at hl 0 rfl) ?_
      refine va_get (D := γ.1) (ci := 3) (v := .ref m1) (C := RX3) (T := TX3) (N := 8) hx hb hts iwX3_manySteep_3 hown hK hP 0 rfl rfl 4 (by decide) (hts _ flX3_manySteep_13) (fun _ h9 => h9) rfl dX3_manySteep_15 ?_
      refine lv_iload_n hx hb dX3_manySteep_18 rfl (lv_at hl 2 rfl) ?_
      refine xVR (q0 := 0) (ci := 3) (As := [.ref m1, .int (nI k)]) (rest := [.int (nI (xCnt (xSt n f) k))]) (stk := [.int (if xSt n f k = true then 1 else 0), .int (nI (xCnt (xSt n f) k))]) ⟨hx, hb, hml, hown, hts⟩ (c_X3_steep γ l m0 m1 m2 m3 m4 n kc th td m1 f k (by omega) (by omega) (by omega)) (cwV 2 hts gX3_manySteep_X3_steep rfl rfl rfl hdv_X3_steep ⟨(Nat.le_of_ble_eq_true rfl), (Nat.le_of_ble_eq_true rfl)⟩) hK hP [0, 1] rfl rfl rfl rfl hl.1 rfl (Nat.le_of_ble_eq_true rfl) dX3_manySteep_19 ⟨(Nat.le_of_ble_eq_true rfl), (Nat.le_of_ble_eq_true rfl)⟩ rfl ?_
      refine lv_if_eq (tgt := 29) hx hb dX3_manySteep_22 (by decide) (fun c9 => ?_) (fun c9 => ?_)
      · refine lv_iconst (v := 0) hx hb dX3_manySteep_29 (by decide) ?_
        refine lv_iadd hx hb dX3_manySteep_30 ?_
        refine x_top (y := nI (xCnt (xSt n f) (k + 1))) ((nI_add _ 0).trans (congrArg nI (xCnt_f (P := (xSt n f)) (xB_f c9)).symm)) ?_
        refine lv_istore_n (lv' := [(1, .int (nI (xCnt (xSt n f) (k + 1)))), (0, .ref m0), (2, .int (nI k))]) hx hb dX3_manySteep_31 rfl hl (by decide) rfl (fun ls hl => ?_)
        refine lv_iinc (v := nI (k + 1)) (lv' := [(2, .int (nI (k + 1))), (1, .int (nI (xCnt (xSt n f) (k + 1)))), (0, .ref m0)]) hx hb dX3_manySteep_32 hl (k := 2) rfl (nI_add k 1) (by decide) rfl (fun ls hl => ?_)
        refine lv_goto (tgt := 4) hx hb dX3_manySteep_35 (by decide) ?_
        exact ih4 (k + 1) (by omega) ls (lv_sub hl [2, 1, 0] rfl)
      · refine lv_iconst (v := 1) hx hb dX3_manySteep_25 (by decide) ?_
        refine lv_goto (tgt := 30) hx hb dX3_manySteep_26 (by decide) ?_
        refine lv_iadd hx hb dX3_manySteep_30 ?_
        refine x_top (y := nI (xCnt (xSt n f) (k + 1))) ((nI_add _ 1).trans (congrArg nI (xCnt_t (P := (xSt n f)) (xB_t c9)).symm)) ?_
        refine lv_istore_n (lv' := [(1, .int (nI (xCnt (xSt n f) (k + 1)))), (0, .ref m0), (2, .int (nI k))]) hx hb dX3_manySteep_31 rfl hl (by decide) rfl (fun ls hl => ?_)
        refine lv_iinc (v := nI (k + 1)) (lv' := [(2, .int (nI (k + 1))), (1, .int (nI (xCnt (xSt n f) (k + 1)))), (0, .ref m0)]) hx hb dX3_manySteep_32 hl (k := 2) rfl (nI_add k 1) (by decide) rfl (fun ls hl => ?_)
        refine lv_goto (tgt := 4) hx hb dX3_manySteep_35 (by decide) ?_
        exact ih4 (k + 1) (by omega) ls (lv_sub hl [2, 1, 0] rfl)
  exact loop4 n 0 (by omega) ls (lv_sub hl [2, 1, 0] rfl)

theorem flX3_tiltOn_7 : Cond.fieldLink RX3 7 "RingSeesawModel" "n" "I" ∈ wsX3_tiltOn := by decide +kernel
theorem iwX3_tiltOn_3 : ∀ w ∈ wsX30, w ∈ wsX3_tiltOn := by decide +kernel
theorem flX3_tiltOn_13 : Cond.fieldLink RX3 13 "RingSeesawModel" "x" "[I" ∈ wsX3_tiltOn := by decide +kernel
set_option maxHeartbeats 4000000 in
set_option maxRecDepth 100000 in
theorem c_X3_tiltOn (γ : xG) (l : Launch) (m0 m1 m2 m3 m4 n kc : Nat) (th td : Int32) (f : xRow) (p9 : Nat) (hn0 : 3 ≤ n) (hn1 : n ≤ 12) (hp : p9 < n) : xR γ l yX3_tiltOn wsX3_tiltOn ({ frames := 1, cells := 0, slots := 0, locals := 22 } : Room) [.ref m0, .int (nI p9)] ([xO m0 3 [.int th, .int (nI n), .int (nI kc), .int td, .ref m1, .ref m2, .ref m3, .ref m4], xA γ m1 12 f]) (some (.int (xTlt n f p9))) := by
  refine xR.of (cc := cX3_tiltOn) (maxL := 4) (ret := (some .int)) (by decide +kernel) rfl (Nat.le_of_ble_eq_true rfl) ?_
  intro p e s m below meth c hx hb hr hml hts hown hlocks hP hK ls hl
  generalize hargs : ([.ref m0, .int (nI p9)] : List Value).toArray = args at hts ⊢
  obtain ⟨Q, hQ⟩ : ∃ Q9, Q9 = MQ below (xRQ (some (.int (xTlt n f p9)))) args s 0 0 (fun _ => False) := ⟨_, rfl⟩
  rw [← hQ]
  have hown : s.vm.findClass RX3 = some m.cls := hown
  have hl : lv_has ls 4 [(0, .ref m0), (1, .int (nI p9))] := hl
  refine lv_iconst (v := 0) hx hb dX3_tiltOn_0 (by decide) ?_
  refine lv_istore_n (lv' := [(2, .int 0), (0, .ref m0), (1, .int (nI p9))]) hx hb dX3_tiltOn_1 rfl hl (by decide) rfl (fun ls hl => ?_)
  refine lv_iconst (v := 1) hx hb dX3_tiltOn_2 (by decide) ?_
  refine lv_istore_n (lv' := [(3, .int 1), (2, .int 0), (0, .ref m0), (1, .int (nI p9))]) hx hb dX3_tiltOn_3 rfl hl (by decide) rfl (fun ls hl => ?_)
  have loop4 : ∀ j : Nat, ∀ (k : Nat), k + j = (n - 1) / 2 → ∀ ls : Array Slot, lv_has ls 4 [(0, .ref m0), (1, .int (nI p9)), (2, .int (xTl n f p9 k)), (3, .int (nI (k + 1)))] → W p l e ({ frames := 1, cells := 0, slots := 0, locals := 22 } : Room) s m args below meth c s.heap [] 0 0 Q (F0 m 4 ls []) := by
    intro j
    induction j with
    | zero =>
      intro k hj ls hl
      refine lv_iconst (v := 2) hx hb dX3_tiltOn_4 (by decide) ?_
      refine lv_iload_n hx hb dX3_tiltOn_5 rfl (lv_at hl 3 rfl) ?_
      refine lv_imul hx hb dX3_tiltOn_6 ?_
      refine x_top (y := nI (2 * (k + 1))) (pk_mul 2 (k + 1)) ?_
      refine lv_aload_n hx hb dX3_tiltOn_7 rfl (lv_at hl 0 rfl) ?_
      refine va_get (D := γ.1) (ci := 3) (v := .int (nI n)) (C := RX3) (T := TX3) (N := 8) hx hb hts iwX3_tiltOn_3 hown hK hP 0 rfl rfl 1 (by decide) (hts _ flX3_tiltOn_7) (fun _ h9 => h9) rfl dX3_tiltOn_8 ?_
      refine lv_icmp_ge (tgt := 49) hx hb dX3_tiltOn_11 (by decide) (fun _ => ?_) (fun c => absurd (nI_le (a := n) (b := 2 * (k + 1)) (by omega) (by omega)) c)
      refine lv_iload_n hx hb dX3_tiltOn_49 rfl (lv_at hl 2 rfl) ?_
      subst hQ
      exact xR_i hx hb hr hlocks dX3_tiltOn_50 (by rw [show k = (n - 1) / 2 by omega]; rfl)
    | succ j ih4 =>
      intro k hj ls hl
      refine lv_iconst (v := 2) hx hb dX3_tiltOn_4 (by decide) ?_
      refine lv_iload_n hx hb dX3_tiltOn_5 rfl (lv_at hl 3 rfl) ?_
      refine lv_imul hx hb dX3_tiltOn_6 ?_
      refine x_top (y := nI (2 * (k + 1))) (pk_mul 2 (k + 1)) ?_
      refine lv_aload_n hx hb dX3_tiltOn_7 rfl (lv_at hl 0 rfl) ?_
      refine va_get (D := γ.1) (ci := 3) (v := .int (nI n)) (C := RX3) (T := TX3) (N := 8) hx hb hts iwX3_tiltOn_3 hown hK hP 0 rfl rfl 1 (by decide) (hts _ flX3_tiltOn_7) (fun _ h9 => h9) rfl dX3_tiltOn_8 ?_
      refine lv_icmp_ge (tgt := 49) hx hb dX3_tiltOn_11 (by decide) (fun c => absurd c (nI_ge (a := 2 * (k + 1)) (b := n) (by omega) (by omega))) (fun _ => ?_)
      have hwa : xWr n ((p9 : Int) + ((k + 1 : Nat) : Int)) < n := xWr_lt (by omega) (by omega) (by omega)
      have hwb : xWr n ((p9 : Int) - ((k + 1 : Nat) : Int)) < n := xWr_lt (by omega) (by omega) (by omega)
      refine lv_iload_n hx hb dX3_tiltOn_14 rfl (lv_at hl 2 rfl) ?_
      refine lv_iload_n hx hb dX3_tiltOn_15 rfl (lv_at hl 3 rfl) ?_
      refine lv_aload_n hx hb dX3_tiltOn_16 rfl (lv_at hl 0 rfl) ?_
      refine va_get (D := γ.1) (ci := 3) (v := .ref m1) (C := RX3) (T := TX3) (N := 8) hx hb hts iwX3_tiltOn_3 hown hK hP 0 rfl rfl 4 (by decide) (hts _ flX3_tiltOn_13) (fun _ h9 => h9) rfl dX3_tiltOn_17 ?_
      refine lv_aload_n hx hb dX3_tiltOn_20 rfl (lv_at hl 0 rfl) ?_
      refine lv_iload_n hx hb dX3_tiltOn_21 rfl (lv_at hl 1 rfl) ?_
      refine lv_iload_n hx hb dX3_tiltOn_22 rfl (lv_at hl 3 rfl) ?_
      refine xVR (q0 := 0) (ci := 3) (As := [.int (nI p9), .int (nI (k + 1))]) (rest := [.ref m1, .int (nI (k + 1)), .int (xTl n f p9 k)]) (stk := [.int (nI (xWr n ((p9 : Int) + ((k + 1 : Nat) : Int)))), .ref m1, .int (nI (k + 1)), .int (xTl n f p9 k)]) ⟨hx, hb, hml, hown, hts⟩ (c_X3_on γ l m0 m1 m2 m3 m4 n kc th td p9 (nI (k + 1)) ((p9 : Int) + ((k + 1 : Nat) : Int)) (xaddI (nI_toInt (n := p9) (by omega)) (nI_toInt (n := k + 1) (by omega)) (by omega) (by omega)) (by omega) (by omega) (by omega) (by omega)) (cwV 2 hts gX3_tiltOn_X3_on rfl rfl rfl hdv_X3_on ⟨(Nat.le_of_ble_eq_true rfl), (Nat.le_of_ble_eq_true rfl)⟩) hK hP [0] rfl rfl rfl rfl hl.1 rfl (Nat.le_of_ble_eq_true rfl) dX3_tiltOn_23 ⟨(Nat.le_of_ble_eq_true rfl), (Nat.le_of_ble_eq_true rfl)⟩ rfl ?_
      refine x_iald (f := f) hx hb hK hP 1 rfl (xWr n ((p9 : Int) + ((k + 1 : Nat) : Int))) rfl (by omega) (by omega) dX3_tiltOn_26 ?_
      refine lv_aload_n hx hb dX3_tiltOn_27 rfl (lv_at hl 0 rfl) ?_
      refine va_get (D := γ.1) (ci := 3) (v := .ref m1) (C := RX3) (T := TX3) (N := 8) hx hb hts iwX3_tiltOn_3 hown hK hP 0 rfl rfl 4 (by decide) (hts _ flX3_tiltOn_13) (fun _ h9 => h9) rfl dX3_tiltOn_28 ?_
      refine lv_aload_n hx hb dX3_tiltOn_31 rfl (lv_at hl 0 rfl) ?_
      refine lv_iload_n hx hb dX3_tiltOn_32 rfl (lv_at hl 1 rfl) ?_
      refine lv_iload_n hx hb dX3_tiltOn_33 rfl (lv_at hl 3 rfl) ?_
      refine lv_ineg hx hb dX3_tiltOn_34 ?_
      refine xVR (q0 := 0) (ci := 3) (As := [.int (nI p9), .int (-(nI (k + 1)))]) (rest := [.ref m1, .int (f (xWr n ((p9 : Int) + ((k + 1 : Nat) : Int)))), .int (nI (k + 1)), .int (xTl n f p9 k)]) (stk := [.int (nI (xWr n ((p9 : Int) - ((k + 1 : Nat) : Int)))), .ref m1, .int (f (xWr n ((p9 : Int) + ((k + 1 : Nat) : Int)))), .int (nI (k + 1)), .int (xTl n f p9 k)]) ⟨hx, hb, hml, hown, hts⟩ (c_X3_on γ l m0 m1 m2 m3 m4 n kc th td p9 (-(nI (k + 1))) ((p9 : Int) - ((k + 1 : Nat) : Int)) ((xaddI (nI_toInt (n := p9) (by omega)) (xnegI (nI_toInt (n := k + 1) (by omega)) (by omega) (by omega)) (by omega) (by omega)).trans (Int.sub_eq_add_neg).symm) (by omega) (by omega) (by omega) (by omega)) (cwV 2 hts gX3_tiltOn_X3_on rfl rfl rfl hdv_X3_on ⟨(Nat.le_of_ble_eq_true rfl), (Nat.le_of_ble_eq_true rfl)⟩) hK hP [0] rfl rfl rfl rfl hl.1 rfl (Nat.le_of_ble_eq_true rfl) dX3_tiltOn_35 ⟨(Nat.le_of_ble_eq_true rfl), (Nat.le_of_ble_eq_true rfl)⟩ rfl ?_
      refine x_iald (f := f) hx hb hK hP 1 rfl (xWr n ((p9 : Int) - ((k + 1 : Nat) : Int))) rfl (by omega) (by omega) dX3_tiltOn_38 ?_
      refine lv_isub hx hb dX3_tiltOn_39 ?_
      refine lv_imul hx hb dX3_tiltOn_40 ?_
      refine x_top (y := (f (xWr n ((p9 : Int) + ((k + 1 : Nat) : Int))) - f (xWr n ((p9 : Int) - ((k + 1 : Nat) : Int)))) * nI (k + 1)) (Int32.mul_comm _ _) ?_
      refine lv_iadd hx hb dX3_tiltOn_41 ?_
      refine lv_istore_n (lv' := [(2, .int ((xTl n f p9 k) + ((f (xWr n ((p9 : Int) + ((k + 1 : Nat) : Int))) - f (xWr n ((p9 : Int) - ((k + 1 : Nat) : Int)))) * nI (k + 1)))), (0, .ref m0), (1, .int (nI p9)), (3, .int (nI (k + 1)))]) hx hb dX3_tiltOn_42 rfl hl (by decide) rfl (fun ls hl => ?_)
      refine lv_iinc (v := nI (k + 1 + 1)) (lv' := [(3, .int (nI (k + 1 + 1))), (2, .int ((xTl n f p9 k) + ((f (xWr n ((p9 : Int) + ((k + 1 : Nat) : Int))) - f (xWr n ((p9 : Int) - ((k + 1 : Nat) : Int)))) * nI (k + 1)))), (0, .ref m0), (1, .int (nI p9))]) hx hb dX3_tiltOn_43 hl (k := 3) rfl (nI_add (k + 1) 1) (by decide) rfl (fun ls hl => ?_)
      refine lv_goto (tgt := 4) hx hb dX3_tiltOn_46 (by decide) ?_
      exact ih4 (k + 1) (by omega) ls (lv_sub hl [2, 3, 1, 0] rfl)
  exact loop4 ((n - 1) / 2) 0 (by omega) ls (lv_sub hl [2, 3, 1, 0] rfl)

theorem hdv_X3_tiltOn : yX3_tiltOn.cls = RX3 ∧ yX3_tiltOn.cls ≠ "java/lang/invoke/MethodHandle" ∧ yX3_tiltOn.cls ≠ "java/lang/invoke/VarHandle" ∧ (parseMethodDescriptor yX3_tiltOn.desc).map (fun d => d.parameters.length) = some 1 := by decide +kernel
theorem flX3_level_7 : Cond.fieldLink RX3 7 "RingSeesawModel" "n" "I" ∈ wsX3_level := by decide +kernel
theorem iwX3_level_3 : ∀ w ∈ wsX30, w ∈ wsX3_level := by decide +kernel
set_option maxHeartbeats 4000000 in
set_option maxRecDepth 100000 in
theorem c_X3_level (γ : xG) (l : Launch) (m0 m1 m2 m3 m4 n kc : Nat) (th td : Int32) (f : xRow) (hn0 : 3 ≤ n) (hn1 : n ≤ 12) : xR γ l yX3_level wsX3_level ({ frames := 2, cells := 0, slots := 0, locals := 45 } : Room) [.ref m0] ([xO m0 3 [.int th, .int (nI n), .int (nI kc), .int td, .ref m1, .ref m2, .ref m3, .ref m4], xA γ m1 12 f]) (some (.int (nI (xCnt (xLv n f) n)))) := by
  refine xR.of (cc := cX3_level) (maxL := 3) (ret := (some .int)) (by decide +kernel) rfl (Nat.le_of_ble_eq_true rfl) ?_
  intro p e s m below meth c hx hb hr hml hts hown hlocks hP hK ls hl
  generalize hargs : ([.ref m0] : List Value).toArray = args at hts ⊢
  obtain ⟨Q, hQ⟩ : ∃ Q9, Q9 = MQ below (xRQ (some (.int (nI (xCnt (xLv n f) n))))) args s 0 0 (fun _ => False) := ⟨_, rfl⟩
  rw [← hQ]
  have hown : s.vm.findClass RX3 = some m.cls := hown
  have hl : lv_has ls 3 [(0, .ref m0)] := hl
  refine lv_iconst (v := 0) hx hb dX3_level_0 (by decide) ?_
  refine lv_istore_n (lv' := [(1, .int 0), (0, .ref m0)]) hx hb dX3_level_1 rfl hl (by decide) rfl (fun ls hl => ?_)
  refine lv_iconst (v := 0) hx hb dX3_level_2 (by decide) ?_
  refine lv_istore_n (lv' := [(2, .int 0), (1, .int 0), (0, .ref m0)]) hx hb dX3_level_3 rfl hl (by decide) rfl (fun ls hl => ?_)
  have loop4 : ∀ j : Nat, ∀ (k : Nat), k + j = n → ∀ ls : Array Slot, lv_has ls 3 [(0, .ref m0), (1, .int (nI (xCnt (xLv n f) k))), (2, .int (nI k))] → W p l e ({ frames := 2, cells := 0, slots := 0, locals := 45 } : Room) s m args below meth c s.heap [] 0 0 Q (F0 m 4 ls []) := by
    intro j
    induction j with
    | zero =>
      intro k hj ls hl
      refine lv_iload_n hx hb dX3_level_4 rfl (lv_at hl 2 rfl) ?_
      refine lv_aload_n hx hb dX3_level_5 rfl (lv_at hl 0 rfl) ?_
      refine va_get (D := γ.1) (ci := 3) (v := .int (nI n)) (C := RX3) (T := TX3) (N := 8) hx hb hts iwX3_level_3 hown hK hP 0 rfl rfl 1 (by decide) (hts _ flX3_level_7) (fun _ h9 => h9) rfl dX3_level_6 ?_
      refine lv_icmp_ge (tgt := 34) hx hb dX3_level_9 (by decide) (fun _ => ?_) (fun c => absurd (nI_le (a := n) (b := k) (by omega) (by omega)) c)
      refine lv_iload_n hx hb dX3_level_34 rfl (lv_at hl 1 rfl) ?_
      subst hQ
      exact xR_i hx hb hr hlocks dX3_level_35 (by rw [show k = n by omega])
    | succ j ih4 =>
      intro k hj ls hl
      refine lv_iload_n hx hb dX3_level_4 rfl (lv_at hl 2 rfl) ?_
      refine lv_aload_n hx hb dX3_level_5 rfl (lv_at hl 0 rfl) ?_
      refine va_get (D := γ.1) (ci := 3) (v := .int (nI n)) (C := RX3) (T := TX3) (N := 8) hx hb hts iwX3_level_3 hown hK hP 0 rfl rfl 1 (by decide) (hts _ flX3_level_7) (fun _ h9 => h9) rfl dX3_level_6 ?_
      refine lv_icmp_ge (tgt := 34) hx hb dX3_level_9 (by decide) (fun c => absurd c (nI_ge (a := k) (b := n) (by omega) (by omega))) (fun _ => ?_)
      refine lv_iload_n hx hb dX3_level_12 rfl (lv_at hl 1 rfl) ?_
      refine lv_aload_n hx hb dX3_level_13 rfl (lv_at hl 0 rfl) ?_
      refine lv_iload_n hx hb dX3_level_14 rfl (lv_at hl 2 rfl) ?_
      refine xVR (q0 := 0) (ci := 3) (As := [.int (nI k)]) (rest := [.int (nI (xCnt (xLv n f) k))]) (stk := [.int (xTlt n f k), .int (nI (xCnt (xLv n f) k))]) ⟨hx, hb, hml, hown, hts⟩ (c_X3_tiltOn γ l m0 m1 m2 m3 m4 n kc th td f k (by omega) (by omega) (by omega)) (cwV 1 hts gX3_level_X3_tiltOn rfl rfl rfl hdv_X3_tiltOn ⟨(Nat.le_of_ble_eq_true rfl), (Nat.le_of_ble_eq_true rfl)⟩) hK hP [0, 1] rfl rfl rfl rfl hl.1 rfl (Nat.le_of_ble_eq_true rfl) dX3_level_15 ⟨(Nat.le_of_ble_eq_true rfl), (Nat.le_of_ble_eq_true rfl)⟩ rfl ?_
      refine lv_if_ne (tgt := 25) hx hb dX3_level_18 (by decide) (fun c9 => ?_) (fun c9 => ?_)
      · refine lv_iconst (v := 0) hx hb dX3_level_25 (by decide) ?_
        refine lv_iadd hx hb dX3_level_26 ?_
        refine x_top (y := nI (xCnt (xLv n f) (k + 1))) ((nI_add _ 0).trans (congrArg nI (xCnt_f (P := (xLv n f)) (xLv_f c9)).symm)) ?_
        refine lv_istore_n (lv' := [(1, .int (nI (xCnt (xLv n f) (k + 1)))), (0, .ref m0), (2, .int (nI k))]) hx hb dX3_level_27 rfl hl (by decide) rfl (fun ls hl => ?_)
        refine lv_iinc (v := nI (k + 1)) (lv' := [(2, .int (nI (k + 1))), (1, .int (nI (xCnt (xLv n f) (k + 1)))), (0, .ref m0)]) hx hb dX3_level_28 hl (k := 2) rfl (nI_add k 1) (by decide) rfl (fun ls hl => ?_)
        refine lv_goto (tgt := 4) hx hb dX3_level_31 (by decide) ?_
        exact ih4 (k + 1) (by omega) ls (lv_sub hl [2, 1, 0] rfl)
      · refine lv_iconst (v := 1) hx hb dX3_level_21 (by decide) ?_
        refine lv_goto (tgt := 26) hx hb dX3_level_22 (by decide) ?_
        refine lv_iadd hx hb dX3_level_26 ?_
        refine x_top (y := nI (xCnt (xLv n f) (k + 1))) ((nI_add _ 1).trans (congrArg nI (xCnt_t (P := (xLv n f)) (xLv_t c9)).symm)) ?_
        refine lv_istore_n (lv' := [(1, .int (nI (xCnt (xLv n f) (k + 1)))), (0, .ref m0), (2, .int (nI k))]) hx hb dX3_level_27 rfl hl (by decide) rfl (fun ls hl => ?_)
        refine lv_iinc (v := nI (k + 1)) (lv' := [(2, .int (nI (k + 1))), (1, .int (nI (xCnt (xLv n f) (k + 1)))), (0, .ref m0)]) hx hb dX3_level_28 hl (k := 2) rfl (nI_add k 1) (by decide) rfl (fun ls hl => ?_)
        refine lv_goto (tgt := 4) hx hb dX3_level_31 (by decide) ?_
        exact ih4 (k + 1) (by omega) ls (lv_sub hl [2, 1, 0] rfl)
  exact loop4 n 0 (by omega) ls (lv_sub hl [2, 1, 0] rfl)

theorem flX3_flattest_7 : Cond.fieldLink RX3 7 "RingSeesawModel" "n" "I" ∈ wsX3_flattest := by decide +kernel
theorem iwX3_flattest_3 : ∀ w ∈ wsX30, w ∈ wsX3_flattest := by decide +kernel
theorem wdX3_flattest_m77a : Cond.methodLink RX3 77 Lib.Math.abs.name ∈ wsX3_flattest := by decide +kernel
theorem wdX3_flattest_m77b : Cond.static Lib.Math.abs.name ∈ wsX3_flattest := by decide +kernel
theorem wdX3_flattest_m77c : Cond.initialized "java/lang/Math" ∈ wsX3_flattest := by decide +kernel
theorem wdX3_flattest_m77d : Cond.code Lib.Math.abs.name Lib.Math.abs.code 1 (some .int) ∈ wsX3_flattest := by decide +kernel
set_option maxHeartbeats 4000000 in
set_option maxRecDepth 100000 in
theorem c_X3_flattest (γ : xG) (l : Launch) (m0 m1 m2 m3 m4 n kc : Nat) (th td : Int32) (f : xRow) (hn0 : 3 ≤ n) (hn1 : n ≤ 12) : xR γ l yX3_flattest wsX3_flattest ({ frames := 2, cells := 0, slots := 0, locals := 45 } : Room) [.ref m0] ([xO m0 3 [.int th, .int (nI n), .int (nI kc), .int td, .ref m1, .ref m2, .ref m3, .ref m4], xA γ m1 12 f]) (some (.int (nI (xBa (xTlt n f) (n - 1))))) := by
  refine xR.of (cc := cX3_flattest) (maxL := 3) (ret := (some .int)) (by decide +kernel) rfl (Nat.le_of_ble_eq_true rfl) ?_
  intro p e s m below meth c hx hb hr hml hts hown hlocks hP hK ls hl
  generalize hargs : ([.ref m0] : List Value).toArray = args at hts ⊢
  obtain ⟨Q, hQ⟩ : ∃ Q9, Q9 = MQ below (xRQ (some (.int (nI (xBa (xTlt n f) (n - 1)))))) args s 0 0 (fun _ => False) := ⟨_, rfl⟩
  rw [← hQ]
  have hown : s.vm.findClass RX3 = some m.cls := hown
  have hl : lv_has ls 3 [(0, .ref m0)] := hl
  refine lv_iconst (v := 0) hx hb dX3_flattest_0 (by decide) ?_
  refine lv_istore_n (lv' := [(1, .int 0), (0, .ref m0)]) hx hb dX3_flattest_1 rfl hl (by decide) rfl (fun ls hl => ?_)
  refine lv_iconst (v := 1) hx hb dX3_flattest_2 (by decide) ?_
  refine lv_istore_n (lv' := [(2, .int 1), (1, .int 0), (0, .ref m0)]) hx hb dX3_flattest_3 rfl hl (by decide) rfl (fun ls hl => ?_)
  have loop4 : ∀ j : Nat, ∀ (k : Nat), k + 1 + j = n → ∀ ls : Array Slot, lv_has ls 3 [(0, .ref m0), (1, .int (nI (xBa (xTlt n f) k))), (2, .int (nI (k + 1)))] → W p l e ({ frames := 2, cells := 0, slots := 0, locals := 45 } : Room) s m args below meth c s.heap [] 0 0 Q (F0 m 4 ls []) := by
    intro j
    induction j with
    | zero =>
      intro k hj ls hl
      refine lv_iload_n hx hb dX3_flattest_4 rfl (lv_at hl 2 rfl) ?_
      refine lv_aload_n hx hb dX3_flattest_5 rfl (lv_at hl 0 rfl) ?_
      refine va_get (D := γ.1) (ci := 3) (v := .int (nI n)) (C := RX3) (T := TX3) (N := 8) hx hb hts iwX3_flattest_3 hown hK hP 0 rfl rfl 1 (by decide) (hts _ flX3_flattest_7) (fun _ h9 => h9) rfl dX3_flattest_6 ?_
      refine lv_icmp_ge (tgt := 39) hx hb dX3_flattest_9 (by decide) (fun _ => ?_) (fun c => absurd (nI_le (a := n) (b := k + 1) (by omega) (by omega)) c)
      refine lv_iload_n hx hb dX3_flattest_39 rfl (lv_at hl 1 rfl) ?_
      subst hQ
      exact xR_i hx hb hr hlocks dX3_flattest_40 (by rw [show k = n - 1 by omega])
    | succ j ih4 =>
      intro k hj ls hl
      refine lv_iload_n hx hb dX3_flattest_4 rfl (lv_at hl 2 rfl) ?_
      refine lv_aload_n hx hb dX3_flattest_5 rfl (lv_at hl 0 rfl) ?_
      refine va_get (D := γ.1) (ci := 3) (v := .int (nI n)) (C := RX3) (T := TX3) (N := 8) hx hb hts iwX3_flattest_3 hown hK hP 0 rfl rfl 1 (by decide) (hts _ flX3_flattest_7) (fun _ h9 => h9) rfl dX3_flattest_6 ?_
      refine lv_icmp_ge (tgt := 39) hx hb dX3_flattest_9 (by decide) (fun c => absurd c (nI_ge (a := k + 1) (b := n) (by omega) (by omega))) (fun _ => ?_)
      have ht := xBa_le (xTlt n f) k
      refine lv_aload_n hx hb dX3_flattest_12 rfl (lv_at hl 0 rfl) ?_
      refine lv_iload_n hx hb dX3_flattest_13 rfl (lv_at hl 2 rfl) ?_
      refine xVR (q0 := 0) (ci := 3) (As := [.int (nI (k + 1))]) (rest := []) (stk := [.int (xTlt n f (k + 1))]) ⟨hx, hb, hml, hown, hts⟩ (c_X3_tiltOn γ l m0 m1 m2 m3 m4 n kc th td f (k + 1) (by omega) (by omega) (by omega)) (cwV 1 hts gX3_flattest_X3_tiltOn rfl rfl rfl hdv_X3_tiltOn ⟨(Nat.le_of_ble_eq_true rfl), (Nat.le_of_ble_eq_true rfl)⟩) hK hP [0, 1] rfl rfl rfl rfl hl.1 rfl (Nat.le_of_ble_eq_true rfl) dX3_flattest_14 ⟨(Nat.le_of_ble_eq_true rfl), (Nat.le_of_ble_eq_true rfl)⟩ rfl ?_
      refine va_mabs hx hb (hml.trans hl.1.symm) hown (hts _ wdX3_flattest_m77a) (hts _ wdX3_flattest_m77b) (hts _ wdX3_flattest_m77c) (hts _ wdX3_flattest_m77d) (Nat.le_of_ble_eq_true rfl) (Nat.le_of_ble_eq_true rfl) (Nat.le_of_ble_eq_true rfl) (Nat.le_of_ble_eq_true rfl) dX3_flattest_17 ?_
      refine lv_aload_n hx hb dX3_flattest_20 rfl (lv_at hl 0 rfl) ?_
      refine lv_iload_n hx hb dX3_flattest_21 rfl (lv_at hl 1 rfl) ?_
      refine xVR (q0 := 0) (ci := 3) (As := [.int (nI (xBa (xTlt n f) k))]) (rest := [.int (if 0 ≤ (xTlt n f (k + 1)) then (xTlt n f (k + 1)) else 0 - (xTlt n f (k + 1)))]) (stk := [.int (xTlt n f (xBa (xTlt n f) k)), .int (if 0 ≤ (xTlt n f (k + 1)) then (xTlt n f (k + 1)) else 0 - (xTlt n f (k + 1)))]) ⟨hx, hb, hml, hown, hts⟩ (c_X3_tiltOn γ l m0 m1 m2 m3 m4 n kc th td f (xBa (xTlt n f) k) (by omega) (by omega) (by omega)) (cwV 1 hts gX3_flattest_X3_tiltOn rfl rfl rfl hdv_X3_tiltOn ⟨(Nat.le_of_ble_eq_true rfl), (Nat.le_of_ble_eq_true rfl)⟩) hK hP [0, 1] rfl rfl rfl rfl hl.1 rfl (Nat.le_of_ble_eq_true rfl) dX3_flattest_22 ⟨(Nat.le_of_ble_eq_true rfl), (Nat.le_of_ble_eq_true rfl)⟩ rfl ?_
      refine va_mabs hx hb (hml.trans hl.1.symm) hown (hts _ wdX3_flattest_m77a) (hts _ wdX3_flattest_m77b) (hts _ wdX3_flattest_m77c) (hts _ wdX3_flattest_m77d) (Nat.le_of_ble_eq_true rfl) (Nat.le_of_ble_eq_true rfl) (Nat.le_of_ble_eq_true rfl) (Nat.le_of_ble_eq_true rfl) dX3_flattest_25 ?_
      refine lv_icmp_ge (tgt := 33) hx hb dX3_flattest_28 (by decide) (fun c28 => ?_) (fun c28 => ?_)
      · rw [← xBa_f (G := xTlt n f) c28] at hl
        refine lv_iinc (v := nI (k + 1 + 1)) (lv' := [(2, .int (nI (k + 1 + 1))), (0, .ref m0), (1, .int (nI (xBa (xTlt n f) (k + 1))))]) hx hb dX3_flattest_33 hl (k := 2) rfl (nI_add (k + 1) 1) (by decide) rfl (fun ls hl => ?_)
        refine lv_goto (tgt := 4) hx hb dX3_flattest_36 (by decide) ?_
        exact ih4 (k + 1) (by omega) ls (lv_sub hl [1, 2, 0] rfl)
      · refine lv_iload_n hx hb dX3_flattest_31 rfl (lv_at hl 2 rfl) ?_
        refine x_top (y := nI (xBa (xTlt n f) (k + 1))) (by rw [xBa_t (G := xTlt n f) c28]) ?_
        refine lv_istore_n (lv' := [(1, .int (nI (xBa (xTlt n f) (k + 1)))), (0, .ref m0), (2, .int (nI (k + 1)))]) hx hb dX3_flattest_32 rfl hl (by decide) rfl (fun ls hl => ?_)
        refine lv_iinc (v := nI (k + 1 + 1)) (lv' := [(2, .int (nI (k + 1 + 1))), (1, .int (nI (xBa (xTlt n f) (k + 1)))), (0, .ref m0)]) hx hb dX3_flattest_33 hl (k := 2) rfl (nI_add (k + 1) 1) (by decide) rfl (fun ls hl => ?_)
        refine lv_goto (tgt := 4) hx hb dX3_flattest_36 (by decide) ?_
        exact ih4 (k + 1) (by omega) ls (lv_sub hl [2, 1, 0] rfl)
  exact loop4 (n - 1) 0 (by omega) ls (lv_sub hl [2, 1, 0] rfl)

theorem flX3_goal_20 : Cond.fieldLink RX3 20 "RingSeesawModel" "target" "[I" ∈ wsX3_goal := by decide +kernel
theorem iwX3_goal_3 : ∀ w ∈ wsX30, w ∈ wsX3_goal := by decide +kernel
set_option maxHeartbeats 4000000 in
set_option maxRecDepth 100000 in
theorem c_X3_goal (γ : xG) (l : Launch) (m0 m1 m2 m3 m4 n kc : Nat) (th td : Int32) (tg : xRow) (t p9 : Nat) (ht : t < 6) (hp : p9 < 12) : xR γ l yX3_goal wsX3_goal ({ frames := 0, cells := 0, slots := 0, locals := 0 } : Room) [.ref m0, .int (nI t), .int (nI p9)] ([xO m0 3 [.int th, .int (nI n), .int (nI kc), .int td, .ref m1, .ref m2, .ref m3, .ref m4], xA γ m3 72 tg]) (some (.int (xGt tg t p9))) := by
  refine xR.of (cc := cX3_goal) (maxL := 3) (ret := (some .int)) (by decide +kernel) rfl (Nat.le_of_ble_eq_true rfl) ?_
  intro p e s m below meth c hx hb hr hml hts hown hlocks hP hK ls hl
  generalize hargs : ([.ref m0, .int (nI t), .int (nI p9)] : List Value).toArray = args at hts ⊢
  obtain ⟨Q, hQ⟩ : ∃ Q9, Q9 = MQ below (xRQ (some (.int (xGt tg t p9)))) args s 0 0 (fun _ => False) := ⟨_, rfl⟩
  rw [← hQ]
  have hown : s.vm.findClass RX3 = some m.cls := hown
  have hl : lv_has ls 3 [(0, .ref m0), (1, .int (nI t)), (2, .int (nI p9))] := hl
  refine lv_aload_n hx hb dX3_goal_0 rfl (lv_at hl 0 rfl) ?_
  refine va_get (D := γ.1) (ci := 3) (v := .ref m3) (C := RX3) (T := TX3) (N := 8) hx hb hts iwX3_goal_3 hown hK hP 0 rfl rfl 6 (by decide) (hts _ flX3_goal_20) (fun _ h9 => h9) rfl dX3_goal_1 ?_
  refine lv_bipush (v := 12) hx hb dX3_goal_4 (by decide) ?_
  refine lv_iload_n hx hb dX3_goal_6 rfl (lv_at hl 1 rfl) ?_
  refine lv_imul hx hb dX3_goal_7 ?_
  refine x_top (y := nI (12 * t)) (pk_mul 12 t) ?_
  refine lv_iload_n hx hb dX3_goal_8 rfl (lv_at hl 2 rfl) ?_
  refine lv_iadd hx hb dX3_goal_9 ?_
  refine x_top (y := nI (12 * t + p9)) (nI_add _ _) ?_
  refine x_iald (f := tg) hx hb hK hP 1 rfl (12 * t + p9) rfl (by omega) (by omega) dX3_goal_10 ?_
  subst hQ
  exact xR_i hx hb hr hlocks dX3_goal_11 (rfl)

theorem hdv_X3_goal : yX3_goal.cls = RX3 ∧ yX3_goal.cls ≠ "java/lang/invoke/MethodHandle" ∧ yX3_goal.cls ≠ "java/lang/invoke/VarHandle" ∧ (parseMethodDescriptor yX3_goal.desc).map (fun d => d.parameters.length) = some 2 := by decide +kernel
theorem flX3_others_7 : Cond.fieldLink RX3 7 "RingSeesawModel" "n" "I" ∈ wsX3_others := by decide +kernel
theorem iwX3_others_3 : ∀ w ∈ wsX30, w ∈ wsX3_others := by decide +kernel
theorem flX3_others_13 : Cond.fieldLink RX3 13 "RingSeesawModel" "x" "[I" ∈ wsX3_others := by decide +kernel
set_option maxHeartbeats 4000000 in
set_option maxRecDepth 100000 in
theorem c_X3_others (γ : xG) (l : Launch) (m0 m1 m2 m3 m4 n kc : Nat) (th td : Int32) (f tg : xRow) (t : Nat) (hn0 : 3 ≤ n) (hn1 : n ≤ 12) (ht : t < 6) : xR γ l yX3_others wsX3_others ({ frames := 1, cells := 0, slots := 0, locals := 22 } : Room) [.ref m0, .int (nI t)] ([xO m0 3 [.int th, .int (nI n), .int (nI kc), .int td, .ref m1, .ref m2, .ref m3, .ref m4], xA γ m1 12 f, xA γ m3 72 tg]) (some (.int (nI (xCnt (xNe f (xGt tg t)) n)))) := by
  refine xR.of (cc := cX3_others) (maxL := 4) (ret := (some .int)) (by decide +kernel) rfl (Nat.le_of_ble_eq_true rfl) ?_
  intro p e s m below meth c hx hb hr hml hts hown hlocks hP hK ls hl
  generalize hargs : ([.ref m0, .int (nI t)] : List Value).toArray = args at hts ⊢
  obtain ⟨Q, hQ⟩ : ∃ Q9, Q9 = MQ below (xRQ (some (.int (nI (xCnt (xNe f (xGt tg t)) n))))) args s 0 0 (fun _ => False) := ⟨_, rfl⟩
  rw [← hQ]
  have hown : s.vm.findClass RX3 = some m.cls := hown
  have hl : lv_has ls 4 [(0, .ref m0), (1, .int (nI t))] := hl
  refine lv_iconst (v := 0) hx hb dX3_others_0 (by decide) ?_
  refine lv_istore_n (lv' := [(2, .int 0), (0, .ref m0), (1, .int (nI t))]) hx hb dX3_others_1 rfl hl (by decide) rfl (fun ls hl => ?_)
  refine lv_iconst (v := 0) hx hb dX3_others_2 (by decide) ?_
  refine lv_istore_n (lv' := [(3, .int 0), (2, .int 0), (0, .ref m0), (1, .int (nI t))]) hx hb dX3_others_3 rfl hl (by decide) rfl (fun ls hl => ?_)
  have loop4 : ∀ j : Nat, ∀ (k : Nat), k + j = n → ∀ ls : Array Slot, lv_has ls 4 [(0, .ref m0), (1, .int (nI t)), (2, .int (nI (xCnt (xNe f (xGt tg t)) k))), (3, .int (nI k))] → W p l e ({ frames := 1, cells := 0, slots := 0, locals := 22 } : Room) s m args below meth c s.heap [] 0 0 Q (F0 m 4 ls []) := by
    intro j
    induction j with
    | zero =>
      intro k hj ls hl
      refine lv_iload_n hx hb dX3_others_4 rfl (lv_at hl 3 rfl) ?_
      refine lv_aload_n hx hb dX3_others_5 rfl (lv_at hl 0 rfl) ?_
      refine va_get (D := γ.1) (ci := 3) (v := .int (nI n)) (C := RX3) (T := TX3) (N := 8) hx hb hts iwX3_others_3 hown hK hP 0 rfl rfl 1 (by decide) (hts _ flX3_others_7) (fun _ h9 => h9) rfl dX3_others_6 ?_
      refine lv_icmp_ge (tgt := 41) hx hb dX3_others_9 (by decide) (fun _ => ?_) (fun c => absurd (nI_le (a := n) (b := k) (by omega) (by omega)) c)
      refine lv_iload_n hx hb dX3_others_41 rfl (lv_at hl 2 rfl) ?_
      subst hQ
      exact xR_i hx hb hr hlocks dX3_others_42 (by rw [show k = n by omega])
    | succ j ih4 =>
      intro k hj ls hl
      refine lv_iload_n hx hb dX3_others_4 rfl (lv_at hl 3 rfl) ?_
      refine lv_aload_n hx hb dX3_others_5 rfl (lv_at hl 0 rfl) ?_
      refine va_get (D := γ.1) (ci := 3) (v := .int (nI n)) (C := RX3) (T := TX3) (N := 8) hx hb hts iwX3_others_3 hown hK hP 0 rfl rfl 1 (by decide) (hts _ flX3_others_7) (fun _ h9 => h9) rfl dX3_others_6 ?_
      refine lv_icmp_ge (tgt := 41) hx hb dX3_others_9 (by decide) (fun c => absurd c (nI_ge (a := k) (b := n) (by omega) (by omega))) (fun _ => ?_)
      refine lv_iload_n hx hb dX3_others_12 rfl (lv_at hl 2 rfl) ?_
      refine lv_aload_n hx hb dX3_others_13 rfl (lv_at hl 0 rfl) ?_
      refine va_get (D := γ.1) (ci := 3) (v := .ref m1) (C := RX3) (T := TX3) (N := 8) hx hb hts iwX3_others_3 hown hK hP 0 rfl rfl 4 (by decide) (hts _ flX3_others_13) (fun _ h9 => h9) rfl dX3_others_14 ?_
      refine lv_iload_n hx hb dX3_others_17 rfl (lv_at hl 3 rfl) ?_
      refine x_iald (f := f) hx hb hK hP 1 rfl k rfl (by omega) (by omega) dX3_others_18 ?_
      refine lv_aload_n hx hb dX3_others_19 rfl (lv_at hl 0 rfl) ?_
      refine lv_iload_n hx hb dX3_others_20 rfl (lv_at hl 1 rfl) ?_
      refine lv_iload_n hx hb dX3_others_21 rfl (lv_at hl 3 rfl) ?_
      refine xVR (q0 := 0) (ci := 3) (As := [.int (nI t), .int (nI k)]) (rest := [.int (f k), .int (nI (xCnt (xNe f (xGt tg t)) k))]) (stk := [.int (xGt tg t k), .int (f k), .int (nI (xCnt (xNe f (xGt tg t)) k))]) ⟨hx, hb, hml, hown, hts⟩ (c_X3_goal γ l m0 m1 m2 m3 m4 n kc th td tg t k (by omega) (by omega)) (cwV 2 hts gX3_others_X3_goal rfl rfl rfl hdv_X3_goal ⟨(Nat.le_of_ble_eq_true rfl), (Nat.le_of_ble_eq_true rfl)⟩) hK hP [0, 2] rfl rfl rfl rfl hl.1 rfl (Nat.le_of_ble_eq_true rfl) dX3_others_22 ⟨(Nat.le_of_ble_eq_true rfl), (Nat.le_of_ble_eq_true rfl)⟩ rfl ?_
      refine lv_icmp_ne (tgt := 32) hx hb dX3_others_25 (by decide) (fun c9 => ?_) (fun c9 => ?_)
      · refine lv_iconst (v := 1) hx hb dX3_others_32 (by decide) ?_
        refine lv_iadd hx hb dX3_others_33 ?_
        refine x_top (y := nI (xCnt (xNe f (xGt tg t)) (k + 1))) ((nI_add _ 1).trans (congrArg nI (xCnt_t (P := (xNe f (xGt tg t))) (xNe_t (g := xGt tg t) c9)).symm)) ?_
        refine lv_istore_n (lv' := [(2, .int (nI (xCnt (xNe f (xGt tg t)) (k + 1)))), (0, .ref m0), (1, .int (nI t)), (3, .int (nI k))]) hx hb dX3_others_34 rfl hl (by decide) rfl (fun ls hl => ?_)
        refine lv_iinc (v := nI (k + 1)) (lv' := [(3, .int (nI (k + 1))), (2, .int (nI (xCnt (xNe f (xGt tg t)) (k + 1)))), (0, .ref m0), (1, .int (nI t))]) hx hb dX3_others_35 hl (k := 3) rfl (nI_add k 1) (by decide) rfl (fun ls hl => ?_)
        refine lv_goto (tgt := 4) hx hb dX3_others_38 (by decide) ?_
        exact ih4 (k + 1) (by omega) ls (lv_sub hl [2, 3, 1, 0] rfl)
      · refine lv_iconst (v := 0) hx hb dX3_others_28 (by decide) ?_
        refine lv_goto (tgt := 33) hx hb dX3_others_29 (by decide) ?_
        refine lv_iadd hx hb dX3_others_33 ?_
        refine x_top (y := nI (xCnt (xNe f (xGt tg t)) (k + 1))) ((nI_add _ 0).trans (congrArg nI (xCnt_f (P := (xNe f (xGt tg t))) (xNe_f (g := xGt tg t) c9)).symm)) ?_
        refine lv_istore_n (lv' := [(2, .int (nI (xCnt (xNe f (xGt tg t)) (k + 1)))), (0, .ref m0), (1, .int (nI t)), (3, .int (nI k))]) hx hb dX3_others_34 rfl hl (by decide) rfl (fun ls hl => ?_)
        refine lv_iinc (v := nI (k + 1)) (lv' := [(3, .int (nI (k + 1))), (2, .int (nI (xCnt (xNe f (xGt tg t)) (k + 1)))), (0, .ref m0), (1, .int (nI t))]) hx hb dX3_others_35 hl (k := 3) rfl (nI_add k 1) (by decide) rfl (fun ls hl => ?_)
        refine lv_goto (tgt := 4) hx hb dX3_others_38 (by decide) ?_
        exact ih4 (k + 1) (by omega) ls (lv_sub hl [2, 3, 1, 0] rfl)
  exact loop4 n 0 (by omega) ls (lv_sub hl [2, 3, 1, 0] rfl)

theorem flX3_around_23 : Cond.fieldLink RX3 23 "RingSeesawModel" "tip" "[I" ∈ wsX3_around := by decide +kernel
theorem iwX3_around_3 : ∀ w ∈ wsX30, w ∈ wsX3_around := by decide +kernel
theorem flX3_around_7 : Cond.fieldLink RX3 7 "RingSeesawModel" "n" "I" ∈ wsX3_around := by decide +kernel
theorem flX3_around_13 : Cond.fieldLink RX3 13 "RingSeesawModel" "x" "[I" ∈ wsX3_around := by decide +kernel
set_option maxHeartbeats 4000000 in
set_option maxRecDepth 100000 in
theorem c_X3_around (γ : xG) (l : Launch) (m0 m1 m2 m3 m4 n kc : Nat) (th td : Int32) (f tg tp : xRow) (t : Nat) (c9 : Int32) (hn0 : 3 ≤ n) (hn1 : n ≤ 12) (ht : t < 6) : xM γ l yX3_around wsX3_around ({ frames := 1, cells := 0, slots := 0, locals := 22 } : Room) [.ref m0, .int (nI t), .int c9] ([xO m0 3 [.int th, .int (nI n), .int (nI kc), .int td, .ref m1, .ref m2, .ref m3, .ref m4], xA γ m1 12 f, xA γ m3 72 tg, xA γ m4 14 tp]) (fun r9 w9 => r9 = some (.int (xAr n f (xGt tg t) c9 n)) ∧ ∃ h9 : xRow, (∀ i, i ≤ n + 1 → h9 i = xAr n f (xGt tg t) c9 i) ∧ w9 = [xO m0 3 [.int th, .int (nI n), .int (nI kc), .int td, .ref m1, .ref m2, .ref m3, .ref m4], xA γ m1 12 f, xA γ m3 72 tg, xA γ m4 14 h9]) 0 0 := by
  refine xM.of (cc := cX3_around) (maxL := 4) (ret := (some .int)) (by decide +kernel) rfl (Nat.le_of_ble_eq_true rfl) ?_
  intro p e s m below meth c hx hb hr hml hts hown hlocks hin hP hK A hA hD ls hl
  have hS : va_S A s.heap s.heap [] := va_S.rf
  generalize hargs : ([.ref m0, .int (nI t), .int c9] : List Value).toArray = args at hts ⊢
  obtain ⟨Q, hQ⟩ : ∃ Q9, Q9 = MQ below (xMQ γ (List.map Prod.fst ([xO m0 3 [.int th, .int (nI n), .int (nI kc), .int td, .ref m1, .ref m2, .ref m3, .ref m4], xA γ m1 12 f, xA γ m3 72 tg, xA γ m4 14 tp])) A (fun r9 w9 => r9 = some (.int (xAr n f (xGt tg t) c9 n)) ∧ ∃ h9 : xRow, (∀ i, i ≤ n + 1 → h9 i = xAr n f (xGt tg t) c9 i) ∧ w9 = [xO m0 3 [.int th, .int (nI n), .int (nI kc), .int td, .ref m1, .ref m2, .ref m3, .ref m4], xA γ m1 12 f, xA γ m3 72 tg, xA γ m4 14 h9])) args s 0 0 A := ⟨_, rfl⟩
  rw [← hQ]
  have hown : s.vm.findClass RX3 = some m.cls := hown
  have hl : lv_has ls 4 [(0, .ref m0), (1, .int (nI t)), (2, .int c9)] := hl
  refine lv_aload_n hx hb dX3_around_0 rfl (lv_at hl 0 rfl) ?_
  refine va_get (D := γ.1) (ci := 3) (v := .ref m4) (C := RX3) (T := TX3) (N := 8) hx hb hts iwX3_around_3 hown hK hP 0 rfl rfl 7 (by decide) (hts _ flX3_around_23) (fun _ h9 => h9) rfl dX3_around_1 ?_
  refine lv_iconst (v := 0) hx hb dX3_around_4 (by decide) ?_
  refine lv_iconst (v := 0) hx hb dX3_around_5 (by decide) ?_
  refine x_iast (f := tp) hx hb hK hP hD hS 3 rfl 0 rfl (by omega) (by omega) dX3_around_6 (fun H locs hP hD hS => ?_)
  have hP : xP γ ([xO m0 3 [.int th, .int (nI n), .int (nI kc), .int td, .ref m1, .ref m2, .ref m3, .ref m4], xA γ m1 12 f, xA γ m3 72 tg, xA γ m4 14 (upd tp 0 0)]) H := hP
  have hD : va_D A ([xO m0 3 [.int th, .int (nI n), .int (nI kc), .int td, .ref m1, .ref m2, .ref m3, .ref m4], xA γ m1 12 f, xA γ m3 72 tg, xA γ m4 14 (upd tp 0 0)]) := hD
  refine lv_aload_n hx hb dX3_around_7 rfl (lv_at hl 0 rfl) ?_
  refine va_get (D := γ.1) (ci := 3) (v := .ref m4) (C := RX3) (T := TX3) (N := 8) hx hb hts iwX3_around_3 hown hK hP 0 rfl rfl 7 (by decide) (hts _ flX3_around_23) (fun _ h9 => h9) rfl dX3_around_8 ?_
  refine lv_iconst (v := 1) hx hb dX3_around_11 (by decide) ?_
  refine lv_iload_n hx hb dX3_around_12 rfl (lv_at hl 2 rfl) ?_
  refine x_iast (f := upd tp 0 0) hx hb hK hP hD hS 3 rfl 1 rfl (by omega) (by omega) dX3_around_13 (fun H locs hP hD hS => ?_)
  have hP : xP γ ([xO m0 3 [.int th, .int (nI n), .int (nI kc), .int td, .ref m1, .ref m2, .ref m3, .ref m4], xA γ m1 12 f, xA γ m3 72 tg, xA γ m4 14 (upd (upd tp 0 0) 1 c9)]) H := hP
  have hD : va_D A ([xO m0 3 [.int th, .int (nI n), .int (nI kc), .int td, .ref m1, .ref m2, .ref m3, .ref m4], xA γ m1 12 f, xA γ m3 72 tg, xA γ m4 14 (upd (upd tp 0 0) 1 c9)]) := hD
  refine lv_iconst (v := 1) hx hb dX3_around_14 (by decide) ?_
  refine lv_istore_n (lv' := [(3, .int 1), (0, .ref m0), (1, .int (nI t)), (2, .int c9)]) hx hb dX3_around_15 rfl hl (by decide) rfl (fun ls hl => ?_)
  have loop16 : ∀ j : Nat, ∀ (k : Nat) (h8 : xRow), k + j = n → (∀ i, i ≤ k + 1 → h8 i = xAr n f (xGt tg t) c9 i) → ∀ (H : Heap) (locs : List Loc), xP γ ([xO m0 3 [.int th, .int (nI n), .int (nI kc), .int td, .ref m1, .ref m2, .ref m3, .ref m4], xA γ m1 12 f, xA γ m3 72 tg, xA γ m4 14 h8]) H → va_D A ([xO m0 3 [.int th, .int (nI n), .int (nI kc), .int td, .ref m1, .ref m2, .ref m3, .ref m4], xA γ m1 12 f, xA γ m3 72 tg, xA γ m4 14 h8]) → va_S A s.heap H locs → ∀ ls : Array Slot, lv_has ls 4 [(0, .ref m0), (1, .int (nI t)), (2, .int c9), (3, .int (nI (k + 1)))] → W p l e ({ frames := 1, cells := 0, slots := 0, locals := 22 } : Room) s m args below meth c H locs 0 0 Q (F0 m 16 ls []) := by
    intro j
    induction j with
    | zero =>
      intro k h8 hj hh H locs hP hD hS ls hl
      refine lv_iload_n hx hb dX3_around_16 rfl (lv_at hl 3 rfl) ?_
      refine lv_aload_n hx hb dX3_around_17 rfl (lv_at hl 0 rfl) ?_
      refine va_get (D := γ.1) (ci := 3) (v := .int (nI n)) (C := RX3) (T := TX3) (N := 8) hx hb hts iwX3_around_3 hown hK hP 0 rfl rfl 1 (by decide) (hts _ flX3_around_7) (fun _ h9 => h9) rfl dX3_around_18 ?_
      refine lv_icmp_gt (tgt := 79) hx hb dX3_around_21 (by decide) (fun _ => ?_) (fun c => absurd (nI_lt (a := n) (b := k + 1) (by omega) (by omega)) c)
      refine lv_aload_n hx hb dX3_around_79 rfl (lv_at hl 0 rfl) ?_
      refine va_get (D := γ.1) (ci := 3) (v := .ref m4) (C := RX3) (T := TX3) (N := 8) hx hb hts iwX3_around_3 hown hK hP 0 rfl rfl 7 (by decide) (hts _ flX3_around_23) (fun _ h9 => h9) rfl dX3_around_80 ?_
      refine lv_aload_n hx hb dX3_around_83 rfl (lv_at hl 0 rfl) ?_
      refine va_get (D := γ.1) (ci := 3) (v := .int (nI n)) (C := RX3) (T := TX3) (N := 8) hx hb hts iwX3_around_3 hown hK hP 0 rfl rfl 1 (by decide) (hts _ flX3_around_7) (fun _ h9 => h9) rfl dX3_around_84 ?_
      refine x_iald (f := h8) hx hb hK hP 3 rfl n rfl (by omega) (by omega) dX3_around_87 ?_
      refine x_top (y := xAr n f (xGt tg t) c9 n) (hh n (by omega)) ?_
      subst hQ
      exact xM_i hx hb hr hlocks dX3_around_88 hP rfl hS (Nat.le_of_ble_eq_true rfl) (Nat.le_of_ble_eq_true rfl) (⟨rfl, h8, fun i hi => hh i (by omega), rfl⟩)
    | succ j ih16 =>
      intro k h8 hj hh H locs hP hD hS ls hl
      refine lv_iload_n hx hb dX3_around_16 rfl (lv_at hl 3 rfl) ?_
      refine lv_aload_n hx hb dX3_around_17 rfl (lv_at hl 0 rfl) ?_
      refine va_get (D := γ.1) (ci := 3) (v := .int (nI n)) (C := RX3) (T := TX3) (N := 8) hx hb hts iwX3_around_3 hown hK hP 0 rfl rfl 1 (by decide) (hts _ flX3_around_7) (fun _ h9 => h9) rfl dX3_around_18 ?_
      refine lv_icmp_gt (tgt := 79) hx hb dX3_around_21 (by decide) (fun c => absurd c (nI_nlt (a := n) (b := k + 1) (by omega) (by omega))) (fun _ => ?_)
      have hm := Nat.mod_lt (k + 1) (show 0 < n by omega)
      refine lv_aload_n hx hb dX3_around_24 rfl (lv_at hl 0 rfl) ?_
      refine va_get (D := γ.1) (ci := 3) (v := .ref m4) (C := RX3) (T := TX3) (N := 8) hx hb hts iwX3_around_3 hown hK hP 0 rfl rfl 7 (by decide) (hts _ flX3_around_23) (fun _ h9 => h9) rfl dX3_around_25 ?_
      refine lv_iload_n hx hb dX3_around_28 rfl (lv_at hl 3 rfl) ?_
      refine lv_iconst (v := 1) hx hb dX3_around_29 (by decide) ?_
      refine lv_iadd hx hb dX3_around_30 ?_
      refine x_top (y := nI (k + 2)) (nI_1 _) ?_
      refine lv_iconst (v := 2) hx hb dX3_around_31 (by decide) ?_
      refine lv_aload_n hx hb dX3_around_32 rfl (lv_at hl 0 rfl) ?_
      refine va_get (D := γ.1) (ci := 3) (v := .ref m4) (C := RX3) (T := TX3) (N := 8) hx hb hts iwX3_around_3 hown hK hP 0 rfl rfl 7 (by decide) (hts _ flX3_around_23) (fun _ h9 => h9) rfl dX3_around_33 ?_
      refine lv_iload_n hx hb dX3_around_36 rfl (lv_at hl 3 rfl) ?_
      refine x_iald (f := h8) hx hb hK hP 3 rfl (k + 1) rfl (by omega) (by omega) dX3_around_37 ?_
      refine x_top (y := xAr n f (xGt tg t) c9 (k + 1)) (hh (k + 1) (by omega)) ?_
      refine lv_imul hx hb dX3_around_38 ?_
      refine lv_aload_n hx hb dX3_around_39 rfl (lv_at hl 0 rfl) ?_
      refine va_get (D := γ.1) (ci := 3) (v := .ref m4) (C := RX3) (T := TX3) (N := 8) hx hb hts iwX3_around_3 hown hK hP 0 rfl rfl 7 (by decide) (hts _ flX3_around_23) (fun _ h9 => h9) rfl dX3_around_40 ?_
      refine lv_iload_n hx hb dX3_around_43 rfl (lv_at hl 3 rfl) ?_
      refine lv_iconst (v := 1) hx hb dX3_around_44 (by decide) ?_
      refine lv_isub hx hb dX3_around_45 ?_
      refine x_top (y := nI k) (nI_pred k) ?_
      refine x_iald (f := h8) hx hb hK hP 3 rfl k rfl (by omega) (by omega) dX3_around_46 ?_
      refine x_top (y := xAr n f (xGt tg t) c9 k) (hh k (by omega)) ?_
      refine lv_isub hx hb dX3_around_47 ?_
      refine lv_aload_n hx hb dX3_around_48 rfl (lv_at hl 0 rfl) ?_
      refine va_get (D := γ.1) (ci := 3) (v := .ref m1) (C := RX3) (T := TX3) (N := 8) hx hb hts iwX3_around_3 hown hK hP 0 rfl rfl 4 (by decide) (hts _ flX3_around_13) (fun _ h9 => h9) rfl dX3_around_49 ?_
      refine lv_iload_n hx hb dX3_around_52 rfl (lv_at hl 3 rfl) ?_
      refine lv_aload_n hx hb dX3_around_53 rfl (lv_at hl 0 rfl) ?_
      refine va_get (D := γ.1) (ci := 3) (v := .int (nI n)) (C := RX3) (T := TX3) (N := 8) hx hb hts iwX3_around_3 hown hK hP 0 rfl rfl 1 (by decide) (hts _ flX3_around_7) (fun _ h9 => h9) rfl dX3_around_54 ?_
      refine lv_irem hx hb dX3_around_57 (nI_ne0 (by omega) (by omega)) ?_
      refine x_top (y := nI ((k + 1) % n)) (pk_rem (a := k + 1) (d := n) (by omega) (by omega) (by omega)) ?_
      refine x_iald (f := f) hx hb hK hP 1 rfl ((k + 1) % n) rfl (by omega) (by omega) dX3_around_58 ?_
      refine lv_aload_n hx hb dX3_around_59 rfl (lv_at hl 0 rfl) ?_
      refine lv_iload_n hx hb dX3_around_60 rfl (lv_at hl 1 rfl) ?_
      refine lv_iload_n hx hb dX3_around_61 rfl (lv_at hl 3 rfl) ?_
      refine lv_aload_n hx hb dX3_around_62 rfl (lv_at hl 0 rfl) ?_
      refine va_get (D := γ.1) (ci := 3) (v := .int (nI n)) (C := RX3) (T := TX3) (N := 8) hx hb hts iwX3_around_3 hown hK hP 0 rfl rfl 1 (by decide) (hts _ flX3_around_7) (fun _ h9 => h9) rfl dX3_around_63 ?_
      refine lv_irem hx hb dX3_around_66 (nI_ne0 (by omega) (by omega)) ?_
      refine x_top (y := nI ((k + 1) % n)) (pk_rem (a := k + 1) (d := n) (by omega) (by omega) (by omega)) ?_
      refine xVR (q0 := 0) (ci := 3) (As := [.int (nI t), .int (nI ((k + 1) % n))]) (rest := [.int (f ((k + 1) % n)), .int ((2 * (xAr n f (xGt tg t) c9 (k + 1))) - (xAr n f (xGt tg t) c9 k)), .int (nI (k + 2)), .ref m4]) (stk := [.int (xGt tg t ((k + 1) % n)), .int (f ((k + 1) % n)), .int ((2 * (xAr n f (xGt tg t) c9 (k + 1))) - (xAr n f (xGt tg t) c9 k)), .int (nI (k + 2)), .ref m4]) ⟨hx, hb, hml, hown, hts⟩ (c_X3_goal γ l m0 m1 m2 m3 m4 n kc th td tg t ((k + 1) % n) (by omega) (by omega)) (cwV 2 hts gX3_around_X3_goal rfl rfl rfl hdv_X3_goal ⟨(Nat.le_of_ble_eq_true rfl), (Nat.le_of_ble_eq_true rfl)⟩) hK hP [0, 2] rfl rfl rfl rfl hl.1 rfl (Nat.le_of_ble_eq_true rfl) dX3_around_67 ⟨(Nat.le_of_ble_eq_true rfl), (Nat.le_of_ble_eq_true rfl)⟩ rfl ?_
      refine lv_isub hx hb dX3_around_70 ?_
      refine lv_isub hx hb dX3_around_71 ?_
      refine x_top (y := xAr n f (xGt tg t) c9 (k + 2)) (rfl) ?_
      refine x_iast (f := h8) hx hb hK hP hD hS 3 rfl (k + 2) rfl (by omega) (by omega) dX3_around_72 (fun H locs hP hD hS => ?_)
      have hP : xP γ ([xO m0 3 [.int th, .int (nI n), .int (nI kc), .int td, .ref m1, .ref m2, .ref m3, .ref m4], xA γ m1 12 f, xA γ m3 72 tg, xA γ m4 14 (upd h8 (k + 2) (xAr n f (xGt tg t) c9 (k + 2)))]) H := hP
      have hD : va_D A ([xO m0 3 [.int th, .int (nI n), .int (nI kc), .int td, .ref m1, .ref m2, .ref m3, .ref m4], xA γ m1 12 f, xA γ m3 72 tg, xA γ m4 14 (upd h8 (k + 2) (xAr n f (xGt tg t) c9 (k + 2)))]) := hD
      refine lv_iinc (v := nI (k + 1 + 1)) (lv' := [(3, .int (nI (k + 1 + 1))), (0, .ref m0), (1, .int (nI t)), (2, .int c9)]) hx hb dX3_around_73 hl (k := 3) rfl (nI_add (k + 1) 1) (by decide) rfl (fun ls hl => ?_)
      refine lv_goto (tgt := 16) hx hb dX3_around_76 (by decide) ?_
      exact ih16 (k + 1) (upd h8 (k + 2) (xAr n f (xGt tg t) c9 (k + 2))) (by omega) (fun i hi => by unfold upd; split; (rename_i e; rw [e]); exact hh i (by omega)) _ _ hP hD hS ls (lv_sub hl [1, 2, 3, 0] rfl)
  exact loop16 n 0 (upd (upd tp 0 0) 1 c9) (by omega) (fun i hi => by rcases (show i = 0 ∨ i = 1 by omega) with e | e <;> subst e <;> rfl) _ _ hP hD hS ls (lv_sub hl [1, 2, 3, 0] rfl)

theorem hdv_X3_around : yX3_around.cls = RX3 ∧ yX3_around.cls ≠ "java/lang/invoke/MethodHandle" ∧ yX3_around.cls ≠ "java/lang/invoke/VarHandle" ∧ (parseMethodDescriptor yX3_around.desc).map (fun d => d.parameters.length) = some 2 := by decide +kernel
theorem flX3_solves_7 : Cond.fieldLink RX3 7 "RingSeesawModel" "n" "I" ∈ wsX3_solves := by decide +kernel
theorem iwX3_solves_3 : ∀ w ∈ wsX30, w ∈ wsX3_solves := by decide +kernel
theorem flX3_solves_23 : Cond.fieldLink RX3 23 "RingSeesawModel" "tip" "[I" ∈ wsX3_solves := by decide +kernel
set_option maxHeartbeats 4000000 in
set_option maxRecDepth 100000 in
theorem c_X3_solves (γ : xG) (l : Launch) (m0 m1 m2 m3 m4 n kc : Nat) (th td : Int32) (f tg tp : xRow) (t : Nat) (hn0 : 3 ≤ n) (hn1 : n ≤ 12) (ht : t < 6) : xM γ l yX3_solves wsX3_solves ({ frames := 2, cells := 0, slots := 0, locals := 45 } : Room) [.ref m0, .int (nI t)] ([xO m0 3 [.int th, .int (nI n), .int (nI kc), .int td, .ref m1, .ref m2, .ref m3, .ref m4], xA γ m1 12 f, xA γ m3 72 tg, xA γ m4 14 tp]) (fun r9 w9 => r9 = some (.int (if xSv n f (xGt tg t) = true then 1 else 0)) ∧ ∃ h9 : xRow, (xSv n f (xGt tg t) = true → ∀ i, i ≤ n + 1 → h9 i = xAr n f (xGt tg t) (xFst1 n f (xGt tg t)) i) ∧ w9 = [xO m0 3 [.int th, .int (nI n), .int (nI kc), .int td, .ref m1, .ref m2, .ref m3, .ref m4], xA γ m1 12 f, xA γ m3 72 tg, xA γ m4 14 h9]) 0 0 := by
  refine xM.of (cc := cX3_solves) (maxL := 4) (ret := (some .boolean)) (by decide +kernel) rfl (Nat.le_of_ble_eq_true rfl) ?_
  intro p e s m below meth c hx hb hr hml hts hown hlocks hin hP hK A hA hD ls hl
  have hS : va_S A s.heap s.heap [] := va_S.rf
  generalize hargs : ([.ref m0, .int (nI t)] : List Value).toArray = args at hts ⊢
  obtain ⟨Q, hQ⟩ : ∃ Q9, Q9 = MQ below (xMQ γ (List.map Prod.fst ([xO m0 3 [.int th, .int (nI n), .int (nI kc), .int td, .ref m1, .ref m2, .ref m3, .ref m4], xA γ m1 12 f, xA γ m3 72 tg, xA γ m4 14 tp])) A (fun r9 w9 => r9 = some (.int (if xSv n f (xGt tg t) = true then 1 else 0)) ∧ ∃ h9 : xRow, (xSv n f (xGt tg t) = true → ∀ i, i ≤ n + 1 → h9 i = xAr n f (xGt tg t) (xFst1 n f (xGt tg t)) i) ∧ w9 = [xO m0 3 [.int th, .int (nI n), .int (nI kc), .int td, .ref m1, .ref m2, .ref m3, .ref m4], xA γ m1 12 f, xA γ m3 72 tg, xA γ m4 14 h9])) args s 0 0 A := ⟨_, rfl⟩
  rw [← hQ]
  have hown : s.vm.findClass RX3 = some m.cls := hown
  have hl : lv_has ls 4 [(0, .ref m0), (1, .int (nI t))] := hl
  refine lv_aload_n hx hb dX3_solves_0 rfl (lv_at hl 0 rfl) ?_
  refine lv_iload_n hx hb dX3_solves_1 rfl (lv_at hl 1 rfl) ?_
  refine lv_iconst (v := 0) hx hb dX3_solves_2 (by decide) ?_
  refine xVM (q0 := 0) (ci := 3) (As := [.int (nI t), .int 0]) (rest := []) ⟨hx, hb, hml, hown, hts⟩ (c_X3_around γ l m0 m1 m2 m3 m4 n kc th td f tg tp t 0 (by omega) (by omega) (by omega)) (cwV 2 hts gX3_solves_X3_around rfl rfl rfl hdv_X3_around ⟨(Nat.le_of_ble_eq_true rfl), (Nat.le_of_ble_eq_true rfl)⟩) hK hP hD hS hA [0, 1, 2, 3] rfl rfl rfl rfl rfl hl.1 rfl (Nat.le_of_ble_eq_true rfl) dX3_solves_3 ⟨(Nat.le_of_ble_eq_true rfl), (Nat.le_of_ble_eq_true rfl)⟩ (fun r9 w9 H locs hw hP hD hS => ?_)
  obtain ⟨rfl, h43x, eh43x, rfl⟩ := hw
  have hP : xP γ ([xO m0 3 [.int th, .int (nI n), .int (nI kc), .int td, .ref m1, .ref m2, .ref m3, .ref m4], xA γ m1 12 f, xA γ m3 72 tg, xA γ m4 14 h43x]) H := hP
  have hD : va_D A ([xO m0 3 [.int th, .int (nI n), .int (nI kc), .int td, .ref m1, .ref m2, .ref m3, .ref m4], xA γ m1 12 f, xA γ m3 72 tg, xA γ m4 14 h43x]) := hD
  refine W.eq (g2 := F0 m 6 ls [.int (xAr n f (xGt tg t) 0 n)]) rfl ?_
  refine lv_istore_n (lv' := [(2, .int (xAr n f (xGt tg t) 0 n)), (0, .ref m0), (1, .int (nI t))]) hx hb dX3_solves_6 rfl hl (by decide) rfl (fun ls hl => ?_)
  refine lv_iload_n hx hb dX3_solves_7 rfl (lv_at hl 0 rfl) ?_
  refine lv_aload_n hx hb dX3_solves_8 rfl (lv_at hl 1 rfl) ?_
  refine va_get (D := γ.1) (ci := 3) (v := .int (nI n)) (C := RX3) (T := TX3) (N := 8) hx hb hts iwX3_solves_3 hown hK hP 0 rfl rfl 1 (by decide) (hts _ flX3_solves_7) (fun _ h9 => h9) rfl dX3_solves_9 ?_
  refine lv_irem hx hb dX3_solves_12 (nI_ne0 (by omega) (by omega)) ?_
  refine lv_if_eq (tgt := 18) hx hb dX3_solves_13 (by decide) (fun c13 => ?_) (fun c13 => ?_)
  · have c13 : xOff n f (xGt tg t) - xOff n f (xGt tg t) / nI n * nI n = 0 := c13
    refine lv_iload_n hx hb dX3_solves_18 rfl (lv_at hl 0 rfl) ?_
    refine lv_ineg hx hb dX3_solves_19 ?_
    refine lv_aload_n hx hb dX3_solves_20 rfl (lv_at hl 1 rfl) ?_
    refine va_get (D := γ.1) (ci := 3) (v := .int (nI n)) (C := RX3) (T := TX3) (N := 8) hx hb hts iwX3_solves_3 hown hK hP 0 rfl rfl 1 (by decide) (hts _ flX3_solves_7) (fun _ h9 => h9) rfl dX3_solves_21 ?_
    refine lv_idiv hx hb dX3_solves_24 (nI_ne0 (by omega) (by omega)) ?_
    refine x_top (y := xFst1 n f (xGt tg t)) (rfl) ?_
    refine lv_istore_n (lv' := [(3, .int (xFst1 n f (xGt tg t))), (2, .int (xAr n f (xGt tg t) 0 n)), (0, .ref m0), (1, .int (nI t))]) hx hb dX3_solves_25 rfl hl (by decide) rfl (fun ls hl => ?_)
    refine lv_aload_n hx hb dX3_solves_26 rfl (lv_at hl 2 rfl) ?_
    refine lv_iload_n hx hb dX3_solves_27 rfl (lv_at hl 3 rfl) ?_
    refine lv_iload_n hx hb dX3_solves_28 rfl (lv_at hl 0 rfl) ?_
    refine xVM (q0 := 0) (ci := 3) (As := [.int (nI t), .int (xFst1 n f (xGt tg t))]) (rest := []) ⟨hx, hb, hml, hown, hts⟩ (c_X3_around γ l m0 m1 m2 m3 m4 n kc th td f tg h43x t (xFst1 n f (xGt tg t)) (by omega) (by omega) (by omega)) (cwV 2 hts gX3_solves_X3_around rfl rfl rfl hdv_X3_around ⟨(Nat.le_of_ble_eq_true rfl), (Nat.le_of_ble_eq_true rfl)⟩) hK hP hD hS hA [0, 1, 2, 3] rfl rfl rfl rfl rfl hl.1 rfl (Nat.le_of_ble_eq_true rfl) dX3_solves_29 ⟨(Nat.le_of_ble_eq_true rfl), (Nat.le_of_ble_eq_true rfl)⟩ (fun r9 w9 H locs hw hP hD hS => ?_)
    obtain ⟨rfl, h44x, eh44x, rfl⟩ := hw
    have hP : xP γ ([xO m0 3 [.int th, .int (nI n), .int (nI kc), .int td, .ref m1, .ref m2, .ref m3, .ref m4], xA γ m1 12 f, xA γ m3 72 tg, xA γ m4 14 h44x]) H := hP
    have hD : va_D A ([xO m0 3 [.int th, .int (nI n), .int (nI kc), .int td, .ref m1, .ref m2, .ref m3, .ref m4], xA γ m1 12 f, xA γ m3 72 tg, xA γ m4 14 h44x]) := hD
    refine W.eq (g2 := F0 m 32 ls [.int (xAr n f (xGt tg t) (xFst1 n f (xGt tg t)) n)]) rfl ?_
    refine lv_if_ne (tgt := 54) hx hb dX3_solves_32 (by decide) (fun c32 => ?_) (fun c32 => ?_)
    · refine lv_iconst (v := 0) hx hb dX3_solves_54 (by decide) ?_
      subst hQ
      exact xM_z hx hb hr hlocks dX3_solves_55 (Or.inl rfl) hP rfl hS (Nat.le_of_ble_eq_true rfl) (Nat.le_of_ble_eq_true rfl) (⟨congrArg (fun z9 => some (Value.int z9)) (xB_0 (xSv_1 c32)), h44x, (fun h9 => nomatch (xSv_1 c32).symm.trans h9), rfl⟩)
    · refine lv_aload_n hx hb dX3_solves_35 rfl (lv_at hl 2 rfl) ?_
      refine va_get (D := γ.1) (ci := 3) (v := .ref m4) (C := RX3) (T := TX3) (N := 8) hx hb hts iwX3_solves_3 hown hK hP 0 rfl rfl 7 (by decide) (hts _ flX3_solves_23) (fun _ h9 => h9) rfl dX3_solves_36 ?_
      refine lv_aload_n hx hb dX3_solves_39 rfl (lv_at hl 2 rfl) ?_
      refine va_get (D := γ.1) (ci := 3) (v := .int (nI n)) (C := RX3) (T := TX3) (N := 8) hx hb hts iwX3_solves_3 hown hK hP 0 rfl rfl 1 (by decide) (hts _ flX3_solves_7) (fun _ h9 => h9) rfl dX3_solves_40 ?_
      refine lv_iconst (v := 1) hx hb dX3_solves_43 (by decide) ?_
      refine lv_iadd hx hb dX3_solves_44 ?_
      refine x_top (y := nI (n + 1)) (nI_1 _) ?_
      refine x_iald (f := h44x) hx hb hK hP 3 rfl (n + 1) rfl (by omega) (by omega) dX3_solves_45 ?_
      refine x_top (y := xAr n f (xGt tg t) (xFst1 n f (xGt tg t)) (n + 1)) (eh44x (n + 1) (by omega)) ?_
      refine lv_iload_n hx hb dX3_solves_46 rfl (lv_at hl 0 rfl) ?_
      refine lv_icmp_ne (tgt := 54) hx hb dX3_solves_47 (by decide) (fun c47 => ?_) (fun c47 => ?_)
      · refine lv_iconst (v := 0) hx hb dX3_solves_54 (by decide) ?_
        subst hQ
        exact xM_z hx hb hr hlocks dX3_solves_55 (Or.inl rfl) hP rfl hS (Nat.le_of_ble_eq_true rfl) (Nat.le_of_ble_eq_true rfl) (⟨congrArg (fun z9 => some (Value.int z9)) (xB_0 (xSv_2 c47)), h44x, (fun h9 => nomatch (xSv_2 c47).symm.trans h9), rfl⟩)
      · refine lv_iconst (v := 1) hx hb dX3_solves_50 (by decide) ?_
        refine lv_goto (tgt := 55) hx hb dX3_solves_51 (by decide) ?_
        subst hQ
        exact xM_z hx hb hr hlocks dX3_solves_55 (Or.inr rfl) hP rfl hS (Nat.le_of_ble_eq_true rfl) (Nat.le_of_ble_eq_true rfl) (⟨congrArg (fun z9 => some (Value.int z9)) (xB_1 (xSv_3 c13 c32 c47)), h44x, (fun _ => eh44x), rfl⟩)
  · have c13 : ¬ xOff n f (xGt tg t) - xOff n f (xGt tg t) / nI n * nI n = 0 := c13
    refine lv_iconst (v := 0) hx hb dX3_solves_16 (by decide) ?_
    subst hQ
    exact xM_z hx hb hr hlocks dX3_solves_17 (Or.inl rfl) hP rfl hS (Nat.le_of_ble_eq_true rfl) (Nat.le_of_ble_eq_true rfl) (⟨congrArg (fun z9 => some (Value.int z9)) (xB_0 (xSv_0 c13)), h43x, (fun h9 => nomatch (xSv_0 c13).symm.trans h9), rfl⟩)

theorem hdv_X3_solves : yX3_solves.cls = RX3 ∧ yX3_solves.cls ≠ "java/lang/invoke/MethodHandle" ∧ yX3_solves.cls ≠ "java/lang/invoke/VarHandle" ∧ (parseMethodDescriptor yX3_solves.desc).map (fun d => d.parameters.length) = some 1 := by decide +kernel
theorem flX3_manySolved_33 : Cond.fieldLink RX3 33 "RingSeesawModel" "targets" "I" ∈ wsX3_manySolved := by decide +kernel
theorem iwX3_manySolved_3 : ∀ w ∈ wsX30, w ∈ wsX3_manySolved := by decide +kernel
set_option maxHeartbeats 4000000 in
set_option maxRecDepth 100000 in
theorem c_X3_manySolved (γ : xG) (l : Launch) (m0 m1 m2 m3 m4 n kc : Nat) (th td : Int32) (f tg tp : xRow) (hn0 : 3 ≤ n) (hn1 : n ≤ 12) (hkc : kc ≤ 6) : xM γ l yX3_manySolved wsX3_manySolved ({ frames := 3, cells := 0, slots := 0, locals := 68 } : Room) [.ref m0] ([xO m0 3 [.int th, .int (nI n), .int (nI kc), .int td, .ref m1, .ref m2, .ref m3, .ref m4], xA γ m1 12 f, xA γ m3 72 tg, xA γ m4 14 tp]) (fun r9 w9 => r9 = some (.int (nI (xCnt (fun t9 => xSv n f (xGt tg t9)) kc))) ∧ ∃ h9 : xRow, w9 = [xO m0 3 [.int th, .int (nI n), .int (nI kc), .int td, .ref m1, .ref m2, .ref m3, .ref m4], xA γ m1 12 f, xA γ m3 72 tg, xA γ m4 14 h9]) 0 0 := by
  refine xM.of (cc := cX3_manySolved) (maxL := 3) (ret := (some .int)) (by decide +kernel) rfl (Nat.le_of_ble_eq_true rfl) ?_
  intro p e s m below meth c hx hb hr hml hts hown hlocks hin hP hK A hA hD ls hl
  have hS : va_S A s.heap s.heap [] := va_S.rf
  generalize hargs : ([.ref m0] : List Value).toArray = args at hts ⊢
  obtain ⟨Q, hQ⟩ : ∃ Q9, Q9 = MQ below (xMQ γ (List.map Prod.fst ([xO m0 3 [.int th, .int (nI n), .int (nI kc), .int td, .ref m1, .ref m2, .ref m3, .ref m4], xA γ m1 12 f, xA γ m3 72 tg, xA γ m4 14 tp])) A (fun r9 w9 => r9 = some (.int (nI (xCnt (fun t9 => xSv n f (xGt tg t9)) kc))) ∧ ∃ h9 : xRow, w9 = [xO m0 3 [.int th, .int (nI n), .int (nI kc), .int td, .ref m1, .ref m2, .ref m3, .ref m4], xA γ m1 12 f, xA γ m3 72 tg, xA γ m4 14 h9])) args s 0 0 A := ⟨_, rfl⟩
  rw [← hQ]
  have hown : s.vm.findClass RX3 = some m.cls := hown
  have hl : lv_has ls 3 [(0, .ref m0)] := hl
  refine lv_iconst (v := 0) hx hb dX3_manySolved_0 (by decide) ?_
  refine lv_istore_n (lv' := [(1, .int 0), (0, .ref m0)]) hx hb dX3_manySolved_1 rfl hl (by decide) rfl (fun ls hl => ?_)
  refine lv_iconst (v := 0) hx hb dX3_manySolved_2 (by decide) ?_
  refine lv_istore_n (lv' := [(2, .int 0), (1, .int 0), (0, .ref m0)]) hx hb dX3_manySolved_3 rfl hl (by decide) rfl (fun ls hl => ?_)
  have loop4 : ∀ j : Nat, ∀ (k : Nat) (tp : xRow), k + j = kc → ∀ (H : Heap) (locs : List Loc), xP γ ([xO m0 3 [.int th, .int (nI n), .int (nI kc), .int td, .ref m1, .ref m2, .ref m3, .ref m4], xA γ m1 12 f, xA γ m3 72 tg, xA γ m4 14 tp]) H → va_D A ([xO m0 3 [.int th, .int (nI n), .int (nI kc), .int td, .ref m1, .ref m2, .ref m3, .ref m4], xA γ m1 12 f, xA γ m3 72 tg, xA γ m4 14 tp]) → va_S A s.heap H locs → ∀ ls : Array Slot, lv_has ls 3 [(0, .ref m0), (1, .int (nI (xCnt (fun t9 => xSv n f (xGt tg t9)) k))), (2, .int (nI k))] → W p l e ({ frames := 3, cells := 0, slots := 0, locals := 68 } : Room) s m args below meth c H locs 0 0 Q (F0 m 4 ls []) := by
    intro j
    induction j with
    | zero =>
      intro k tp hj H locs hP hD hS ls hl
      refine lv_iload_n hx hb dX3_manySolved_4 rfl (lv_at hl 2 rfl) ?_
      refine lv_aload_n hx hb dX3_manySolved_5 rfl (lv_at hl 0 rfl) ?_
      refine va_get (D := γ.1) (ci := 3) (v := .int (nI kc)) (C := RX3) (T := TX3) (N := 8) hx hb hts iwX3_manySolved_3 hown hK hP 0 rfl rfl 2 (by decide) (hts _ flX3_manySolved_33) (fun _ h9 => h9) rfl dX3_manySolved_6 ?_
      refine lv_icmp_ge (tgt := 34) hx hb dX3_manySolved_9 (by decide) (fun _ => ?_) (fun c => absurd (nI_le (a := kc) (b := k) (by omega) (by omega)) c)
      refine lv_iload_n hx hb dX3_manySolved_34 rfl (lv_at hl 1 rfl) ?_
      subst hQ
      exact xM_i hx hb hr hlocks dX3_manySolved_35 hP rfl hS (Nat.le_of_ble_eq_true rfl) (Nat.le_of_ble_eq_true rfl) (⟨by rw [show k = kc by omega], _, rfl⟩)
    | succ j ih4 =>
      intro k tp hj H locs hP hD hS ls hl
      refine lv_iload_n hx hb dX3_manySolved_4 rfl (lv_at hl 2 rfl) ?_
      refine lv_aload_n hx hb dX3_manySolved_5 rfl (lv_at hl 0 rfl) ?_
      refine va_get (D := γ.1) (ci := 3) (v := .int (nI kc)) (C := RX3) (T := TX3) (N := 8) hx hb hts iwX3_manySolved_3 hown hK hP 0 rfl rfl 2 (by decide) (hts _ flX3_manySolved_33) (fun _ h9 => h9) rfl dX3_manySolved_6 ?_
      refine lv_icmp_ge (tgt := 34) hx hb dX3_manySolved_9 (by decide) (fun c => absurd c (nI_ge (a := k) (b := kc) (by omega) (by omega))) (fun _ => ?_)
      refine lv_iload_n hx hb dX3_manySolved_12 rfl (lv_at hl 1 rfl) ?_
      refine lv_aload_n hx hb dX3_manySolved_13 rfl (lv_at hl 0 rfl) ?_
      refine lv_iload_n hx hb dX3_manySolved_14 rfl (lv_at hl 2 rfl) ?_
      refine xVM (q0 := 0) (ci := 3) (As := [.int (nI k)]) (rest := [.int (nI (xCnt (fun t9 => xSv n f (xGt tg t9)) k))]) ⟨hx, hb, hml, hown, hts⟩ (c_X3_solves γ l m0 m1 m2 m3 m4 n kc th td f tg tp k (by omega) (by omega) (by omega)) (cwV 1 hts gX3_manySolved_X3_solves rfl rfl rfl hdv_X3_solves ⟨(Nat.le_of_ble_eq_true rfl), (Nat.le_of_ble_eq_true rfl)⟩) hK hP hD hS hA [0, 1, 2, 3] rfl rfl rfl rfl rfl hl.1 rfl (Nat.le_of_ble_eq_true rfl) dX3_manySolved_15 ⟨(Nat.le_of_ble_eq_true rfl), (Nat.le_of_ble_eq_true rfl)⟩ (fun r9 w9 H locs hw hP hD hS => ?_)
      obtain ⟨rfl, h46x, eh46x, rfl⟩ := hw
      have hP : xP γ ([xO m0 3 [.int th, .int (nI n), .int (nI kc), .int td, .ref m1, .ref m2, .ref m3, .ref m4], xA γ m1 12 f, xA γ m3 72 tg, xA γ m4 14 h46x]) H := hP
      have hD : va_D A ([xO m0 3 [.int th, .int (nI n), .int (nI kc), .int td, .ref m1, .ref m2, .ref m3, .ref m4], xA γ m1 12 f, xA γ m3 72 tg, xA γ m4 14 h46x]) := hD
      refine W.eq (g2 := F0 m 18 ls [.int (if xSv n f (xGt tg k) = true then 1 else 0), .int (nI (xCnt (fun t9 => xSv n f (xGt tg t9)) k))]) rfl ?_
      refine lv_if_eq (tgt := 25) hx hb dX3_manySolved_18 (by decide) (fun c18 => ?_) (fun c18 => ?_)
      · refine lv_iconst (v := 0) hx hb dX3_manySolved_25 (by decide) ?_
        refine lv_iadd hx hb dX3_manySolved_26 ?_
        refine x_top (y := nI (xCnt (fun t9 => xSv n f (xGt tg t9)) (k + 1))) ((nI_add _ 0).trans (congrArg nI (xCnt_f (P := (fun t9 => xSv n f (xGt tg t9))) (xB_f c18)).symm)) ?_
        refine lv_istore_n (lv' := [(1, .int (nI (xCnt (fun t9 => xSv n f (xGt tg t9)) (k + 1)))), (0, .ref m0), (2, .int (nI k))]) hx hb dX3_manySolved_27 rfl hl (by decide) rfl (fun ls hl => ?_)
        refine lv_iinc (v := nI (k + 1)) (lv' := [(2, .int (nI (k + 1))), (1, .int (nI (xCnt (fun t9 => xSv n f (xGt tg t9)) (k + 1)))), (0, .ref m0)]) hx hb dX3_manySolved_28 hl (k := 2) rfl (nI_add k 1) (by decide) rfl (fun ls hl => ?_)
        refine lv_goto (tgt := 4) hx hb dX3_manySolved_31 (by decide) ?_
        exact ih4 (k + 1) h46x (by omega) _ _ hP hD hS ls (lv_sub hl [2, 1, 0] rfl)
      · refine lv_iconst (v := 1) hx hb dX3_manySolved_21 (by decide) ?_
        refine lv_goto (tgt := 26) hx hb dX3_manySolved_22 (by decide) ?_
        refine lv_iadd hx hb dX3_manySolved_26 ?_
        refine x_top (y := nI (xCnt (fun t9 => xSv n f (xGt tg t9)) (k + 1))) ((nI_add _ 1).trans (congrArg nI (xCnt_t (P := (fun t9 => xSv n f (xGt tg t9))) (xB_t c18)).symm)) ?_
        refine lv_istore_n (lv' := [(1, .int (nI (xCnt (fun t9 => xSv n f (xGt tg t9)) (k + 1)))), (0, .ref m0), (2, .int (nI k))]) hx hb dX3_manySolved_27 rfl hl (by decide) rfl (fun ls hl => ?_)
        refine lv_iinc (v := nI (k + 1)) (lv' := [(2, .int (nI (k + 1))), (1, .int (nI (xCnt (fun t9 => xSv n f (xGt tg t9)) (k + 1)))), (0, .ref m0)]) hx hb dX3_manySolved_28 hl (k := 2) rfl (nI_add k 1) (by decide) rfl (fun ls hl => ?_)
        refine lv_goto (tgt := 4) hx hb dX3_manySolved_31 (by decide) ?_
        exact ih4 (k + 1) h46x (by omega) _ _ hP hD hS ls (lv_sub hl [2, 1, 0] rfl)
  exact loop4 kc 0 tp (by omega) _ _ hP hD hS ls (lv_sub hl [2, 1, 0] rfl)

theorem wdX3_fewest_c138 : Cond.constant RX3 138 (2147483647) ∈ wsX3_fewest := by decide +kernel
theorem flX3_fewest_7 : Cond.fieldLink RX3 7 "RingSeesawModel" "n" "I" ∈ wsX3_fewest := by decide +kernel
theorem iwX3_fewest_3 : ∀ w ∈ wsX30, w ∈ wsX3_fewest := by decide +kernel
theorem wdX3_fewest_m46a : Cond.methodLink RX3 46 Lib.Math.min.name ∈ wsX3_fewest := by decide +kernel
theorem wdX3_fewest_m46b : Cond.static Lib.Math.min.name ∈ wsX3_fewest := by decide +kernel
theorem wdX3_fewest_m46c : Cond.initialized "java/lang/Math" ∈ wsX3_fewest := by decide +kernel
theorem wdX3_fewest_m46d : Cond.code Lib.Math.min.name Lib.Math.min.code 2 (some .int) ∈ wsX3_fewest := by decide +kernel
theorem flX3_fewest_23 : Cond.fieldLink RX3 23 "RingSeesawModel" "tip" "[I" ∈ wsX3_fewest := by decide +kernel
theorem wdX3_fewest_m77a : Cond.methodLink RX3 77 Lib.Math.abs.name ∈ wsX3_fewest := by decide +kernel
theorem wdX3_fewest_m77b : Cond.static Lib.Math.abs.name ∈ wsX3_fewest := by decide +kernel
theorem wdX3_fewest_m77c : Cond.initialized "java/lang/Math" ∈ wsX3_fewest := by decide +kernel
theorem wdX3_fewest_m77d : Cond.code Lib.Math.abs.name Lib.Math.abs.code 1 (some .int) ∈ wsX3_fewest := by decide +kernel
set_option maxHeartbeats 4000000 in
set_option maxRecDepth 100000 in
theorem c_X3_fewest (γ : xG) (l : Launch) (m0 m1 m2 m3 m4 n kc : Nat) (th td : Int32) (f tg tp : xRow) (t : Nat) (hn0 : 3 ≤ n) (hn1 : n ≤ 12) (ht : t < 6) : xM γ l yX3_fewest wsX3_fewest ({ frames := 3, cells := 0, slots := 0, locals := 68 } : Room) [.ref m0, .int (nI t)] ([xO m0 3 [.int th, .int (nI n), .int (nI kc), .int td, .ref m1, .ref m2, .ref m3, .ref m4], xA γ m1 12 f, xA γ m3 72 tg, xA γ m4 14 tp]) (fun r9 w9 => r9 = some (.int (xFewM n f (xGt tg t))) ∧ ∃ h9 : xRow, w9 = [xO m0 3 [.int th, .int (nI n), .int (nI kc), .int td, .ref m1, .ref m2, .ref m3, .ref m4], xA γ m1 12 f, xA γ m3 72 tg, xA γ m4 14 h9]) 0 0 := by
  refine xM.of (cc := cX3_fewest) (maxL := 6) (ret := (some .int)) (by decide +kernel) rfl (Nat.le_of_ble_eq_true rfl) ?_
  intro p e s m below meth c hx hb hr hml hts hown hlocks hin hP hK A hA hD ls hl
  have hS : va_S A s.heap s.heap [] := va_S.rf
  generalize hargs : ([.ref m0, .int (nI t)] : List Value).toArray = args at hts ⊢
  obtain ⟨Q, hQ⟩ : ∃ Q9, Q9 = MQ below (xMQ γ (List.map Prod.fst ([xO m0 3 [.int th, .int (nI n), .int (nI kc), .int td, .ref m1, .ref m2, .ref m3, .ref m4], xA γ m1 12 f, xA γ m3 72 tg, xA γ m4 14 tp])) A (fun r9 w9 => r9 = some (.int (xFewM n f (xGt tg t))) ∧ ∃ h9 : xRow, w9 = [xO m0 3 [.int th, .int (nI n), .int (nI kc), .int td, .ref m1, .ref m2, .ref m3, .ref m4], xA γ m1 12 f, xA γ m3 72 tg, xA γ m4 14 h9])) args s 0 0 A := ⟨_, rfl⟩
  rw [← hQ]
  have hown : s.vm.findClass RX3 = some m.cls := hown
  have hl : lv_has ls 6 [(0, .ref m0), (1, .int (nI t))] := hl
  refine lv_aload_n hx hb dX3_fewest_0 rfl (lv_at hl 0 rfl) ?_
  refine lv_iload_n hx hb dX3_fewest_1 rfl (lv_at hl 1 rfl) ?_
  refine xVM (q0 := 0) (ci := 3) (As := [.int (nI t)]) (rest := []) ⟨hx, hb, hml, hown, hts⟩ (c_X3_solves γ l m0 m1 m2 m3 m4 n kc th td f tg tp t (by omega) (by omega) (by omega)) (cwV 1 hts gX3_fewest_X3_solves rfl rfl rfl hdv_X3_solves ⟨(Nat.le_of_ble_eq_true rfl), (Nat.le_of_ble_eq_true rfl)⟩) hK hP hD hS hA [0, 1, 2, 3] rfl rfl rfl rfl rfl hl.1 rfl (Nat.le_of_ble_eq_true rfl) dX3_fewest_2 ⟨(Nat.le_of_ble_eq_true rfl), (Nat.le_of_ble_eq_true rfl)⟩ (fun r9 w9 H locs hw hP hD hS => ?_)
  obtain ⟨rfl, h48x, eh48x, rfl⟩ := hw
  have hP : xP γ ([xO m0 3 [.int th, .int (nI n), .int (nI kc), .int td, .ref m1, .ref m2, .ref m3, .ref m4], xA γ m1 12 f, xA γ m3 72 tg, xA γ m4 14 h48x]) H := hP
  have hD : va_D A ([xO m0 3 [.int th, .int (nI n), .int (nI kc), .int td, .ref m1, .ref m2, .ref m3, .ref m4], xA γ m1 12 f, xA γ m3 72 tg, xA γ m4 14 h48x]) := hD
  refine W.eq (g2 := F0 m 5 ls [.int (if xSv n f (xGt tg t) = true then 1 else 0)]) rfl ?_
  refine lv_if_ne (tgt := 10) hx hb dX3_fewest_5 (by decide) (fun c5 => ?_) (fun c5 => ?_)
  · refine lv_ldc hx hb hown (hts _ wdX3_fewest_c138) dX3_fewest_10 ?_
    refine lv_istore_n (lv' := [(2, .int 2147483647), (0, .ref m0), (1, .int (nI t))]) hx hb dX3_fewest_12 rfl hl (by decide) rfl (fun ls hl => ?_)
    refine lv_iconst (v := 0) hx hb dX3_fewest_13 (by decide) ?_
    refine lv_istore_n (lv' := [(3, .int 0), (2, .int 2147483647), (0, .ref m0), (1, .int (nI t))]) hx hb dX3_fewest_14 rfl hl (by decide) rfl (fun ls hl => ?_)
    have loop15 : ∀ j : Nat, ∀ (k : Nat), k + j = n → ∀ ls : Array Slot, lv_has ls 6 [(0, .ref m0), (1, .int (nI t)), (2, .int (xMf (fun p9 => xAw h48x (h48x p9) n) k)), (3, .int (nI k))] → W p l e ({ frames := 3, cells := 0, slots := 0, locals := 68 } : Room) s m args below meth c H locs 0 0 Q (F0 m 15 ls []) := by
      intro j
      induction j with
      | zero =>
        intro k hj ls hl
        refine lv_iload_n hx hb dX3_fewest_15 rfl (lv_at hl 3 rfl) ?_
        refine lv_aload_n hx hb dX3_fewest_16 rfl (lv_at hl 0 rfl) ?_
        refine va_get (D := γ.1) (ci := 3) (v := .int (nI n)) (C := RX3) (T := TX3) (N := 8) hx hb hts iwX3_fewest_3 hown hK hP 0 rfl rfl 1 (by decide) (hts _ flX3_fewest_7) (fun _ h9 => h9) rfl dX3_fewest_17 ?_
        refine lv_icmp_ge (tgt := 79) hx hb dX3_fewest_20 (by decide) (fun _ => ?_) (fun c => absurd (nI_le (a := n) (b := k) (by omega) (by omega)) c)
        refine lv_iload_n hx hb dX3_fewest_79 rfl (lv_at hl 2 rfl) ?_
        subst hQ
        exact xM_i hx hb hr hlocks dX3_fewest_80 hP rfl hS (Nat.le_of_ble_eq_true rfl) (Nat.le_of_ble_eq_true rfl) (⟨by unfold xFewM; rw [xB_t c5, if_pos rfl, ← xMw_congr (fun i hi => eh48x (xB_t c5) i (by omega)), show k = n by omega]; rfl, _, rfl⟩)
      | succ j ih15 =>
        intro k hj ls hl
        refine lv_iload_n hx hb dX3_fewest_15 rfl (lv_at hl 3 rfl) ?_
        refine lv_aload_n hx hb dX3_fewest_16 rfl (lv_at hl 0 rfl) ?_
        refine va_get (D := γ.1) (ci := 3) (v := .int (nI n)) (C := RX3) (T := TX3) (N := 8) hx hb hts iwX3_fewest_3 hown hK hP 0 rfl rfl 1 (by decide) (hts _ flX3_fewest_7) (fun _ h9 => h9) rfl dX3_fewest_17 ?_
        refine lv_icmp_ge (tgt := 79) hx hb dX3_fewest_20 (by decide) (fun c => absurd c (nI_ge (a := k) (b := n) (by omega) (by omega))) (fun _ => ?_)
        refine lv_iconst (v := 0) hx hb dX3_fewest_23 (by decide) ?_
        refine lv_istore (lv' := [(4, .int 0), (0, .ref m0), (1, .int (nI t)), (2, .int (xMf (fun p9 => xAw h48x (h48x p9) n) k)), (3, .int (nI k))]) hx hb dX3_fewest_24 hl (by decide) rfl (fun ls hl => ?_)
        refine lv_iconst (v := 0) hx hb dX3_fewest_26 (by decide) ?_
        refine lv_istore (lv' := [(5, .int 0), (4, .int 0), (0, .ref m0), (1, .int (nI t)), (2, .int (xMf (fun p9 => xAw h48x (h48x p9) n) k)), (3, .int (nI k))]) hx hb dX3_fewest_27 hl (by decide) rfl (fun ls hl => ?_)
        have loop29 : ∀ j : Nat, ∀ (k2 : Nat), k2 + j = n → ∀ ls : Array Slot, lv_has ls 6 [(0, .ref m0), (1, .int (nI t)), (2, .int (xMf (fun p9 => xAw h48x (h48x p9) n) k)), (3, .int (nI k)), (4, .int (xAw h48x (h48x k) k2)), (5, .int (nI k2))] → W p l e ({ frames := 3, cells := 0, slots := 0, locals := 68 } : Room) s m args below meth c H locs 0 0 Q (F0 m 29 ls []) := by
          intro j
          induction j with
          | zero =>
            intro k2 hj ls hl
            refine lv_iload hx hb dX3_fewest_29 (lv_at hl 5 rfl) ?_
            refine lv_aload_n hx hb dX3_fewest_31 rfl (lv_at hl 0 rfl) ?_
            refine va_get (D := γ.1) (ci := 3) (v := .int (nI n)) (C := RX3) (T := TX3) (N := 8) hx hb hts iwX3_fewest_3 hown hK hP 0 rfl rfl 1 (by decide) (hts _ flX3_fewest_7) (fun _ h9 => h9) rfl dX3_fewest_32 ?_
            refine lv_icmp_ge (tgt := 66) hx hb dX3_fewest_35 (by decide) (fun _ => ?_) (fun c => absurd (nI_le (a := n) (b := k2) (by omega) (by omega)) c)
            have hjk : k2 = n := by omega
            rw [hjk] at hl
            refine lv_iload_n hx hb dX3_fewest_66 rfl (lv_at hl 2 rfl) ?_
            refine lv_iload hx hb dX3_fewest_67 (lv_at hl 4 rfl) ?_
            refine va_mmin hx hb (hml.trans hl.1.symm) hown (hts _ wdX3_fewest_m46a) (hts _ wdX3_fewest_m46b) (hts _ wdX3_fewest_m46c) (hts _ wdX3_fewest_m46d) (Nat.le_of_ble_eq_true rfl) (Nat.le_of_ble_eq_true rfl) (Nat.le_of_ble_eq_true rfl) (Nat.le_of_ble_eq_true rfl) dX3_fewest_69 ?_
            refine lv_istore_n (lv' := [(2, .int (if (xAw h48x (h48x k) n) < (xMf (fun p9 => xAw h48x (h48x p9) n) k) then (xAw h48x (h48x k) n) else (xMf (fun p9 => xAw h48x (h48x p9) n) k))), (0, .ref m0), (1, .int (nI t)), (3, .int (nI k)), (4, .int (xAw h48x (h48x k) n)), (5, .int (nI n))]) hx hb dX3_fewest_72 rfl hl (by decide) rfl (fun ls hl => ?_)
            refine lv_iinc (v := nI (k + 1)) (lv' := [(3, .int (nI (k + 1))), (2, .int (if (xAw h48x (h48x k) n) < (xMf (fun p9 => xAw h48x (h48x p9) n) k) then (xAw h48x (h48x k) n) else (xMf (fun p9 => xAw h48x (h48x p9) n) k))), (0, .ref m0), (1, .int (nI t)), (4, .int (xAw h48x (h48x k) n)), (5, .int (nI n))]) hx hb dX3_fewest_73 hl (k := 3) rfl (nI_add k 1) (by decide) rfl (fun ls hl => ?_)
            refine lv_goto (tgt := 15) hx hb dX3_fewest_76 (by decide) ?_
            exact ih15 (k + 1) (by omega) ls (lv_sub hl [2, 3, 1, 0] rfl)
          | succ j ih29 =>
            intro k2 hj ls hl
            refine lv_iload hx hb dX3_fewest_29 (lv_at hl 5 rfl) ?_
            refine lv_aload_n hx hb dX3_fewest_31 rfl (lv_at hl 0 rfl) ?_
            refine va_get (D := γ.1) (ci := 3) (v := .int (nI n)) (C := RX3) (T := TX3) (N := 8) hx hb hts iwX3_fewest_3 hown hK hP 0 rfl rfl 1 (by decide) (hts _ flX3_fewest_7) (fun _ h9 => h9) rfl dX3_fewest_32 ?_
            refine lv_icmp_ge (tgt := 66) hx hb dX3_fewest_35 (by decide) (fun c => absurd c (nI_ge (a := k2) (b := n) (by omega) (by omega))) (fun _ => ?_)
            refine lv_iload hx hb dX3_fewest_38 (lv_at hl 4 rfl) ?_
            refine lv_aload_n hx hb dX3_fewest_40 rfl (lv_at hl 0 rfl) ?_
            refine va_get (D := γ.1) (ci := 3) (v := .ref m4) (C := RX3) (T := TX3) (N := 8) hx hb hts iwX3_fewest_3 hown hK hP 0 rfl rfl 7 (by decide) (hts _ flX3_fewest_23) (fun _ h9 => h9) rfl dX3_fewest_41 ?_
            refine lv_iload hx hb dX3_fewest_44 (lv_at hl 5 rfl) ?_
            refine x_iald (f := h48x) hx hb hK hP 3 rfl k2 rfl (by omega) (by omega) dX3_fewest_46 ?_
            refine lv_aload_n hx hb dX3_fewest_47 rfl (lv_at hl 0 rfl) ?_
            refine va_get (D := γ.1) (ci := 3) (v := .ref m4) (C := RX3) (T := TX3) (N := 8) hx hb hts iwX3_fewest_3 hown hK hP 0 rfl rfl 7 (by decide) (hts _ flX3_fewest_23) (fun _ h9 => h9) rfl dX3_fewest_48 ?_
            refine lv_iload_n hx hb dX3_fewest_51 rfl (lv_at hl 3 rfl) ?_
            refine x_iald (f := h48x) hx hb hK hP 3 rfl k rfl (by omega) (by omega) dX3_fewest_52 ?_
            refine lv_isub hx hb dX3_fewest_53 ?_
            refine va_mabs hx hb (hml.trans hl.1.symm) hown (hts _ wdX3_fewest_m77a) (hts _ wdX3_fewest_m77b) (hts _ wdX3_fewest_m77c) (hts _ wdX3_fewest_m77d) (Nat.le_of_ble_eq_true rfl) (Nat.le_of_ble_eq_true rfl) (Nat.le_of_ble_eq_true rfl) (Nat.le_of_ble_eq_true rfl) dX3_fewest_54 ?_
            refine lv_iadd hx hb dX3_fewest_57 ?_
            refine lv_istore (lv' := [(4, .int ((xAw h48x (h48x k) k2) + (if 0 ≤ ((h48x k2) - (h48x k)) then ((h48x k2) - (h48x k)) else 0 - ((h48x k2) - (h48x k))))), (0, .ref m0), (1, .int (nI t)), (2, .int (xMf (fun p9 => xAw h48x (h48x p9) n) k)), (3, .int (nI k)), (5, .int (nI k2))]) hx hb dX3_fewest_58 hl (by decide) rfl (fun ls hl => ?_)
            refine lv_iinc (v := nI (k2 + 1)) (lv' := [(5, .int (nI (k2 + 1))), (4, .int ((xAw h48x (h48x k) k2) + (if 0 ≤ ((h48x k2) - (h48x k)) then ((h48x k2) - (h48x k)) else 0 - ((h48x k2) - (h48x k))))), (0, .ref m0), (1, .int (nI t)), (2, .int (xMf (fun p9 => xAw h48x (h48x p9) n) k)), (3, .int (nI k))]) hx hb dX3_fewest_60 hl (k := 5) rfl (nI_add k2 1) (by decide) rfl (fun ls hl => ?_)
            refine lv_goto (tgt := 29) hx hb dX3_fewest_63 (by decide) ?_
            exact ih29 (k2 + 1) (by omega) ls (lv_sub hl [2, 3, 4, 5, 1, 0] rfl)
        exact loop29 n 0 (by omega) ls (lv_sub hl [2, 3, 4, 5, 1, 0] rfl)
    exact loop15 n 0 (by omega) ls (lv_sub hl [2, 3, 1, 0] rfl)
  · refine lv_iconst (v := (-1)) hx hb dX3_fewest_8 (by decide) ?_
    subst hQ
    exact xM_i hx hb hr hlocks dX3_fewest_9 hP rfl hS (Nat.le_of_ble_eq_true rfl) (Nat.le_of_ble_eq_true rfl) (⟨by unfold xFewM; rw [xB_f c5]; rfl, _, rfl⟩)

theorem hdv_X3_fewest : yX3_fewest.cls = RX3 ∧ yX3_fewest.cls ≠ "java/lang/invoke/MethodHandle" ∧ yX3_fewest.cls ≠ "java/lang/invoke/VarHandle" ∧ (parseMethodDescriptor yX3_fewest.desc).map (fun d => d.parameters.length) = some 1 := by decide +kernel
theorem wdX3_near_c138 : Cond.constant RX3 138 (2147483647) ∈ wsX3_near := by decide +kernel
theorem flX3_near_33 : Cond.fieldLink RX3 33 "RingSeesawModel" "targets" "I" ∈ wsX3_near := by decide +kernel
theorem iwX3_near_3 : ∀ w ∈ wsX30, w ∈ wsX3_near := by decide +kernel
set_option maxHeartbeats 4000000 in
set_option maxRecDepth 100000 in
theorem c_X3_near (γ : xG) (l : Launch) (m0 m1 m2 m3 m4 n kc : Nat) (th td : Int32) (f tg tp : xRow) (hn0 : 3 ≤ n) (hn1 : n ≤ 12) (hkc : kc ≤ 6) : xM γ l yX3_near wsX3_near ({ frames := 4, cells := 0, slots := 0, locals := 93 } : Room) [.ref m0] ([xO m0 3 [.int th, .int (nI n), .int (nI kc), .int td, .ref m1, .ref m2, .ref m3, .ref m4], xA γ m1 12 f, xA γ m3 72 tg, xA γ m4 14 tp]) (fun r9 w9 => r9 = some (.int (xNrM (fun t9 => xFewM n f (xGt tg t9)) kc).1) ∧ ∃ h9 : xRow, w9 = [xO m0 3 [.int th, .int (nI n), .int (nI kc), .int td, .ref m1, .ref m2, .ref m3, .ref m4], xA γ m1 12 f, xA γ m3 72 tg, xA γ m4 14 h9]) 0 0 := by
  refine xM.of (cc := cX3_near) (maxL := 5) (ret := (some .int)) (by decide +kernel) rfl (Nat.le_of_ble_eq_true rfl) ?_
  intro p e s m below meth c hx hb hr hml hts hown hlocks hin hP hK A hA hD ls hl
  have hS : va_S A s.heap s.heap [] := va_S.rf
  generalize hargs : ([.ref m0] : List Value).toArray = args at hts ⊢
  obtain ⟨Q, hQ⟩ : ∃ Q9, Q9 = MQ below (xMQ γ (List.map Prod.fst ([xO m0 3 [.int th, .int (nI n), .int (nI kc), .int td, .ref m1, .ref m2, .ref m3, .ref m4], xA γ m1 12 f, xA γ m3 72 tg, xA γ m4 14 tp])) A (fun r9 w9 => r9 = some (.int (xNrM (fun t9 => xFewM n f (xGt tg t9)) kc).1) ∧ ∃ h9 : xRow, w9 = [xO m0 3 [.int th, .int (nI n), .int (nI kc), .int td, .ref m1, .ref m2, .ref m3, .ref m4], xA γ m1 12 f, xA γ m3 72 tg, xA γ m4 14 h9])) args s 0 0 A := ⟨_, rfl⟩
  rw [← hQ]
  have hown : s.vm.findClass RX3 = some m.cls := hown
  have hl : lv_has ls 5 [(0, .ref m0)] := hl
  refine lv_iconst (v := (-1)) hx hb dX3_near_0 (by decide) ?_
  refine lv_istore_n (lv' := [(1, .int (-1)), (0, .ref m0)]) hx hb dX3_near_1 rfl hl (by decide) rfl (fun ls hl => ?_)
  refine lv_ldc hx hb hown (hts _ wdX3_near_c138) dX3_near_2 ?_
  refine lv_istore_n (lv' := [(2, .int 2147483647), (1, .int (-1)), (0, .ref m0)]) hx hb dX3_near_4 rfl hl (by decide) rfl (fun ls hl => ?_)
  refine lv_iconst (v := 0) hx hb dX3_near_5 (by decide) ?_
  refine lv_istore_n (lv' := [(3, .int 0), (2, .int 2147483647), (1, .int (-1)), (0, .ref m0)]) hx hb dX3_near_6 rfl hl (by decide) rfl (fun ls hl => ?_)
  have loop7 : ∀ j : Nat, ∀ (k : Nat) (tp : xRow), k + j = kc → ∀ (H : Heap) (locs : List Loc), xP γ ([xO m0 3 [.int th, .int (nI n), .int (nI kc), .int td, .ref m1, .ref m2, .ref m3, .ref m4], xA γ m1 12 f, xA γ m3 72 tg, xA γ m4 14 tp]) H → va_D A ([xO m0 3 [.int th, .int (nI n), .int (nI kc), .int td, .ref m1, .ref m2, .ref m3, .ref m4], xA γ m1 12 f, xA γ m3 72 tg, xA γ m4 14 tp]) → va_S A s.heap H locs → ∀ ls : Array Slot, lv_has ls 5 [(0, .ref m0), (1, .int ((xNrM (fun t9 => xFewM n f (xGt tg t9)) k).1)), (2, .int ((xNrM (fun t9 => xFewM n f (xGt tg t9)) k).2)), (3, .int (nI k))] → W p l e ({ frames := 4, cells := 0, slots := 0, locals := 93 } : Room) s m args below meth c H locs 0 0 Q (F0 m 7 ls []) := by
    intro j
    induction j with
    | zero =>
      intro k tp hj H locs hP hD hS ls hl
      refine lv_iload_n hx hb dX3_near_7 rfl (lv_at hl 3 rfl) ?_
      refine lv_aload_n hx hb dX3_near_8 rfl (lv_at hl 0 rfl) ?_
      refine va_get (D := γ.1) (ci := 3) (v := .int (nI kc)) (C := RX3) (T := TX3) (N := 8) hx hb hts iwX3_near_3 hown hK hP 0 rfl rfl 2 (by decide) (hts _ flX3_near_33) (fun _ h9 => h9) rfl dX3_near_9 ?_
      refine lv_icmp_ge (tgt := 48) hx hb dX3_near_12 (by decide) (fun _ => ?_) (fun c => absurd (nI_le (a := kc) (b := k) (by omega) (by omega)) c)
      refine lv_iload_n hx hb dX3_near_48 rfl (lv_at hl 1 rfl) ?_
      subst hQ
      exact xM_i hx hb hr hlocks dX3_near_49 hP rfl hS (Nat.le_of_ble_eq_true rfl) (Nat.le_of_ble_eq_true rfl) (⟨by rw [show k = kc by omega], _, rfl⟩)
    | succ j ih7 =>
      intro k tp hj H locs hP hD hS ls hl
      refine lv_iload_n hx hb dX3_near_7 rfl (lv_at hl 3 rfl) ?_
      refine lv_aload_n hx hb dX3_near_8 rfl (lv_at hl 0 rfl) ?_
      refine va_get (D := γ.1) (ci := 3) (v := .int (nI kc)) (C := RX3) (T := TX3) (N := 8) hx hb hts iwX3_near_3 hown hK hP 0 rfl rfl 2 (by decide) (hts _ flX3_near_33) (fun _ h9 => h9) rfl dX3_near_9 ?_
      refine lv_icmp_ge (tgt := 48) hx hb dX3_near_12 (by decide) (fun c => absurd c (nI_ge (a := k) (b := kc) (by omega) (by omega))) (fun _ => ?_)
      refine lv_aload_n hx hb dX3_near_15 rfl (lv_at hl 0 rfl) ?_
      refine lv_iload_n hx hb dX3_near_16 rfl (lv_at hl 3 rfl) ?_
      refine xVM (q0 := 0) (ci := 3) (As := [.int (nI k)]) (rest := []) ⟨hx, hb, hml, hown, hts⟩ (c_X3_fewest γ l m0 m1 m2 m3 m4 n kc th td f tg tp k (by omega) (by omega) (by omega)) (cwV 1 hts gX3_near_X3_fewest rfl rfl rfl hdv_X3_fewest ⟨(Nat.le_of_ble_eq_true rfl), (Nat.le_of_ble_eq_true rfl)⟩) hK hP hD hS hA [0, 1, 2, 3] rfl rfl rfl rfl rfl hl.1 rfl (Nat.le_of_ble_eq_true rfl) dX3_near_17 ⟨(Nat.le_of_ble_eq_true rfl), (Nat.le_of_ble_eq_true rfl)⟩ (fun r9 w9 H locs hw hP hD hS => ?_)
      obtain ⟨rfl, h50x, rfl⟩ := hw
      have hP : xP γ ([xO m0 3 [.int th, .int (nI n), .int (nI kc), .int td, .ref m1, .ref m2, .ref m3, .ref m4], xA γ m1 12 f, xA γ m3 72 tg, xA γ m4 14 h50x]) H := hP
      have hD : va_D A ([xO m0 3 [.int th, .int (nI n), .int (nI kc), .int td, .ref m1, .ref m2, .ref m3, .ref m4], xA γ m1 12 f, xA γ m3 72 tg, xA γ m4 14 h50x]) := hD
      refine W.eq (g2 := F0 m 20 ls [.int (xFewM n f (xGt tg k))]) rfl ?_
      refine lv_istore (lv' := [(4, .int (xFewM n f (xGt tg k))), (0, .ref m0), (1, .int ((xNrM (fun t9 => xFewM n f (xGt tg t9)) k).1)), (2, .int ((xNrM (fun t9 => xFewM n f (xGt tg t9)) k).2)), (3, .int (nI k))]) hx hb dX3_near_20 hl (by decide) rfl (fun ls hl => ?_)
      refine lv_iload hx hb dX3_near_22 (lv_at hl 0 rfl) ?_
      refine lv_iconst (v := (-1)) hx hb dX3_near_24 (by decide) ?_
      refine lv_icmp_eq (tgt := 42) hx hb dX3_near_25 (by decide) (fun c25 => ?_) (fun c25 => ?_)
      · have e9 : xNrM (fun t9 => xFewM n f (xGt tg t9)) (k + 1) = xNrM (fun t9 => xFewM n f (xGt tg t9)) k := xNrM_f (fun h => h.1 c25)
        rw [← e9] at hl
        refine lv_iinc (v := nI (k + 1)) (lv' := [(3, .int (nI (k + 1))), (4, .int (xFewM n f (xGt tg k))), (0, .ref m0), (1, .int ((xNrM (fun t9 => xFewM n f (xGt tg t9)) (k + 1)).1)), (2, .int ((xNrM (fun t9 => xFewM n f (xGt tg t9)) (k + 1)).2))]) hx hb dX3_near_42 hl (k := 4) rfl (nI_add k 1) (by decide) rfl (fun ls hl => ?_)
        refine lv_goto (tgt := 7) hx hb dX3_near_45 (by decide) ?_
        exact ih7 (k + 1) h50x (by omega) _ _ hP hD hS ls (lv_sub hl [2, 3, 4, 0] rfl)
      · refine lv_iload hx hb dX3_near_28 (lv_at hl 0 rfl) ?_
        refine lv_iload_n hx hb dX3_near_30 rfl (lv_at hl 3 rfl) ?_
        refine lv_icmp_lt (tgt := 37) hx hb dX3_near_31 (by decide) (fun c31 => ?_) (fun c31 => ?_)
        · refine lv_iload_n hx hb dX3_near_37 rfl (lv_at hl 4 rfl) ?_
          refine x_top (y := (xNrM (fun t9 => xFewM n f (xGt tg t9)) (k + 1)).1) (by rw [xNrM_t (F := (fun t9 => xFewM n f (xGt tg t9))) ⟨c25, c31⟩]) ?_
          refine lv_istore_n (lv' := [(1, .int ((xNrM (fun t9 => xFewM n f (xGt tg t9)) (k + 1)).1)), (4, .int (xFewM n f (xGt tg k))), (0, .ref m0), (2, .int ((xNrM (fun t9 => xFewM n f (xGt tg t9)) k).2)), (3, .int (nI k))]) hx hb dX3_near_38 rfl hl (by decide) rfl (fun ls hl => ?_)
          refine lv_iload hx hb dX3_near_39 (lv_at hl 1 rfl) ?_
          refine x_top (y := (xNrM (fun t9 => xFewM n f (xGt tg t9)) (k + 1)).2) (by rw [xNrM_t (F := (fun t9 => xFewM n f (xGt tg t9))) ⟨c25, c31⟩]) ?_
          refine lv_istore_n (lv' := [(2, .int ((xNrM (fun t9 => xFewM n f (xGt tg t9)) (k + 1)).2)), (1, .int ((xNrM (fun t9 => xFewM n f (xGt tg t9)) (k + 1)).1)), (4, .int (xFewM n f (xGt tg k))), (0, .ref m0), (3, .int (nI k))]) hx hb dX3_near_41 rfl hl (by decide) rfl (fun ls hl => ?_)
          refine lv_iinc (v := nI (k + 1)) (lv' := [(3, .int (nI (k + 1))), (2, .int ((xNrM (fun t9 => xFewM n f (xGt tg t9)) (k + 1)).2)), (1, .int ((xNrM (fun t9 => xFewM n f (xGt tg t9)) (k + 1)).1)), (4, .int (xFewM n f (xGt tg k))), (0, .ref m0)]) hx hb dX3_near_42 hl (k := 4) rfl (nI_add k 1) (by decide) rfl (fun ls hl => ?_)
          refine lv_goto (tgt := 7) hx hb dX3_near_45 (by decide) ?_
          exact ih7 (k + 1) h50x (by omega) _ _ hP hD hS ls (lv_sub hl [4, 2, 1, 0] rfl)
        · refine lv_goto (tgt := 42) hx hb dX3_near_34 (by decide) ?_
          have e9 : xNrM (fun t9 => xFewM n f (xGt tg t9)) (k + 1) = xNrM (fun t9 => xFewM n f (xGt tg t9)) k := xNrM_f (fun h => c31 h.2)
          rw [← e9] at hl
          refine lv_iinc (v := nI (k + 1)) (lv' := [(3, .int (nI (k + 1))), (4, .int (xFewM n f (xGt tg k))), (0, .ref m0), (1, .int ((xNrM (fun t9 => xFewM n f (xGt tg t9)) (k + 1)).1)), (2, .int ((xNrM (fun t9 => xFewM n f (xGt tg t9)) (k + 1)).2))]) hx hb dX3_near_42 hl (k := 4) rfl (nI_add k 1) (by decide) rfl (fun ls hl => ?_)
          refine lv_goto (tgt := 7) hx hb dX3_near_45 (by decide) ?_
          exact ih7 (k + 1) h50x (by omega) _ _ hP hD hS ls (lv_sub hl [2, 3, 4, 0] rfl)
  exact loop7 kc 0 tp (by omega) _ _ hP hD hS ls (lv_sub hl [3, 2, 1, 0] rfl)

theorem hdv_X3_look : yX3_look.cls = RX3 ∧ yX3_look.cls ≠ "java/lang/invoke/MethodHandle" ∧ yX3_look.cls ≠ "java/lang/invoke/VarHandle" ∧ (parseMethodDescriptor yX3_look.desc).map (fun d => d.parameters.length) = some 0 := by decide +kernel
theorem hdv_X3_settled : yX3_settled.cls = RX3 ∧ yX3_settled.cls ≠ "java/lang/invoke/MethodHandle" ∧ yX3_settled.cls ≠ "java/lang/invoke/VarHandle" ∧ (parseMethodDescriptor yX3_settled.desc).map (fun d => d.parameters.length) = some 2 := by decide +kernel
theorem flX3_rest_17 : Cond.fieldLink RX3 17 "RingSeesawModel" "then" "[I" ∈ wsX3_rest := by decide +kernel
theorem iwX3_rest_3 : ∀ w ∈ wsX30, w ∈ wsX3_rest := by decide +kernel
set_option maxHeartbeats 4000000 in
set_option maxRecDepth 100000 in
theorem c_X3_rest (γ : xG) (l : Launch) (m0 m1 m2 m3 m4 n kc : Nat) (th td : Int32) (f tf : xRow) (hn0 : 3 ≤ n) (hn1 : n ≤ 12) : xM γ l yX3_rest wsX3_rest ({ frames := 4, cells := 0, slots := 0, locals := 90 } : Room) [.ref m0] ([xO m0 3 [.int th, .int (nI n), .int (nI kc), .int td, .ref m1, .ref m2, .ref m3, .ref m4], xA γ m1 12 f, xA γ m2 12 tf]) (fun r9 w9 => r9 = some (.int (xRsM n f)) ∧ w9 = [xO m0 3 [.int th, .int (nI n), .int (nI kc), .int td, .ref m1, .ref m2, .ref m3, .ref m4], xA γ m1 12 f, xA γ m2 12 ((xStl n 300 f).2)]) 0 0 := by
  refine xM.of (cc := cX3_rest) (maxL := 2) (ret := (some .int)) (by decide +kernel) rfl (Nat.le_of_ble_eq_true rfl) ?_
  intro p e s m below meth c hx hb hr hml hts hown hlocks hin hP hK A hA hD ls hl
  have hS : va_S A s.heap s.heap [] := va_S.rf
  generalize hargs : ([.ref m0] : List Value).toArray = args at hts ⊢
  obtain ⟨Q, hQ⟩ : ∃ Q9, Q9 = MQ below (xMQ γ (List.map Prod.fst ([xO m0 3 [.int th, .int (nI n), .int (nI kc), .int td, .ref m1, .ref m2, .ref m3, .ref m4], xA γ m1 12 f, xA γ m2 12 tf])) A (fun r9 w9 => r9 = some (.int (xRsM n f)) ∧ w9 = [xO m0 3 [.int th, .int (nI n), .int (nI kc), .int td, .ref m1, .ref m2, .ref m3, .ref m4], xA γ m1 12 f, xA γ m2 12 ((xStl n 300 f).2)])) args s 0 0 A := ⟨_, rfl⟩
  rw [← hQ]
  have hown : s.vm.findClass RX3 = some m.cls := hown
  have hl : lv_has ls 2 [(0, .ref m0)] := hl
  refine lv_aload_n hx hb dX3_rest_0 rfl (lv_at hl 0 rfl) ?_
  refine xVM (q0 := 0) (ci := 3) (As := []) (rest := []) ⟨hx, hb, hml, hown, hts⟩ (c_X3_look γ l m0 m1 m2 m3 m4 n kc th td f tf) (cwV 0 hts gX3_rest_X3_look rfl rfl rfl hdv_X3_look ⟨(Nat.le_of_ble_eq_true rfl), (Nat.le_of_ble_eq_true rfl)⟩) hK hP hD hS hA [0, 1, 2] rfl rfl rfl rfl rfl hl.1 rfl (Nat.le_of_ble_eq_true rfl) dX3_rest_1 ⟨(Nat.le_of_ble_eq_true rfl), (Nat.le_of_ble_eq_true rfl)⟩ (fun r9 w9 H locs hw hP hD hS => ?_)
  obtain ⟨rfl, rfl⟩ := hw
  have hP : xP γ ([xO m0 3 [.int th, .int (nI n), .int (nI kc), .int td, .ref m1, .ref m2, .ref m3, .ref m4], xA γ m1 12 f, xA γ m2 12 f]) H := hP
  have hD : va_D A ([xO m0 3 [.int th, .int (nI n), .int (nI kc), .int td, .ref m1, .ref m2, .ref m3, .ref m4], xA γ m1 12 f, xA γ m2 12 f]) := hD
  refine W.eq (g2 := F0 m 4 ls []) rfl ?_
  refine lv_aload_n hx hb dX3_rest_4 rfl (lv_at hl 0 rfl) ?_
  refine lv_aload_n hx hb dX3_rest_5 rfl (lv_at hl 0 rfl) ?_
  refine va_get (D := γ.1) (ci := 3) (v := .ref m2) (C := RX3) (T := TX3) (N := 8) hx hb hts iwX3_rest_3 hown hK hP 0 rfl rfl 5 (by decide) (hts _ flX3_rest_17) (fun _ h9 => h9) rfl dX3_rest_6 ?_
  refine lv_sipush (v := 300) hx hb dX3_rest_9 (by decide) ?_
  refine xVM (q0 := 0) (ci := 3) (As := [.ref m2, .int 300]) (rest := []) ⟨hx, hb, hml, hown, hts⟩ (c_X3_settled γ l m0 m1 m2 m3 m4 n kc th td m2 f 300 (by omega) (by omega) (by omega)) (cwV 2 hts gX3_rest_X3_settled rfl rfl rfl hdv_X3_settled ⟨(Nat.le_of_ble_eq_true rfl), (Nat.le_of_ble_eq_true rfl)⟩) hK hP hD hS hA [0, 2] rfl rfl rfl rfl rfl hl.1 rfl (Nat.le_of_ble_eq_true rfl) dX3_rest_12 ⟨(Nat.le_of_ble_eq_true rfl), (Nat.le_of_ble_eq_true rfl)⟩ (fun r9 w9 H locs hw hP hD hS => ?_)
  obtain ⟨rfl, rfl⟩ := hw
  have hP : xP γ ([xO m0 3 [.int th, .int (nI n), .int (nI kc), .int td, .ref m1, .ref m2, .ref m3, .ref m4], xA γ m1 12 f, xA γ m2 12 ((xStl n 300 f).2)]) H := hP
  have hD : va_D A ([xO m0 3 [.int th, .int (nI n), .int (nI kc), .int td, .ref m1, .ref m2, .ref m3, .ref m4], xA γ m1 12 f, xA γ m2 12 ((xStl n 300 f).2)]) := hD
  refine W.eq (g2 := F0 m 15 ls [.int (nI ((xStl n 300 f).1))]) rfl ?_
  refine lv_istore_n (lv' := [(1, .int (nI ((xStl n 300 f).1))), (0, .ref m0)]) hx hb dX3_rest_15 rfl hl (by decide) rfl (fun ls hl => ?_)
  refine lv_aload_n hx hb dX3_rest_16 rfl (lv_at hl 1 rfl) ?_
  refine lv_aload_n hx hb dX3_rest_17 rfl (lv_at hl 1 rfl) ?_
  refine va_get (D := γ.1) (ci := 3) (v := .ref m2) (C := RX3) (T := TX3) (N := 8) hx hb hts iwX3_rest_3 hown hK hP 0 rfl rfl 5 (by decide) (hts _ flX3_rest_17) (fun _ h9 => h9) rfl dX3_rest_18 ?_
  refine xVR (q0 := 0) (ci := 3) (As := [.ref m2]) (rest := []) (stk := [.int (xFi (xSt n ((xStl n 300 f).2)) n)]) ⟨hx, hb, hml, hown, hts⟩ (c_X3_firstSteep γ l m0 m1 m2 m3 m4 n kc th td m2 ((xStl n 300 f).2) (by omega) (by omega)) (cwV 1 hts gX3_rest_X3_firstSteep rfl rfl rfl hdv_X3_firstSteep ⟨(Nat.le_of_ble_eq_true rfl), (Nat.le_of_ble_eq_true rfl)⟩) hK hP [0, 2] rfl rfl rfl rfl hl.1 rfl (Nat.le_of_ble_eq_true rfl) dX3_rest_21 ⟨(Nat.le_of_ble_eq_true rfl), (Nat.le_of_ble_eq_true rfl)⟩ rfl ?_
  refine lv_iconst (v := (-1)) hx hb dX3_rest_24 (by decide) ?_
  refine lv_icmp_ne (tgt := 32) hx hb dX3_rest_25 (by decide) (fun c25 => ?_) (fun c25 => ?_)
  · refine lv_iconst (v := (-1)) hx hb dX3_rest_32 (by decide) ?_
    subst hQ
    exact xM_i hx hb hr hlocks dX3_rest_33 hP rfl hS (Nat.le_of_ble_eq_true rfl) (Nat.le_of_ble_eq_true rfl) (⟨by unfold xRsM; rw [if_neg c25], rfl⟩)
  · refine lv_iload_n hx hb dX3_rest_28 rfl (lv_at hl 0 rfl) ?_
    refine lv_goto (tgt := 33) hx hb dX3_rest_29 (by decide) ?_
    subst hQ
    exact xM_i hx hb hr hlocks dX3_rest_33 hP rfl hS (Nat.le_of_ble_eq_true rfl) (Nat.le_of_ble_eq_true rfl) (⟨by unfold xRsM; rw [if_pos c25], rfl⟩)

theorem hdv_X3_rest : yX3_rest.cls = RX3 ∧ yX3_rest.cls ≠ "java/lang/invoke/MethodHandle" ∧ yX3_rest.cls ≠ "java/lang/invoke/VarHandle" ∧ (parseMethodDescriptor yX3_rest.desc).map (fun d => d.parameters.length) = some 0 := by decide +kernel
theorem hdv_X3_wide : yX3_wide.cls = RX3 ∧ yX3_wide.cls ≠ "java/lang/invoke/MethodHandle" ∧ yX3_wide.cls ≠ "java/lang/invoke/VarHandle" ∧ (parseMethodDescriptor yX3_wide.desc).map (fun d => d.parameters.length) = some 1 := by decide +kernel
theorem flX3_wideAtRest_17 : Cond.fieldLink RX3 17 "RingSeesawModel" "then" "[I" ∈ wsX3_wideAtRest := by decide +kernel
theorem iwX3_wideAtRest_3 : ∀ w ∈ wsX30, w ∈ wsX3_wideAtRest := by decide +kernel
set_option maxHeartbeats 4000000 in
set_option maxRecDepth 100000 in
theorem c_X3_wideAtRest (γ : xG) (l : Launch) (m0 m1 m2 m3 m4 n kc : Nat) (th td : Int32) (f tf : xRow) (hn0 : 3 ≤ n) (hn1 : n ≤ 12) : xM γ l yX3_wideAtRest wsX3_wideAtRest ({ frames := 5, cells := 0, slots := 0, locals := 111 } : Room) [.ref m0] ([xO m0 3 [.int th, .int (nI n), .int (nI kc), .int td, .ref m1, .ref m2, .ref m3, .ref m4], xA γ m1 12 f, xA γ m2 12 tf]) (fun r9 w9 => r9 = some (.int (xSrM n f)) ∧ ∃ h9 : xRow, w9 = [xO m0 3 [.int th, .int (nI n), .int (nI kc), .int td, .ref m1, .ref m2, .ref m3, .ref m4], xA γ m1 12 f, xA γ m2 12 h9]) 0 0 := by
  refine xM.of (cc := cX3_wideAtRest) (maxL := 1) (ret := (some .int)) (by decide +kernel) rfl (Nat.le_of_ble_eq_true rfl) ?_
  intro p e s m below meth c hx hb hr hml hts hown hlocks hin hP hK A hA hD ls hl
  have hS : va_S A s.heap s.heap [] := va_S.rf
  generalize hargs : ([.ref m0] : List Value).toArray = args at hts ⊢
  obtain ⟨Q, hQ⟩ : ∃ Q9, Q9 = MQ below (xMQ γ (List.map Prod.fst ([xO m0 3 [.int th, .int (nI n), .int (nI kc), .int td, .ref m1, .ref m2, .ref m3, .ref m4], xA γ m1 12 f, xA γ m2 12 tf])) A (fun r9 w9 => r9 = some (.int (xSrM n f)) ∧ ∃ h9 : xRow, w9 = [xO m0 3 [.int th, .int (nI n), .int (nI kc), .int td, .ref m1, .ref m2, .ref m3, .ref m4], xA γ m1 12 f, xA γ m2 12 h9])) args s 0 0 A := ⟨_, rfl⟩
  rw [← hQ]
  have hown : s.vm.findClass RX3 = some m.cls := hown
  have hl : lv_has ls 1 [(0, .ref m0)] := hl
  refine lv_aload_n hx hb dX3_wideAtRest_0 rfl (lv_at hl 0 rfl) ?_
  refine xVM (q0 := 0) (ci := 3) (As := []) (rest := []) ⟨hx, hb, hml, hown, hts⟩ (c_X3_rest γ l m0 m1 m2 m3 m4 n kc th td f tf (by omega) (by omega)) (cwV 0 hts gX3_wideAtRest_X3_rest rfl rfl rfl hdv_X3_rest ⟨(Nat.le_of_ble_eq_true rfl), (Nat.le_of_ble_eq_true rfl)⟩) hK hP hD hS hA [0, 1, 2] rfl rfl rfl rfl rfl hl.1 rfl (Nat.le_of_ble_eq_true rfl) dX3_wideAtRest_1 ⟨(Nat.le_of_ble_eq_true rfl), (Nat.le_of_ble_eq_true rfl)⟩ (fun r9 w9 H locs hw hP hD hS => ?_)
  obtain ⟨rfl, rfl⟩ := hw
  have hP : xP γ ([xO m0 3 [.int th, .int (nI n), .int (nI kc), .int td, .ref m1, .ref m2, .ref m3, .ref m4], xA γ m1 12 f, xA γ m2 12 ((xStl n 300 f).2)]) H := hP
  have hD : va_D A ([xO m0 3 [.int th, .int (nI n), .int (nI kc), .int td, .ref m1, .ref m2, .ref m3, .ref m4], xA γ m1 12 f, xA γ m2 12 ((xStl n 300 f).2)]) := hD
  refine W.eq (g2 := F0 m 4 ls [.int (xRsM n f)]) rfl ?_
  refine lv_iconst (v := (-1)) hx hb dX3_wideAtRest_4 (by decide) ?_
  refine lv_icmp_ne (tgt := 12) hx hb dX3_wideAtRest_5 (by decide) (fun c5 => ?_) (fun c5 => ?_)
  · refine lv_aload_n hx hb dX3_wideAtRest_12 rfl (lv_at hl 0 rfl) ?_
    refine lv_aload_n hx hb dX3_wideAtRest_13 rfl (lv_at hl 0 rfl) ?_
    refine va_get (D := γ.1) (ci := 3) (v := .ref m2) (C := RX3) (T := TX3) (N := 8) hx hb hts iwX3_wideAtRest_3 hown hK hP 0 rfl rfl 5 (by decide) (hts _ flX3_wideAtRest_17) (fun _ h9 => h9) rfl dX3_wideAtRest_14 ?_
    refine xVR (q0 := 0) (ci := 3) (As := [.ref m2]) (rest := []) (stk := [.int (xSpn n ((xStl n 300 f).2))]) ⟨hx, hb, hml, hown, hts⟩ (c_X3_wide γ l m0 m1 m2 m3 m4 n kc th td m2 ((xStl n 300 f).2) (by omega) (by omega)) (cwV 1 hts gX3_wideAtRest_X3_wide rfl rfl rfl hdv_X3_wide ⟨(Nat.le_of_ble_eq_true rfl), (Nat.le_of_ble_eq_true rfl)⟩) hK hP [0, 2] rfl rfl rfl rfl hl.1 rfl (Nat.le_of_ble_eq_true rfl) dX3_wideAtRest_17 ⟨(Nat.le_of_ble_eq_true rfl), (Nat.le_of_ble_eq_true rfl)⟩ rfl ?_
    subst hQ
    exact xM_i hx hb hr hlocks dX3_wideAtRest_20 hP rfl hS (Nat.le_of_ble_eq_true rfl) (Nat.le_of_ble_eq_true rfl) (⟨by unfold xSrM; rw [if_neg c5], _, rfl⟩)
  · refine lv_iconst (v := (-1)) hx hb dX3_wideAtRest_8 (by decide) ?_
    refine lv_goto (tgt := 20) hx hb dX3_wideAtRest_9 (by decide) ?_
    subst hQ
    exact xM_i hx hb hr hlocks dX3_wideAtRest_20 hP rfl hS (Nat.le_of_ble_eq_true rfl) (Nat.le_of_ble_eq_true rfl) (⟨by unfold xSrM; rw [if_pos c5], _, rfl⟩)

theorem flX3_wideWith_17 : Cond.fieldLink RX3 17 "RingSeesawModel" "then" "[I" ∈ wsX3_wideWith := by decide +kernel
theorem iwX3_wideWith_3 : ∀ w ∈ wsX30, w ∈ wsX3_wideWith := by decide +kernel
set_option maxHeartbeats 4000000 in
set_option maxRecDepth 100000 in
theorem c_X3_wideWith (γ : xG) (l : Launch) (m0 m1 m2 m3 m4 n kc : Nat) (th td : Int32) (f tf : xRow) (k : Nat) (x : Int32) (hn0 : 3 ≤ n) (hn1 : n ≤ 12) (hk : k < n) : xM γ l yX3_wideWith wsX3_wideWith ({ frames := 2, cells := 0, slots := 0, locals := 80 } : Room) [.ref m0, .int (nI k), .int x] ([xO m0 3 [.int th, .int (nI n), .int (nI kc), .int td, .ref m1, .ref m2, .ref m3, .ref m4], xA γ m1 12 f, xA γ m2 12 tf]) (fun r9 w9 => r9 = some (.int (xSpn n (xTip n f k x))) ∧ ∃ h9 : xRow, w9 = [xO m0 3 [.int th, .int (nI n), .int (nI kc), .int td, .ref m1, .ref m2, .ref m3, .ref m4], xA γ m1 12 f, xA γ m2 12 h9]) 0 0 := by
  refine xM.of (cc := cX3_wideWith) (maxL := 3) (ret := (some .int)) (by decide +kernel) rfl (Nat.le_of_ble_eq_true rfl) ?_
  intro p e s m below meth c hx hb hr hml hts hown hlocks hin hP hK A hA hD ls hl
  have hS : va_S A s.heap s.heap [] := va_S.rf
  generalize hargs : ([.ref m0, .int (nI k), .int x] : List Value).toArray = args at hts ⊢
  obtain ⟨Q, hQ⟩ : ∃ Q9, Q9 = MQ below (xMQ γ (List.map Prod.fst ([xO m0 3 [.int th, .int (nI n), .int (nI kc), .int td, .ref m1, .ref m2, .ref m3, .ref m4], xA γ m1 12 f, xA γ m2 12 tf])) A (fun r9 w9 => r9 = some (.int (xSpn n (xTip n f k x))) ∧ ∃ h9 : xRow, w9 = [xO m0 3 [.int th, .int (nI n), .int (nI kc), .int td, .ref m1, .ref m2, .ref m3, .ref m4], xA γ m1 12 f, xA γ m2 12 h9])) args s 0 0 A := ⟨_, rfl⟩
  rw [← hQ]
  have hown : s.vm.findClass RX3 = some m.cls := hown
  have hl : lv_has ls 3 [(0, .ref m0), (1, .int (nI k)), (2, .int x)] := hl
  refine lv_aload_n hx hb dX3_wideWith_0 rfl (lv_at hl 0 rfl) ?_
  refine xVM (q0 := 0) (ci := 3) (As := []) (rest := []) ⟨hx, hb, hml, hown, hts⟩ (c_X3_look γ l m0 m1 m2 m3 m4 n kc th td f tf) (cwV 0 hts gX3_wideWith_X3_look rfl rfl rfl hdv_X3_look ⟨(Nat.le_of_ble_eq_true rfl), (Nat.le_of_ble_eq_true rfl)⟩) hK hP hD hS hA [0, 1, 2] rfl rfl rfl rfl rfl hl.1 rfl (Nat.le_of_ble_eq_true rfl) dX3_wideWith_1 ⟨(Nat.le_of_ble_eq_true rfl), (Nat.le_of_ble_eq_true rfl)⟩ (fun r9 w9 H locs hw hP hD hS => ?_)
  obtain ⟨rfl, rfl⟩ := hw
  have hP : xP γ ([xO m0 3 [.int th, .int (nI n), .int (nI kc), .int td, .ref m1, .ref m2, .ref m3, .ref m4], xA γ m1 12 f, xA γ m2 12 f]) H := hP
  have hD : va_D A ([xO m0 3 [.int th, .int (nI n), .int (nI kc), .int td, .ref m1, .ref m2, .ref m3, .ref m4], xA γ m1 12 f, xA γ m2 12 f]) := hD
  refine W.eq (g2 := F0 m 4 ls []) rfl ?_
  refine lv_aload_n hx hb dX3_wideWith_4 rfl (lv_at hl 0 rfl) ?_
  refine lv_aload_n hx hb dX3_wideWith_5 rfl (lv_at hl 0 rfl) ?_
  refine va_get (D := γ.1) (ci := 3) (v := .ref m2) (C := RX3) (T := TX3) (N := 8) hx hb hts iwX3_wideWith_3 hown hK hP 0 rfl rfl 5 (by decide) (hts _ flX3_wideWith_17) (fun _ h9 => h9) rfl dX3_wideWith_6 ?_
  refine lv_iload_n hx hb dX3_wideWith_9 rfl (lv_at hl 1 rfl) ?_
  refine lv_iload_n hx hb dX3_wideWith_10 rfl (lv_at hl 2 rfl) ?_
  refine xVM (q0 := 0) (ci := 3) (As := [.ref m2, .int (nI k), .int x]) (rest := []) ⟨hx, hb, hml, hown, hts⟩ (c_X3_lean γ l m0 m1 m2 m3 m4 n kc th td m2 f k x (by omega) (by omega) (by omega)) (cwV 3 hts gX3_wideWith_X3_lean rfl rfl rfl hdv_X3_lean ⟨(Nat.le_of_ble_eq_true rfl), (Nat.le_of_ble_eq_true rfl)⟩) hK hP hD hS hA [0, 2] rfl rfl rfl rfl rfl hl.1 rfl (Nat.le_of_ble_eq_true rfl) dX3_wideWith_11 ⟨(Nat.le_of_ble_eq_true rfl), (Nat.le_of_ble_eq_true rfl)⟩ (fun r9 w9 H locs hw hP hD hS => ?_)
  obtain ⟨rfl, rfl⟩ := hw
  have hP : xP γ ([xO m0 3 [.int th, .int (nI n), .int (nI kc), .int td, .ref m1, .ref m2, .ref m3, .ref m4], xA γ m1 12 f, xA γ m2 12 (xTip n f k x)]) H := hP
  have hD : va_D A ([xO m0 3 [.int th, .int (nI n), .int (nI kc), .int td, .ref m1, .ref m2, .ref m3, .ref m4], xA γ m1 12 f, xA γ m2 12 (xTip n f k x)]) := hD
  refine W.eq (g2 := F0 m 14 ls []) rfl ?_
  refine lv_aload_n hx hb dX3_wideWith_14 rfl (lv_at hl 0 rfl) ?_
  refine lv_aload_n hx hb dX3_wideWith_15 rfl (lv_at hl 0 rfl) ?_
  refine va_get (D := γ.1) (ci := 3) (v := .ref m2) (C := RX3) (T := TX3) (N := 8) hx hb hts iwX3_wideWith_3 hown hK hP 0 rfl rfl 5 (by decide) (hts _ flX3_wideWith_17) (fun _ h9 => h9) rfl dX3_wideWith_16 ?_
  refine xVR (q0 := 0) (ci := 3) (As := [.ref m2]) (rest := []) (stk := [.int (xSpn n (xTip n f k x))]) ⟨hx, hb, hml, hown, hts⟩ (c_X3_wide γ l m0 m1 m2 m3 m4 n kc th td m2 (xTip n f k x) (by omega) (by omega)) (cwV 1 hts gX3_wideWith_X3_wide rfl rfl rfl hdv_X3_wide ⟨(Nat.le_of_ble_eq_true rfl), (Nat.le_of_ble_eq_true rfl)⟩) hK hP [0, 2] rfl rfl rfl rfl hl.1 rfl (Nat.le_of_ble_eq_true rfl) dX3_wideWith_19 ⟨(Nat.le_of_ble_eq_true rfl), (Nat.le_of_ble_eq_true rfl)⟩ rfl ?_
  subst hQ
  exact xM_i hx hb hr hlocks dX3_wideWith_22 hP rfl hS (Nat.le_of_ble_eq_true rfl) (Nat.le_of_ble_eq_true rfl) (⟨rfl, _, rfl⟩)

theorem hdv_X3_wideWith : yX3_wideWith.cls = RX3 ∧ yX3_wideWith.cls ≠ "java/lang/invoke/MethodHandle" ∧ yX3_wideWith.cls ≠ "java/lang/invoke/VarHandle" ∧ (parseMethodDescriptor yX3_wideWith.desc).map (fun d => d.parameters.length) = some 2 := by decide +kernel
theorem flX3_best_13 : Cond.fieldLink RX3 13 "RingSeesawModel" "x" "[I" ∈ wsX3_best := by decide +kernel
theorem iwX3_best_3 : ∀ w ∈ wsX30, w ∈ wsX3_best := by decide +kernel
theorem flX3_best_7 : Cond.fieldLink RX3 7 "RingSeesawModel" "n" "I" ∈ wsX3_best := by decide +kernel
theorem wdX3_best_m46a : Cond.methodLink RX3 46 Lib.Math.min.name ∈ wsX3_best := by decide +kernel
theorem wdX3_best_m46b : Cond.static Lib.Math.min.name ∈ wsX3_best := by decide +kernel
theorem wdX3_best_m46c : Cond.initialized "java/lang/Math" ∈ wsX3_best := by decide +kernel
theorem wdX3_best_m46d : Cond.code Lib.Math.min.name Lib.Math.min.code 2 (some .int) ∈ wsX3_best := by decide +kernel
set_option maxHeartbeats 4000000 in
set_option maxRecDepth 100000 in
theorem c_X3_best (γ : xG) (l : Launch) (m0 m1 m2 m3 m4 n kc : Nat) (th td : Int32) (f tf : xRow) (hn0 : 3 ≤ n) (hn1 : n ≤ 12) : xM γ l yX3_best wsX3_best ({ frames := 3, cells := 0, slots := 0, locals := 102 } : Room) [.ref m0] ([xO m0 3 [.int th, .int (nI n), .int (nI kc), .int td, .ref m1, .ref m2, .ref m3, .ref m4], xA γ m1 12 f, xA γ m2 12 tf]) (fun r9 w9 => r9 = some (.int (xBp n f n).1) ∧ ∃ h9 : xRow, w9 = [xO m0 3 [.int th, .int (nI n), .int (nI kc), .int td, .ref m1, .ref m2, .ref m3, .ref m4], xA γ m1 12 f, xA γ m2 12 h9]) 0 0 := by
  refine xM.of (cc := cX3_best) (maxL := 5) (ret := (some .int)) (by decide +kernel) rfl (Nat.le_of_ble_eq_true rfl) ?_
  intro p e s m below meth c hx hb hr hml hts hown hlocks hin hP hK A hA hD ls hl
  have hS : va_S A s.heap s.heap [] := va_S.rf
  generalize hargs : ([.ref m0] : List Value).toArray = args at hts ⊢
  obtain ⟨Q, hQ⟩ : ∃ Q9, Q9 = MQ below (xMQ γ (List.map Prod.fst ([xO m0 3 [.int th, .int (nI n), .int (nI kc), .int td, .ref m1, .ref m2, .ref m3, .ref m4], xA γ m1 12 f, xA γ m2 12 tf])) A (fun r9 w9 => r9 = some (.int (xBp n f n).1) ∧ ∃ h9 : xRow, w9 = [xO m0 3 [.int th, .int (nI n), .int (nI kc), .int td, .ref m1, .ref m2, .ref m3, .ref m4], xA γ m1 12 f, xA γ m2 12 h9])) args s 0 0 A := ⟨_, rfl⟩
  rw [← hQ]
  have hown : s.vm.findClass RX3 = some m.cls := hown
  have hl : lv_has ls 5 [(0, .ref m0)] := hl
  refine lv_iconst (v := (-1)) hx hb dX3_best_0 (by decide) ?_
  refine lv_istore_n (lv' := [(1, .int (-1)), (0, .ref m0)]) hx hb dX3_best_1 rfl hl (by decide) rfl (fun ls hl => ?_)
  refine lv_aload_n hx hb dX3_best_2 rfl (lv_at hl 1 rfl) ?_
  refine lv_aload_n hx hb dX3_best_3 rfl (lv_at hl 1 rfl) ?_
  refine va_get (D := γ.1) (ci := 3) (v := .ref m1) (C := RX3) (T := TX3) (N := 8) hx hb hts iwX3_best_3 hown hK hP 0 rfl rfl 4 (by decide) (hts _ flX3_best_13) (fun _ h9 => h9) rfl dX3_best_4 ?_
  refine xVR (q0 := 0) (ci := 3) (As := [.ref m1]) (rest := []) (stk := [.int (xSpn n f)]) ⟨hx, hb, hml, hown, hts⟩ (c_X3_wide γ l m0 m1 m2 m3 m4 n kc th td m1 f (by omega) (by omega)) (cwV 1 hts gX3_best_X3_wide rfl rfl rfl hdv_X3_wide ⟨(Nat.le_of_ble_eq_true rfl), (Nat.le_of_ble_eq_true rfl)⟩) hK hP [0, 1] rfl rfl rfl rfl hl.1 rfl (Nat.le_of_ble_eq_true rfl) dX3_best_7 ⟨(Nat.le_of_ble_eq_true rfl), (Nat.le_of_ble_eq_true rfl)⟩ rfl ?_
  refine lv_istore_n (lv' := [(2, .int (xSpn n f)), (1, .int (-1)), (0, .ref m0)]) hx hb dX3_best_10 rfl hl (by decide) rfl (fun ls hl => ?_)
  refine lv_iconst (v := 0) hx hb dX3_best_11 (by decide) ?_
  refine lv_istore_n (lv' := [(3, .int 0), (2, .int (xSpn n f)), (1, .int (-1)), (0, .ref m0)]) hx hb dX3_best_12 rfl hl (by decide) rfl (fun ls hl => ?_)
  have loop13 : ∀ j : Nat, ∀ (k : Nat) (tf : xRow), k + j = n → ∀ (H : Heap) (locs : List Loc), xP γ ([xO m0 3 [.int th, .int (nI n), .int (nI kc), .int td, .ref m1, .ref m2, .ref m3, .ref m4], xA γ m1 12 f, xA γ m2 12 tf]) H → va_D A ([xO m0 3 [.int th, .int (nI n), .int (nI kc), .int td, .ref m1, .ref m2, .ref m3, .ref m4], xA γ m1 12 f, xA γ m2 12 tf]) → va_S A s.heap H locs → ∀ ls : Array Slot, lv_has ls 5 [(0, .ref m0), (1, .int ((xBp n f k).1)), (2, .int ((xBp n f k).2)), (3, .int (nI k))] → W p l e ({ frames := 3, cells := 0, slots := 0, locals := 102 } : Room) s m args below meth c H locs 0 0 Q (F0 m 13 ls []) := by
    intro j
    induction j with
    | zero =>
      intro k tf hj H locs hP hD hS ls hl
      refine lv_iload_n hx hb dX3_best_13 rfl (lv_at hl 3 rfl) ?_
      refine lv_aload_n hx hb dX3_best_14 rfl (lv_at hl 0 rfl) ?_
      refine va_get (D := γ.1) (ci := 3) (v := .int (nI n)) (C := RX3) (T := TX3) (N := 8) hx hb hts iwX3_best_3 hown hK hP 0 rfl rfl 1 (by decide) (hts _ flX3_best_7) (fun _ h9 => h9) rfl dX3_best_15 ?_
      refine lv_icmp_ge (tgt := 58) hx hb dX3_best_18 (by decide) (fun _ => ?_) (fun c => absurd (nI_le (a := n) (b := k) (by omega) (by omega)) c)
      refine lv_iload_n hx hb dX3_best_58 rfl (lv_at hl 1 rfl) ?_
      subst hQ
      exact xM_i hx hb hr hlocks dX3_best_59 hP rfl hS (Nat.le_of_ble_eq_true rfl) (Nat.le_of_ble_eq_true rfl) (⟨by rw [show k = n by omega], _, rfl⟩)
    | succ j ih13 =>
      intro k tf hj H locs hP hD hS ls hl
      refine lv_iload_n hx hb dX3_best_13 rfl (lv_at hl 3 rfl) ?_
      refine lv_aload_n hx hb dX3_best_14 rfl (lv_at hl 0 rfl) ?_
      refine va_get (D := γ.1) (ci := 3) (v := .int (nI n)) (C := RX3) (T := TX3) (N := 8) hx hb hts iwX3_best_3 hown hK hP 0 rfl rfl 1 (by decide) (hts _ flX3_best_7) (fun _ h9 => h9) rfl dX3_best_15 ?_
      refine lv_icmp_ge (tgt := 58) hx hb dX3_best_18 (by decide) (fun c => absurd c (nI_ge (a := k) (b := n) (by omega) (by omega))) (fun _ => ?_)
      refine lv_aload_n hx hb dX3_best_21 rfl (lv_at hl 0 rfl) ?_
      refine lv_iload_n hx hb dX3_best_22 rfl (lv_at hl 3 rfl) ?_
      refine lv_iconst (v := 1) hx hb dX3_best_23 (by decide) ?_
      refine xVM (q0 := 0) (ci := 3) (As := [.int (nI k), .int 1]) (rest := []) ⟨hx, hb, hml, hown, hts⟩ (c_X3_wideWith γ l m0 m1 m2 m3 m4 n kc th td f tf k 1 (by omega) (by omega) (by omega)) (cwV 2 hts gX3_best_X3_wideWith rfl rfl rfl hdv_X3_wideWith ⟨(Nat.le_of_ble_eq_true rfl), (Nat.le_of_ble_eq_true rfl)⟩) hK hP hD hS hA [0, 1, 2] rfl rfl rfl rfl rfl hl.1 rfl (Nat.le_of_ble_eq_true rfl) dX3_best_24 ⟨(Nat.le_of_ble_eq_true rfl), (Nat.le_of_ble_eq_true rfl)⟩ (fun r9 w9 H locs hw hP hD hS => ?_)
      obtain ⟨rfl, h55x, rfl⟩ := hw
      have hP : xP γ ([xO m0 3 [.int th, .int (nI n), .int (nI kc), .int td, .ref m1, .ref m2, .ref m3, .ref m4], xA γ m1 12 f, xA γ m2 12 h55x]) H := hP
      have hD : va_D A ([xO m0 3 [.int th, .int (nI n), .int (nI kc), .int td, .ref m1, .ref m2, .ref m3, .ref m4], xA γ m1 12 f, xA γ m2 12 h55x]) := hD
      refine W.eq (g2 := F0 m 27 ls [.int (xSpn n (xTip n f k 1))]) rfl ?_
      refine lv_aload_n hx hb dX3_best_27 rfl (lv_at hl 0 rfl) ?_
      refine lv_iload_n hx hb dX3_best_28 rfl (lv_at hl 3 rfl) ?_
      refine lv_iconst (v := (-1)) hx hb dX3_best_29 (by decide) ?_
      refine xVM (q0 := 0) (ci := 3) (As := [.int (nI k), .int (-1)]) (rest := [.int (xSpn n (xTip n f k 1))]) ⟨hx, hb, hml, hown, hts⟩ (c_X3_wideWith γ l m0 m1 m2 m3 m4 n kc th td f h55x k (-1) (by omega) (by omega) (by omega)) (cwV 2 hts gX3_best_X3_wideWith rfl rfl rfl hdv_X3_wideWith ⟨(Nat.le_of_ble_eq_true rfl), (Nat.le_of_ble_eq_true rfl)⟩) hK hP hD hS hA [0, 1, 2] rfl rfl rfl rfl rfl hl.1 rfl (Nat.le_of_ble_eq_true rfl) dX3_best_30 ⟨(Nat.le_of_ble_eq_true rfl), (Nat.le_of_ble_eq_true rfl)⟩ (fun r9 w9 H locs hw hP hD hS => ?_)
      obtain ⟨rfl, h56x, rfl⟩ := hw
      have hP : xP γ ([xO m0 3 [.int th, .int (nI n), .int (nI kc), .int td, .ref m1, .ref m2, .ref m3, .ref m4], xA γ m1 12 f, xA γ m2 12 h56x]) H := hP
      have hD : va_D A ([xO m0 3 [.int th, .int (nI n), .int (nI kc), .int td, .ref m1, .ref m2, .ref m3, .ref m4], xA γ m1 12 f, xA γ m2 12 h56x]) := hD
      refine W.eq (g2 := F0 m 33 ls [.int (xSpn n (xTip n f k (-1))), .int (xSpn n (xTip n f k 1))]) rfl ?_
      refine va_mmin hx hb (hml.trans hl.1.symm) hown (hts _ wdX3_best_m46a) (hts _ wdX3_best_m46b) (hts _ wdX3_best_m46c) (hts _ wdX3_best_m46d) (Nat.le_of_ble_eq_true rfl) (Nat.le_of_ble_eq_true rfl) (Nat.le_of_ble_eq_true rfl) (Nat.le_of_ble_eq_true rfl) dX3_best_33 ?_
      refine x_top (y := xSp2 n f k) (rfl) ?_
      refine lv_istore (lv' := [(4, .int (xSp2 n f k)), (0, .ref m0), (1, .int ((xBp n f k).1)), (2, .int ((xBp n f k).2)), (3, .int (nI k))]) hx hb dX3_best_36 hl (by decide) rfl (fun ls hl => ?_)
      refine lv_iload hx hb dX3_best_38 (lv_at hl 0 rfl) ?_
      refine lv_iload_n hx hb dX3_best_40 rfl (lv_at hl 3 rfl) ?_
      refine lv_icmp_lt (tgt := 47) hx hb dX3_best_41 (by decide) (fun c41 => ?_) (fun c41 => ?_)
      · refine lv_iload_n hx hb dX3_best_47 rfl (lv_at hl 4 rfl) ?_
        refine x_top (y := (xBp n f (k + 1)).1) (by rw [xBp_t2 c41]) ?_
        refine lv_istore_n (lv' := [(1, .int ((xBp n f (k + 1)).1)), (4, .int (xSp2 n f k)), (0, .ref m0), (2, .int ((xBp n f k).2)), (3, .int (nI k))]) hx hb dX3_best_48 rfl hl (by decide) rfl (fun ls hl => ?_)
        refine lv_iload hx hb dX3_best_49 (lv_at hl 1 rfl) ?_
        refine x_top (y := (xBp n f (k + 1)).2) (by rw [xBp_t2 c41]) ?_
        refine lv_istore_n (lv' := [(2, .int ((xBp n f (k + 1)).2)), (1, .int ((xBp n f (k + 1)).1)), (4, .int (xSp2 n f k)), (0, .ref m0), (3, .int (nI k))]) hx hb dX3_best_51 rfl hl (by decide) rfl (fun ls hl => ?_)
        refine lv_iinc (v := nI (k + 1)) (lv' := [(3, .int (nI (k + 1))), (2, .int ((xBp n f (k + 1)).2)), (1, .int ((xBp n f (k + 1)).1)), (4, .int (xSp2 n f k)), (0, .ref m0)]) hx hb dX3_best_52 hl (k := 4) rfl (nI_add k 1) (by decide) rfl (fun ls hl => ?_)
        refine lv_goto (tgt := 13) hx hb dX3_best_55 (by decide) ?_
        exact ih13 (k + 1) h56x (by omega) _ _ hP hD hS ls (lv_sub hl [4, 2, 1, 0] rfl)
      · refine lv_goto (tgt := 52) hx hb dX3_best_44 (by decide) ?_
        rw [← xBp_f2 c41] at hl
        refine lv_iinc (v := nI (k + 1)) (lv' := [(3, .int (nI (k + 1))), (4, .int (xSp2 n f k)), (0, .ref m0), (1, .int ((xBp n f (k + 1)).1)), (2, .int ((xBp n f (k + 1)).2))]) hx hb dX3_best_52 hl (k := 4) rfl (nI_add k 1) (by decide) rfl (fun ls hl => ?_)
        refine lv_goto (tgt := 13) hx hb dX3_best_55 (by decide) ?_
        exact ih13 (k + 1) h56x (by omega) _ _ hP hD hS ls (lv_sub hl [2, 3, 4, 0] rfl)
  exact loop13 n 0 tf (by omega) _ _ hP hD hS ls (lv_sub hl [3, 2, 1, 0] rfl)

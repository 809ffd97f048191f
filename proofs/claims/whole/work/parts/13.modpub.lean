/-! RingSeesawModel, its public methods (rows laid by wip/whole/spec_modpub.py) -/
theorem hdv_X3_ok : yX3_ok.cls = RX3 ∧ yX3_ok.cls ≠ "java/lang/invoke/MethodHandle" ∧ yX3_ok.cls ≠ "java/lang/invoke/VarHandle" ∧ (parseMethodDescriptor yX3_ok.desc).map (fun d => d.parameters.length) = some 1 := by decide +kernel
theorem flX3_places_7 : Cond.fieldLink RX3 7 "RingSeesawModel" "n" "I" ∈ wsX3_places := by decide +kernel
theorem iwX3_places_3 : ∀ w ∈ wsX30, w ∈ wsX3_places := by decide +kernel
set_option maxHeartbeats 4000000 in
set_option maxRecDepth 100000 in
theorem c_X3_places (γ : xG) (l : Launch) (m0 m1 m2 m3 m4 n kc : Nat) (th td : Int32)   : xM γ l yX3_places wsX3_places ({ frames := 1, cells := 0, slots := 0, locals := 21 } : Room) [.ref m0] ([xO m0 3 [.int th, .int (nI n), .int (nI kc), .int td, .ref m1, .ref m2, .ref m3, .ref m4]]) (fun r9 w9 => r9 = some (.int (nI n)) ∧ w9 = [xO m0 3 [.int 0, .int (nI n), .int (nI kc), .int td, .ref m1, .ref m2, .ref m3, .ref m4]]) 0 0 := by
  refine xM.of (cc := cX3_places) (maxL := 1) (ret := (some .int)) (by decide +kernel) rfl (Nat.le_of_ble_eq_true rfl) ?_
  intro p e s m below meth c hx hb hr hml hts hown hlocks hin hP hK A hA hD ls hl
  have hS : va_S A s.heap s.heap [] := va_S.rf
  generalize hargs : ([.ref m0] : List Value).toArray = args at hts ⊢
  obtain ⟨Q, hQ⟩ : ∃ Q9, Q9 = MQ below (xMQ γ (List.map Prod.fst ([xO m0 3 [.int th, .int (nI n), .int (nI kc), .int td, .ref m1, .ref m2, .ref m3, .ref m4]])) A (fun r9 w9 => r9 = some (.int (nI n)) ∧ w9 = [xO m0 3 [.int 0, .int (nI n), .int (nI kc), .int td, .ref m1, .ref m2, .ref m3, .ref m4]])) args s 0 0 A := ⟨_, rfl⟩
  rw [← hQ]
  have hown : s.vm.findClass RX3 = some m.cls := hown
  have hl : lv_has ls 1 [(0, .ref m0)] := hl
  refine lv_aload_n hx hb dX3_places_0 rfl (lv_at hl 0 rfl) ?_
  refine lv_aload_n hx hb dX3_places_1 rfl (lv_at hl 0 rfl) ?_
  refine va_get (D := γ.1) (ci := 3) (v := .int (nI n)) (C := RX3) (T := TX3) (N := 8) hx hb hts iwX3_places_3 hown hK hP 0 rfl rfl 1 (by decide) (hts _ flX3_places_7) (fun _ h9 => h9) rfl dX3_places_2 ?_
  refine xVM (q0 := 0) (ci := 3) (As := [.int (nI n)]) (rest := []) ⟨hx, hb, hml, hown, hts⟩ (c_X3_ok γ l m0 m1 m2 m3 m4 n kc th td (nI n)) (cwV 1 hts gX3_places_X3_ok rfl rfl rfl hdv_X3_ok ⟨(Nat.le_of_ble_eq_true rfl), (Nat.le_of_ble_eq_true rfl)⟩) hK hP hD hS hA [0] rfl rfl rfl rfl rfl hl.1 rfl (Nat.le_of_ble_eq_true rfl) dX3_places_5 ⟨(Nat.le_of_ble_eq_true rfl), (Nat.le_of_ble_eq_true rfl)⟩ (fun r9 w9 H locs hw hP hD hS => ?_)
  obtain ⟨rfl, rfl⟩ := hw
  have hP : xP γ ([xO m0 3 [.int 0, .int (nI n), .int (nI kc), .int td, .ref m1, .ref m2, .ref m3, .ref m4]]) H := hP
  have hD : va_D A ([xO m0 3 [.int 0, .int (nI n), .int (nI kc), .int td, .ref m1, .ref m2, .ref m3, .ref m4]]) := hD
  refine W.eq (g2 := F0 m 8 ls [.int (nI n)]) rfl ?_
  subst hQ
  exact xM_i hx hb hr hlocks dX3_places_8 hP rfl hS (Nat.le_of_ble_eq_true rfl) (Nat.le_of_ble_eq_true rfl) (⟨rfl, rfl⟩)

theorem flX3_targets_33 : Cond.fieldLink RX3 33 "RingSeesawModel" "targets" "I" ∈ wsX3_targets := by decide +kernel
theorem iwX3_targets_3 : ∀ w ∈ wsX30, w ∈ wsX3_targets := by decide +kernel
set_option maxHeartbeats 4000000 in
set_option maxRecDepth 100000 in
theorem c_X3_targets (γ : xG) (l : Launch) (m0 m1 m2 m3 m4 n kc : Nat) (th td : Int32)   : xM γ l yX3_targets wsX3_targets ({ frames := 1, cells := 0, slots := 0, locals := 21 } : Room) [.ref m0] ([xO m0 3 [.int th, .int (nI n), .int (nI kc), .int td, .ref m1, .ref m2, .ref m3, .ref m4]]) (fun r9 w9 => r9 = some (.int (nI kc)) ∧ w9 = [xO m0 3 [.int 0, .int (nI n), .int (nI kc), .int td, .ref m1, .ref m2, .ref m3, .ref m4]]) 0 0 := by
  refine xM.of (cc := cX3_targets) (maxL := 1) (ret := (some .int)) (by decide +kernel) rfl (Nat.le_of_ble_eq_true rfl) ?_
  intro p e s m below meth c hx hb hr hml hts hown hlocks hin hP hK A hA hD ls hl
  have hS : va_S A s.heap s.heap [] := va_S.rf
  generalize hargs : ([.ref m0] : List Value).toArray = args at hts ⊢
  obtain ⟨Q, hQ⟩ : ∃ Q9, Q9 = MQ below (xMQ γ (List.map Prod.fst ([xO m0 3 [.int th, .int (nI n), .int (nI kc), .int td, .ref m1, .ref m2, .ref m3, .ref m4]])) A (fun r9 w9 => r9 = some (.int (nI kc)) ∧ w9 = [xO m0 3 [.int 0, .int (nI n), .int (nI kc), .int td, .ref m1, .ref m2, .ref m3, .ref m4]])) args s 0 0 A := ⟨_, rfl⟩
  rw [← hQ]
  have hown : s.vm.findClass RX3 = some m.cls := hown
  have hl : lv_has ls 1 [(0, .ref m0)] := hl
  refine lv_aload_n hx hb dX3_targets_0 rfl (lv_at hl 0 rfl) ?_
  refine lv_aload_n hx hb dX3_targets_1 rfl (lv_at hl 0 rfl) ?_
  refine va_get (D := γ.1) (ci := 3) (v := .int (nI kc)) (C := RX3) (T := TX3) (N := 8) hx hb hts iwX3_targets_3 hown hK hP 0 rfl rfl 2 (by decide) (hts _ flX3_targets_33) (fun _ h9 => h9) rfl dX3_targets_2 ?_
  refine xVM (q0 := 0) (ci := 3) (As := [.int (nI kc)]) (rest := []) ⟨hx, hb, hml, hown, hts⟩ (c_X3_ok γ l m0 m1 m2 m3 m4 n kc th td (nI kc)) (cwV 1 hts gX3_targets_X3_ok rfl rfl rfl hdv_X3_ok ⟨(Nat.le_of_ble_eq_true rfl), (Nat.le_of_ble_eq_true rfl)⟩) hK hP hD hS hA [0] rfl rfl rfl rfl rfl hl.1 rfl (Nat.le_of_ble_eq_true rfl) dX3_targets_5 ⟨(Nat.le_of_ble_eq_true rfl), (Nat.le_of_ble_eq_true rfl)⟩ (fun r9 w9 H locs hw hP hD hS => ?_)
  obtain ⟨rfl, rfl⟩ := hw
  have hP : xP γ ([xO m0 3 [.int 0, .int (nI n), .int (nI kc), .int td, .ref m1, .ref m2, .ref m3, .ref m4]]) H := hP
  have hD : va_D A ([xO m0 3 [.int 0, .int (nI n), .int (nI kc), .int td, .ref m1, .ref m2, .ref m3, .ref m4]]) := hD
  refine W.eq (g2 := F0 m 8 ls [.int (nI kc)]) rfl ?_
  subst hQ
  exact xM_i hx hb hr hlocks dX3_targets_8 hP rfl hS (Nat.le_of_ble_eq_true rfl) (Nat.le_of_ble_eq_true rfl) (⟨rfl, rfl⟩)

theorem flX3_tips_74 : Cond.fieldLink RX3 74 "RingSeesawModel" "tips" "I" ∈ wsX3_tips := by decide +kernel
theorem iwX3_tips_3 : ∀ w ∈ wsX30, w ∈ wsX3_tips := by decide +kernel
set_option maxHeartbeats 4000000 in
set_option maxRecDepth 100000 in
theorem c_X3_tips (γ : xG) (l : Launch) (m0 m1 m2 m3 m4 n kc : Nat) (th td : Int32)   : xM γ l yX3_tips wsX3_tips ({ frames := 1, cells := 0, slots := 0, locals := 21 } : Room) [.ref m0] ([xO m0 3 [.int th, .int (nI n), .int (nI kc), .int td, .ref m1, .ref m2, .ref m3, .ref m4]]) (fun r9 w9 => r9 = some (.int td) ∧ w9 = [xO m0 3 [.int 0, .int (nI n), .int (nI kc), .int td, .ref m1, .ref m2, .ref m3, .ref m4]]) 0 0 := by
  refine xM.of (cc := cX3_tips) (maxL := 1) (ret := (some .int)) (by decide +kernel) rfl (Nat.le_of_ble_eq_true rfl) ?_
  intro p e s m below meth c hx hb hr hml hts hown hlocks hin hP hK A hA hD ls hl
  have hS : va_S A s.heap s.heap [] := va_S.rf
  generalize hargs : ([.ref m0] : List Value).toArray = args at hts ⊢
  obtain ⟨Q, hQ⟩ : ∃ Q9, Q9 = MQ below (xMQ γ (List.map Prod.fst ([xO m0 3 [.int th, .int (nI n), .int (nI kc), .int td, .ref m1, .ref m2, .ref m3, .ref m4]])) A (fun r9 w9 => r9 = some (.int td) ∧ w9 = [xO m0 3 [.int 0, .int (nI n), .int (nI kc), .int td, .ref m1, .ref m2, .ref m3, .ref m4]])) args s 0 0 A := ⟨_, rfl⟩
  rw [← hQ]
  have hown : s.vm.findClass RX3 = some m.cls := hown
  have hl : lv_has ls 1 [(0, .ref m0)] := hl
  refine lv_aload_n hx hb dX3_tips_0 rfl (lv_at hl 0 rfl) ?_
  refine lv_aload_n hx hb dX3_tips_1 rfl (lv_at hl 0 rfl) ?_
  refine va_get (D := γ.1) (ci := 3) (v := .int td) (C := RX3) (T := TX3) (N := 8) hx hb hts iwX3_tips_3 hown hK hP 0 rfl rfl 3 (by decide) (hts _ flX3_tips_74) (fun _ h9 => h9) rfl dX3_tips_2 ?_
  refine xVM (q0 := 0) (ci := 3) (As := [.int td]) (rest := []) ⟨hx, hb, hml, hown, hts⟩ (c_X3_ok γ l m0 m1 m2 m3 m4 n kc th td td) (cwV 1 hts gX3_tips_X3_ok rfl rfl rfl hdv_X3_ok ⟨(Nat.le_of_ble_eq_true rfl), (Nat.le_of_ble_eq_true rfl)⟩) hK hP hD hS hA [0] rfl rfl rfl rfl rfl hl.1 rfl (Nat.le_of_ble_eq_true rfl) dX3_tips_5 ⟨(Nat.le_of_ble_eq_true rfl), (Nat.le_of_ble_eq_true rfl)⟩ (fun r9 w9 H locs hw hP hD hS => ?_)
  obtain ⟨rfl, rfl⟩ := hw
  have hP : xP γ ([xO m0 3 [.int 0, .int (nI n), .int (nI kc), .int td, .ref m1, .ref m2, .ref m3, .ref m4]]) H := hP
  have hD : va_D A ([xO m0 3 [.int 0, .int (nI n), .int (nI kc), .int td, .ref m1, .ref m2, .ref m3, .ref m4]]) := hD
  refine W.eq (g2 := F0 m 8 ls [.int td]) rfl ?_
  subst hQ
  exact xM_i hx hb hr hlocks dX3_tips_8 hP rfl hS (Nat.le_of_ble_eq_true rfl) (Nat.le_of_ble_eq_true rfl) (⟨rfl, rfl⟩)

theorem hdv_X3_sumOf : yX3_sumOf.cls = RX3 ∧ yX3_sumOf.cls ≠ "java/lang/invoke/MethodHandle" ∧ yX3_sumOf.cls ≠ "java/lang/invoke/VarHandle" ∧ (parseMethodDescriptor yX3_sumOf.desc).map (fun d => d.parameters.length) = some 0 := by decide +kernel
set_option maxHeartbeats 4000000 in
set_option maxRecDepth 100000 in
theorem c_X3_sum (γ : xG) (l : Launch) (m0 m1 m2 m3 m4 n kc : Nat) (th td : Int32) (f : xRow) (hn0 : 3 ≤ n) (hn1 : n ≤ 12) : xM γ l yX3_sum wsX3_sum ({ frames := 1, cells := 0, slots := 0, locals := 22 } : Room) [.ref m0] ([xO m0 3 [.int th, .int (nI n), .int (nI kc), .int td, .ref m1, .ref m2, .ref m3, .ref m4], xA γ m1 12 f]) (fun r9 w9 => r9 = some (.int (xTot f n)) ∧ w9 = [xO m0 3 [.int 0, .int (nI n), .int (nI kc), .int td, .ref m1, .ref m2, .ref m3, .ref m4], xA γ m1 12 f]) 0 0 := by
  refine xM.of (cc := cX3_sum) (maxL := 1) (ret := (some .int)) (by decide +kernel) rfl (Nat.le_of_ble_eq_true rfl) ?_
  intro p e s m below meth c hx hb hr hml hts hown hlocks hin hP hK A hA hD ls hl
  have hS : va_S A s.heap s.heap [] := va_S.rf
  generalize hargs : ([.ref m0] : List Value).toArray = args at hts ⊢
  obtain ⟨Q, hQ⟩ : ∃ Q9, Q9 = MQ below (xMQ γ (List.map Prod.fst ([xO m0 3 [.int th, .int (nI n), .int (nI kc), .int td, .ref m1, .ref m2, .ref m3, .ref m4], xA γ m1 12 f])) A (fun r9 w9 => r9 = some (.int (xTot f n)) ∧ w9 = [xO m0 3 [.int 0, .int (nI n), .int (nI kc), .int td, .ref m1, .ref m2, .ref m3, .ref m4], xA γ m1 12 f])) args s 0 0 A := ⟨_, rfl⟩
  rw [← hQ]
  have hown : s.vm.findClass RX3 = some m.cls := hown
  have hl : lv_has ls 1 [(0, .ref m0)] := hl
  refine lv_aload_n hx hb dX3_sum_0 rfl (lv_at hl 0 rfl) ?_
  refine lv_aload_n hx hb dX3_sum_1 rfl (lv_at hl 0 rfl) ?_
  refine xVR (q0 := 0) (ci := 3) (As := []) (rest := [.ref m0]) (stk := [.int (xTot f n), .ref m0]) ⟨hx, hb, hml, hown, hts⟩ (c_X3_sumOf γ l m0 m1 m2 m3 m4 n kc th td f (by omega) (by omega)) (cwV 0 hts gX3_sum_X3_sumOf rfl rfl rfl hdv_X3_sumOf ⟨(Nat.le_of_ble_eq_true rfl), (Nat.le_of_ble_eq_true rfl)⟩) hK hP [0, 1] rfl rfl rfl rfl hl.1 rfl (Nat.le_of_ble_eq_true rfl) dX3_sum_2 ⟨(Nat.le_of_ble_eq_true rfl), (Nat.le_of_ble_eq_true rfl)⟩ rfl ?_
  refine xVM (q0 := 0) (ci := 3) (As := [.int (xTot f n)]) (rest := []) ⟨hx, hb, hml, hown, hts⟩ (c_X3_ok γ l m0 m1 m2 m3 m4 n kc th td (xTot f n)) (cwV 1 hts gX3_sum_X3_ok rfl rfl rfl hdv_X3_ok ⟨(Nat.le_of_ble_eq_true rfl), (Nat.le_of_ble_eq_true rfl)⟩) hK hP hD hS hA [0] rfl rfl rfl rfl rfl hl.1 rfl (Nat.le_of_ble_eq_true rfl) dX3_sum_5 ⟨(Nat.le_of_ble_eq_true rfl), (Nat.le_of_ble_eq_true rfl)⟩ (fun r9 w9 H locs hw hP hD hS => ?_)
  obtain ⟨rfl, rfl⟩ := hw
  have hP : xP γ ([xO m0 3 [.int 0, .int (nI n), .int (nI kc), .int td, .ref m1, .ref m2, .ref m3, .ref m4], xA γ m1 12 f]) H := hP
  have hD : va_D A ([xO m0 3 [.int 0, .int (nI n), .int (nI kc), .int td, .ref m1, .ref m2, .ref m3, .ref m4], xA γ m1 12 f]) := hD
  refine W.eq (g2 := F0 m 8 ls [.int (xTot f n)]) rfl ?_
  subst hQ
  exact xM_i hx hb hr hlocks dX3_sum_8 hP rfl hS (Nat.le_of_ble_eq_true rfl) (Nat.le_of_ble_eq_true rfl) (⟨rfl, rfl⟩)

theorem hdv_X3_turning : yX3_turning.cls = RX3 ∧ yX3_turning.cls ≠ "java/lang/invoke/MethodHandle" ∧ yX3_turning.cls ≠ "java/lang/invoke/VarHandle" ∧ (parseMethodDescriptor yX3_turning.desc).map (fun d => d.parameters.length) = some 0 := by decide +kernel
set_option maxHeartbeats 4000000 in
set_option maxRecDepth 100000 in
theorem c_X3_moment (γ : xG) (l : Launch) (m0 m1 m2 m3 m4 n kc : Nat) (th td : Int32) (f : xRow) (hn0 : 3 ≤ n) (hn1 : n ≤ 12) : xM γ l yX3_moment wsX3_moment ({ frames := 2, cells := 0, slots := 0, locals := 44 } : Room) [.ref m0] ([xO m0 3 [.int th, .int (nI n), .int (nI kc), .int td, .ref m1, .ref m2, .ref m3, .ref m4], xA γ m1 12 f]) (fun r9 w9 => r9 = some (.int (xMm n f)) ∧ w9 = [xO m0 3 [.int 0, .int (nI n), .int (nI kc), .int td, .ref m1, .ref m2, .ref m3, .ref m4], xA γ m1 12 f]) 0 0 := by
  refine xM.of (cc := cX3_moment) (maxL := 1) (ret := (some .int)) (by decide +kernel) rfl (Nat.le_of_ble_eq_true rfl) ?_
  intro p e s m below meth c hx hb hr hml hts hown hlocks hin hP hK A hA hD ls hl
  have hS : va_S A s.heap s.heap [] := va_S.rf
  generalize hargs : ([.ref m0] : List Value).toArray = args at hts ⊢
  obtain ⟨Q, hQ⟩ : ∃ Q9, Q9 = MQ below (xMQ γ (List.map Prod.fst ([xO m0 3 [.int th, .int (nI n), .int (nI kc), .int td, .ref m1, .ref m2, .ref m3, .ref m4], xA γ m1 12 f])) A (fun r9 w9 => r9 = some (.int (xMm n f)) ∧ w9 = [xO m0 3 [.int 0, .int (nI n), .int (nI kc), .int td, .ref m1, .ref m2, .ref m3, .ref m4], xA γ m1 12 f])) args s 0 0 A := ⟨_, rfl⟩
  rw [← hQ]
  have hown : s.vm.findClass RX3 = some m.cls := hown
  have hl : lv_has ls 1 [(0, .ref m0)] := hl
  refine lv_aload_n hx hb dX3_moment_0 rfl (lv_at hl 0 rfl) ?_
  refine lv_aload_n hx hb dX3_moment_1 rfl (lv_at hl 0 rfl) ?_
  refine xVR (q0 := 0) (ci := 3) (As := []) (rest := [.ref m0]) (stk := [.int (xMm n f), .ref m0]) ⟨hx, hb, hml, hown, hts⟩ (c_X3_turning γ l m0 m1 m2 m3 m4 n kc th td f (by omega) (by omega)) (cwV 0 hts gX3_moment_X3_turning rfl rfl rfl hdv_X3_turning ⟨(Nat.le_of_ble_eq_true rfl), (Nat.le_of_ble_eq_true rfl)⟩) hK hP [0, 1] rfl rfl rfl rfl hl.1 rfl (Nat.le_of_ble_eq_true rfl) dX3_moment_2 ⟨(Nat.le_of_ble_eq_true rfl), (Nat.le_of_ble_eq_true rfl)⟩ rfl ?_
  refine xVM (q0 := 0) (ci := 3) (As := [.int (xMm n f)]) (rest := []) ⟨hx, hb, hml, hown, hts⟩ (c_X3_ok γ l m0 m1 m2 m3 m4 n kc th td (xMm n f)) (cwV 1 hts gX3_moment_X3_ok rfl rfl rfl hdv_X3_ok ⟨(Nat.le_of_ble_eq_true rfl), (Nat.le_of_ble_eq_true rfl)⟩) hK hP hD hS hA [0] rfl rfl rfl rfl rfl hl.1 rfl (Nat.le_of_ble_eq_true rfl) dX3_moment_5 ⟨(Nat.le_of_ble_eq_true rfl), (Nat.le_of_ble_eq_true rfl)⟩ (fun r9 w9 H locs hw hP hD hS => ?_)
  obtain ⟨rfl, rfl⟩ := hw
  have hP : xP γ ([xO m0 3 [.int 0, .int (nI n), .int (nI kc), .int td, .ref m1, .ref m2, .ref m3, .ref m4], xA γ m1 12 f]) H := hP
  have hD : va_D A ([xO m0 3 [.int 0, .int (nI n), .int (nI kc), .int td, .ref m1, .ref m2, .ref m3, .ref m4], xA γ m1 12 f]) := hD
  refine W.eq (g2 := F0 m 8 ls [.int (xMm n f)]) rfl ?_
  subst hQ
  exact xM_i hx hb hr hlocks dX3_moment_8 hP rfl hS (Nat.le_of_ble_eq_true rfl) (Nat.le_of_ble_eq_true rfl) (⟨rfl, rfl⟩)

theorem flX3_spread_13 : Cond.fieldLink RX3 13 "RingSeesawModel" "x" "[I" ∈ wsX3_spread := by decide +kernel
theorem iwX3_spread_3 : ∀ w ∈ wsX30, w ∈ wsX3_spread := by decide +kernel
set_option maxHeartbeats 4000000 in
set_option maxRecDepth 100000 in
theorem c_X3_spread (γ : xG) (l : Launch) (m0 m1 m2 m3 m4 n kc : Nat) (th td : Int32) (f : xRow) (hn0 : 3 ≤ n) (hn1 : n ≤ 12) : xM γ l yX3_spread wsX3_spread ({ frames := 2, cells := 0, slots := 0, locals := 39 } : Room) [.ref m0] ([xO m0 3 [.int th, .int (nI n), .int (nI kc), .int td, .ref m1, .ref m2, .ref m3, .ref m4], xA γ m1 12 f]) (fun r9 w9 => r9 = some (.int (xSpn n f)) ∧ w9 = [xO m0 3 [.int 0, .int (nI n), .int (nI kc), .int td, .ref m1, .ref m2, .ref m3, .ref m4], xA γ m1 12 f]) 0 0 := by
  refine xM.of (cc := cX3_spread) (maxL := 1) (ret := (some .int)) (by decide +kernel) rfl (Nat.le_of_ble_eq_true rfl) ?_
  intro p e s m below meth c hx hb hr hml hts hown hlocks hin hP hK A hA hD ls hl
  have hS : va_S A s.heap s.heap [] := va_S.rf
  generalize hargs : ([.ref m0] : List Value).toArray = args at hts ⊢
  obtain ⟨Q, hQ⟩ : ∃ Q9, Q9 = MQ below (xMQ γ (List.map Prod.fst ([xO m0 3 [.int th, .int (nI n), .int (nI kc), .int td, .ref m1, .ref m2, .ref m3, .ref m4], xA γ m1 12 f])) A (fun r9 w9 => r9 = some (.int (xSpn n f)) ∧ w9 = [xO m0 3 [.int 0, .int (nI n), .int (nI kc), .int td, .ref m1, .ref m2, .ref m3, .ref m4], xA γ m1 12 f])) args s 0 0 A := ⟨_, rfl⟩
  rw [← hQ]
  have hown : s.vm.findClass RX3 = some m.cls := hown
  have hl : lv_has ls 1 [(0, .ref m0)] := hl
  refine lv_aload_n hx hb dX3_spread_0 rfl (lv_at hl 0 rfl) ?_
  refine lv_aload_n hx hb dX3_spread_1 rfl (lv_at hl 0 rfl) ?_
  refine lv_aload_n hx hb dX3_spread_2 rfl (lv_at hl 0 rfl) ?_
  refine va_get (D := γ.1) (ci := 3) (v := .ref m1) (C := RX3) (T := TX3) (N := 8) hx hb hts iwX3_spread_3 hown hK hP 0 rfl rfl 4 (by decide) (hts _ flX3_spread_13) (fun _ h9 => h9) rfl dX3_spread_3 ?_
  refine xVR (q0 := 0) (ci := 3) (As := [.ref m1]) (rest := [.ref m0]) (stk := [.int (xSpn n f), .ref m0]) ⟨hx, hb, hml, hown, hts⟩ (c_X3_wide γ l m0 m1 m2 m3 m4 n kc th td m1 f (by omega) (by omega)) (cwV 1 hts gX3_spread_X3_wide rfl rfl rfl hdv_X3_wide ⟨(Nat.le_of_ble_eq_true rfl), (Nat.le_of_ble_eq_true rfl)⟩) hK hP [0, 1] rfl rfl rfl rfl hl.1 rfl (Nat.le_of_ble_eq_true rfl) dX3_spread_6 ⟨(Nat.le_of_ble_eq_true rfl), (Nat.le_of_ble_eq_true rfl)⟩ rfl ?_
  refine xVM (q0 := 0) (ci := 3) (As := [.int (xSpn n f)]) (rest := []) ⟨hx, hb, hml, hown, hts⟩ (c_X3_ok γ l m0 m1 m2 m3 m4 n kc th td (xSpn n f)) (cwV 1 hts gX3_spread_X3_ok rfl rfl rfl hdv_X3_ok ⟨(Nat.le_of_ble_eq_true rfl), (Nat.le_of_ble_eq_true rfl)⟩) hK hP hD hS hA [0] rfl rfl rfl rfl rfl hl.1 rfl (Nat.le_of_ble_eq_true rfl) dX3_spread_9 ⟨(Nat.le_of_ble_eq_true rfl), (Nat.le_of_ble_eq_true rfl)⟩ (fun r9 w9 H locs hw hP hD hS => ?_)
  obtain ⟨rfl, rfl⟩ := hw
  have hP : xP γ ([xO m0 3 [.int 0, .int (nI n), .int (nI kc), .int td, .ref m1, .ref m2, .ref m3, .ref m4], xA γ m1 12 f]) H := hP
  have hD : va_D A ([xO m0 3 [.int 0, .int (nI n), .int (nI kc), .int td, .ref m1, .ref m2, .ref m3, .ref m4], xA γ m1 12 f]) := hD
  refine W.eq (g2 := F0 m 12 ls [.int (xSpn n f)]) rfl ?_
  subst hQ
  exact xM_i hx hb hr hlocks dX3_spread_12 hP rfl hS (Nat.le_of_ble_eq_true rfl) (Nat.le_of_ble_eq_true rfl) (⟨rfl, rfl⟩)

theorem hdv_X3_top : yX3_top.cls = RX3 ∧ yX3_top.cls ≠ "java/lang/invoke/MethodHandle" ∧ yX3_top.cls ≠ "java/lang/invoke/VarHandle" ∧ (parseMethodDescriptor yX3_top.desc).map (fun d => d.parameters.length) = some 0 := by decide +kernel
set_option maxHeartbeats 4000000 in
set_option maxRecDepth 100000 in
theorem c_X3_highest (γ : xG) (l : Launch) (m0 m1 m2 m3 m4 n kc : Nat) (th td : Int32) (f : xRow) (hn0 : 3 ≤ n) (hn1 : n ≤ 12) : xM γ l yX3_highest wsX3_highest ({ frames := 1, cells := 0, slots := 0, locals := 22 } : Room) [.ref m0] ([xO m0 3 [.int th, .int (nI n), .int (nI kc), .int td, .ref m1, .ref m2, .ref m3, .ref m4], xA γ m1 12 f]) (fun r9 w9 => r9 = some (.int (nI (xTopI f (n - 1)))) ∧ w9 = [xO m0 3 [.int 0, .int (nI n), .int (nI kc), .int td, .ref m1, .ref m2, .ref m3, .ref m4], xA γ m1 12 f]) 0 0 := by
  refine xM.of (cc := cX3_highest) (maxL := 1) (ret := (some .int)) (by decide +kernel) rfl (Nat.le_of_ble_eq_true rfl) ?_
  intro p e s m below meth c hx hb hr hml hts hown hlocks hin hP hK A hA hD ls hl
  have hS : va_S A s.heap s.heap [] := va_S.rf
  generalize hargs : ([.ref m0] : List Value).toArray = args at hts ⊢
  obtain ⟨Q, hQ⟩ : ∃ Q9, Q9 = MQ below (xMQ γ (List.map Prod.fst ([xO m0 3 [.int th, .int (nI n), .int (nI kc), .int td, .ref m1, .ref m2, .ref m3, .ref m4], xA γ m1 12 f])) A (fun r9 w9 => r9 = some (.int (nI (xTopI f (n - 1)))) ∧ w9 = [xO m0 3 [.int 0, .int (nI n), .int (nI kc), .int td, .ref m1, .ref m2, .ref m3, .ref m4], xA γ m1 12 f])) args s 0 0 A := ⟨_, rfl⟩
  rw [← hQ]
  have hown : s.vm.findClass RX3 = some m.cls := hown
  have hl : lv_has ls 1 [(0, .ref m0)] := hl
  refine lv_aload_n hx hb dX3_highest_0 rfl (lv_at hl 0 rfl) ?_
  refine lv_aload_n hx hb dX3_highest_1 rfl (lv_at hl 0 rfl) ?_
  refine xVR (q0 := 0) (ci := 3) (As := []) (rest := [.ref m0]) (stk := [.int (nI (xTopI f (n - 1))), .ref m0]) ⟨hx, hb, hml, hown, hts⟩ (c_X3_top γ l m0 m1 m2 m3 m4 n kc th td f (by omega) (by omega)) (cwV 0 hts gX3_highest_X3_top rfl rfl rfl hdv_X3_top ⟨(Nat.le_of_ble_eq_true rfl), (Nat.le_of_ble_eq_true rfl)⟩) hK hP [0, 1] rfl rfl rfl rfl hl.1 rfl (Nat.le_of_ble_eq_true rfl) dX3_highest_2 ⟨(Nat.le_of_ble_eq_true rfl), (Nat.le_of_ble_eq_true rfl)⟩ rfl ?_
  refine xVM (q0 := 0) (ci := 3) (As := [.int (nI (xTopI f (n - 1)))]) (rest := []) ⟨hx, hb, hml, hown, hts⟩ (c_X3_ok γ l m0 m1 m2 m3 m4 n kc th td (nI (xTopI f (n - 1)))) (cwV 1 hts gX3_highest_X3_ok rfl rfl rfl hdv_X3_ok ⟨(Nat.le_of_ble_eq_true rfl), (Nat.le_of_ble_eq_true rfl)⟩) hK hP hD hS hA [0] rfl rfl rfl rfl rfl hl.1 rfl (Nat.le_of_ble_eq_true rfl) dX3_highest_5 ⟨(Nat.le_of_ble_eq_true rfl), (Nat.le_of_ble_eq_true rfl)⟩ (fun r9 w9 H locs hw hP hD hS => ?_)
  obtain ⟨rfl, rfl⟩ := hw
  have hP : xP γ ([xO m0 3 [.int 0, .int (nI n), .int (nI kc), .int td, .ref m1, .ref m2, .ref m3, .ref m4], xA γ m1 12 f]) H := hP
  have hD : va_D A ([xO m0 3 [.int 0, .int (nI n), .int (nI kc), .int td, .ref m1, .ref m2, .ref m3, .ref m4], xA γ m1 12 f]) := hD
  refine W.eq (g2 := F0 m 8 ls [.int (nI (xTopI f (n - 1)))]) rfl ?_
  subst hQ
  exact xM_i hx hb hr hlocks dX3_highest_8 hP rfl hS (Nat.le_of_ble_eq_true rfl) (Nat.le_of_ble_eq_true rfl) (⟨rfl, rfl⟩)

theorem hdv_X3_manySteep : yX3_manySteep.cls = RX3 ∧ yX3_manySteep.cls ≠ "java/lang/invoke/MethodHandle" ∧ yX3_manySteep.cls ≠ "java/lang/invoke/VarHandle" ∧ (parseMethodDescriptor yX3_manySteep.desc).map (fun d => d.parameters.length) = some 0 := by decide +kernel
set_option maxHeartbeats 4000000 in
set_option maxRecDepth 100000 in
theorem c_X3_steepPlaces (γ : xG) (l : Launch) (m0 m1 m2 m3 m4 n kc : Nat) (th td : Int32) (f : xRow) (hn0 : 3 ≤ n) (hn1 : n ≤ 12) : xM γ l yX3_steepPlaces wsX3_steepPlaces ({ frames := 3, cells := 0, slots := 0, locals := 66 } : Room) [.ref m0] ([xO m0 3 [.int th, .int (nI n), .int (nI kc), .int td, .ref m1, .ref m2, .ref m3, .ref m4], xA γ m1 12 f]) (fun r9 w9 => r9 = some (.int (nI (xCnt (xSt n f) n))) ∧ w9 = [xO m0 3 [.int 0, .int (nI n), .int (nI kc), .int td, .ref m1, .ref m2, .ref m3, .ref m4], xA γ m1 12 f]) 0 0 := by
  refine xM.of (cc := cX3_steepPlaces) (maxL := 1) (ret := (some .int)) (by decide +kernel) rfl (Nat.le_of_ble_eq_true rfl) ?_
  intro p e s m below meth c hx hb hr hml hts hown hlocks hin hP hK A hA hD ls hl
  have hS : va_S A s.heap s.heap [] := va_S.rf
  generalize hargs : ([.ref m0] : List Value).toArray = args at hts ⊢
  obtain ⟨Q, hQ⟩ : ∃ Q9, Q9 = MQ below (xMQ γ (List.map Prod.fst ([xO m0 3 [.int th, .int (nI n), .int (nI kc), .int td, .ref m1, .ref m2, .ref m3, .ref m4], xA γ m1 12 f])) A (fun r9 w9 => r9 = some (.int (nI (xCnt (xSt n f) n))) ∧ w9 = [xO m0 3 [.int 0, .int (nI n), .int (nI kc), .int td, .ref m1, .ref m2, .ref m3, .ref m4], xA γ m1 12 f])) args s 0 0 A := ⟨_, rfl⟩
  rw [← hQ]
  have hown : s.vm.findClass RX3 = some m.cls := hown
  have hl : lv_has ls 1 [(0, .ref m0)] := hl
  refine lv_aload_n hx hb dX3_steepPlaces_0 rfl (lv_at hl 0 rfl) ?_
  refine lv_aload_n hx hb dX3_steepPlaces_1 rfl (lv_at hl 0 rfl) ?_
  refine xVR (q0 := 0) (ci := 3) (As := []) (rest := [.ref m0]) (stk := [.int (nI (xCnt (xSt n f) n)), .ref m0]) ⟨hx, hb, hml, hown, hts⟩ (c_X3_manySteep γ l m0 m1 m2 m3 m4 n kc th td f (by omega) (by omega)) (cwV 0 hts gX3_steepPlaces_X3_manySteep rfl rfl rfl hdv_X3_manySteep ⟨(Nat.le_of_ble_eq_true rfl), (Nat.le_of_ble_eq_true rfl)⟩) hK hP [0, 1] rfl rfl rfl rfl hl.1 rfl (Nat.le_of_ble_eq_true rfl) dX3_steepPlaces_2 ⟨(Nat.le_of_ble_eq_true rfl), (Nat.le_of_ble_eq_true rfl)⟩ rfl ?_
  refine xVM (q0 := 0) (ci := 3) (As := [.int (nI (xCnt (xSt n f) n))]) (rest := []) ⟨hx, hb, hml, hown, hts⟩ (c_X3_ok γ l m0 m1 m2 m3 m4 n kc th td (nI (xCnt (xSt n f) n))) (cwV 1 hts gX3_steepPlaces_X3_ok rfl rfl rfl hdv_X3_ok ⟨(Nat.le_of_ble_eq_true rfl), (Nat.le_of_ble_eq_true rfl)⟩) hK hP hD hS hA [0] rfl rfl rfl rfl rfl hl.1 rfl (Nat.le_of_ble_eq_true rfl) dX3_steepPlaces_5 ⟨(Nat.le_of_ble_eq_true rfl), (Nat.le_of_ble_eq_true rfl)⟩ (fun r9 w9 H locs hw hP hD hS => ?_)
  obtain ⟨rfl, rfl⟩ := hw
  have hP : xP γ ([xO m0 3 [.int 0, .int (nI n), .int (nI kc), .int td, .ref m1, .ref m2, .ref m3, .ref m4], xA γ m1 12 f]) H := hP
  have hD : va_D A ([xO m0 3 [.int 0, .int (nI n), .int (nI kc), .int td, .ref m1, .ref m2, .ref m3, .ref m4], xA γ m1 12 f]) := hD
  refine W.eq (g2 := F0 m 8 ls [.int (nI (xCnt (xSt n f) n))]) rfl ?_
  subst hQ
  exact xM_i hx hb hr hlocks dX3_steepPlaces_8 hP rfl hS (Nat.le_of_ble_eq_true rfl) (Nat.le_of_ble_eq_true rfl) (⟨rfl, rfl⟩)

theorem flX3_nextToTip_13 : Cond.fieldLink RX3 13 "RingSeesawModel" "x" "[I" ∈ wsX3_nextToTip := by decide +kernel
theorem iwX3_nextToTip_3 : ∀ w ∈ wsX30, w ∈ wsX3_nextToTip := by decide +kernel
set_option maxHeartbeats 4000000 in
set_option maxRecDepth 100000 in
theorem c_X3_nextToTip (γ : xG) (l : Launch) (m0 m1 m2 m3 m4 n kc : Nat) (th td : Int32) (f : xRow) (hn0 : 3 ≤ n) (hn1 : n ≤ 12) : xM γ l yX3_nextToTip wsX3_nextToTip ({ frames := 3, cells := 0, slots := 0, locals := 66 } : Room) [.ref m0] ([xO m0 3 [.int th, .int (nI n), .int (nI kc), .int td, .ref m1, .ref m2, .ref m3, .ref m4], xA γ m1 12 f]) (fun r9 w9 => r9 = some (.int (xFi (xSt n f) n)) ∧ w9 = [xO m0 3 [.int 0, .int (nI n), .int (nI kc), .int td, .ref m1, .ref m2, .ref m3, .ref m4], xA γ m1 12 f]) 0 0 := by
  refine xM.of (cc := cX3_nextToTip) (maxL := 1) (ret := (some .int)) (by decide +kernel) rfl (Nat.le_of_ble_eq_true rfl) ?_
  intro p e s m below meth c hx hb hr hml hts hown hlocks hin hP hK A hA hD ls hl
  have hS : va_S A s.heap s.heap [] := va_S.rf
  generalize hargs : ([.ref m0] : List Value).toArray = args at hts ⊢
  obtain ⟨Q, hQ⟩ : ∃ Q9, Q9 = MQ below (xMQ γ (List.map Prod.fst ([xO m0 3 [.int th, .int (nI n), .int (nI kc), .int td, .ref m1, .ref m2, .ref m3, .ref m4], xA γ m1 12 f])) A (fun r9 w9 => r9 = some (.int (xFi (xSt n f) n)) ∧ w9 = [xO m0 3 [.int 0, .int (nI n), .int (nI kc), .int td, .ref m1, .ref m2, .ref m3, .ref m4], xA γ m1 12 f])) args s 0 0 A := ⟨_, rfl⟩
  rw [← hQ]
  have hown : s.vm.findClass RX3 = some m.cls := hown
  have hl : lv_has ls 1 [(0, .ref m0)] := hl
  refine lv_aload_n hx hb dX3_nextToTip_0 rfl (lv_at hl 0 rfl) ?_
  refine lv_aload_n hx hb dX3_nextToTip_1 rfl (lv_at hl 0 rfl) ?_
  refine lv_aload_n hx hb dX3_nextToTip_2 rfl (lv_at hl 0 rfl) ?_
  refine va_get (D := γ.1) (ci := 3) (v := .ref m1) (C := RX3) (T := TX3) (N := 8) hx hb hts iwX3_nextToTip_3 hown hK hP 0 rfl rfl 4 (by decide) (hts _ flX3_nextToTip_13) (fun _ h9 => h9) rfl dX3_nextToTip_3 ?_
  refine xVR (q0 := 0) (ci := 3) (As := [.ref m1]) (rest := [.ref m0]) (stk := [.int (xFi (xSt n f) n), .ref m0]) ⟨hx, hb, hml, hown, hts⟩ (c_X3_firstSteep γ l m0 m1 m2 m3 m4 n kc th td m1 f (by omega) (by omega)) (cwV 1 hts gX3_nextToTip_X3_firstSteep rfl rfl rfl hdv_X3_firstSteep ⟨(Nat.le_of_ble_eq_true rfl), (Nat.le_of_ble_eq_true rfl)⟩) hK hP [0, 1] rfl rfl rfl rfl hl.1 rfl (Nat.le_of_ble_eq_true rfl) dX3_nextToTip_6 ⟨(Nat.le_of_ble_eq_true rfl), (Nat.le_of_ble_eq_true rfl)⟩ rfl ?_
  refine xVM (q0 := 0) (ci := 3) (As := [.int (xFi (xSt n f) n)]) (rest := []) ⟨hx, hb, hml, hown, hts⟩ (c_X3_ok γ l m0 m1 m2 m3 m4 n kc th td (xFi (xSt n f) n)) (cwV 1 hts gX3_nextToTip_X3_ok rfl rfl rfl hdv_X3_ok ⟨(Nat.le_of_ble_eq_true rfl), (Nat.le_of_ble_eq_true rfl)⟩) hK hP hD hS hA [0] rfl rfl rfl rfl rfl hl.1 rfl (Nat.le_of_ble_eq_true rfl) dX3_nextToTip_9 ⟨(Nat.le_of_ble_eq_true rfl), (Nat.le_of_ble_eq_true rfl)⟩ (fun r9 w9 H locs hw hP hD hS => ?_)
  obtain ⟨rfl, rfl⟩ := hw
  have hP : xP γ ([xO m0 3 [.int 0, .int (nI n), .int (nI kc), .int td, .ref m1, .ref m2, .ref m3, .ref m4], xA γ m1 12 f]) H := hP
  have hD : va_D A ([xO m0 3 [.int 0, .int (nI n), .int (nI kc), .int td, .ref m1, .ref m2, .ref m3, .ref m4], xA γ m1 12 f]) := hD
  refine W.eq (g2 := F0 m 12 ls [.int (xFi (xSt n f) n)]) rfl ?_
  subst hQ
  exact xM_i hx hb hr hlocks dX3_nextToTip_12 hP rfl hS (Nat.le_of_ble_eq_true rfl) (Nat.le_of_ble_eq_true rfl) (⟨rfl, rfl⟩)

theorem hdv_X3_level : yX3_level.cls = RX3 ∧ yX3_level.cls ≠ "java/lang/invoke/MethodHandle" ∧ yX3_level.cls ≠ "java/lang/invoke/VarHandle" ∧ (parseMethodDescriptor yX3_level.desc).map (fun d => d.parameters.length) = some 0 := by decide +kernel
set_option maxHeartbeats 4000000 in
set_option maxRecDepth 100000 in
theorem c_X3_levelAxes (γ : xG) (l : Launch) (m0 m1 m2 m3 m4 n kc : Nat) (th td : Int32) (f : xRow) (hn0 : 3 ≤ n) (hn1 : n ≤ 12) : xM γ l yX3_levelAxes wsX3_levelAxes ({ frames := 3, cells := 0, slots := 0, locals := 67 } : Room) [.ref m0] ([xO m0 3 [.int th, .int (nI n), .int (nI kc), .int td, .ref m1, .ref m2, .ref m3, .ref m4], xA γ m1 12 f]) (fun r9 w9 => r9 = some (.int (nI (xCnt (xLv n f) n))) ∧ w9 = [xO m0 3 [.int 0, .int (nI n), .int (nI kc), .int td, .ref m1, .ref m2, .ref m3, .ref m4], xA γ m1 12 f]) 0 0 := by
  refine xM.of (cc := cX3_levelAxes) (maxL := 1) (ret := (some .int)) (by decide +kernel) rfl (Nat.le_of_ble_eq_true rfl) ?_
  intro p e s m below meth c hx hb hr hml hts hown hlocks hin hP hK A hA hD ls hl
  have hS : va_S A s.heap s.heap [] := va_S.rf
  generalize hargs : ([.ref m0] : List Value).toArray = args at hts ⊢
  obtain ⟨Q, hQ⟩ : ∃ Q9, Q9 = MQ below (xMQ γ (List.map Prod.fst ([xO m0 3 [.int th, .int (nI n), .int (nI kc), .int td, .ref m1, .ref m2, .ref m3, .ref m4], xA γ m1 12 f])) A (fun r9 w9 => r9 = some (.int (nI (xCnt (xLv n f) n))) ∧ w9 = [xO m0 3 [.int 0, .int (nI n), .int (nI kc), .int td, .ref m1, .ref m2, .ref m3, .ref m4], xA γ m1 12 f])) args s 0 0 A := ⟨_, rfl⟩
  rw [← hQ]
  have hown : s.vm.findClass RX3 = some m.cls := hown
  have hl : lv_has ls 1 [(0, .ref m0)] := hl
  refine lv_aload_n hx hb dX3_levelAxes_0 rfl (lv_at hl 0 rfl) ?_
  refine lv_aload_n hx hb dX3_levelAxes_1 rfl (lv_at hl 0 rfl) ?_
  refine xVR (q0 := 0) (ci := 3) (As := []) (rest := [.ref m0]) (stk := [.int (nI (xCnt (xLv n f) n)), .ref m0]) ⟨hx, hb, hml, hown, hts⟩ (c_X3_level γ l m0 m1 m2 m3 m4 n kc th td f (by omega) (by omega)) (cwV 0 hts gX3_levelAxes_X3_level rfl rfl rfl hdv_X3_level ⟨(Nat.le_of_ble_eq_true rfl), (Nat.le_of_ble_eq_true rfl)⟩) hK hP [0, 1] rfl rfl rfl rfl hl.1 rfl (Nat.le_of_ble_eq_true rfl) dX3_levelAxes_2 ⟨(Nat.le_of_ble_eq_true rfl), (Nat.le_of_ble_eq_true rfl)⟩ rfl ?_
  refine xVM (q0 := 0) (ci := 3) (As := [.int (nI (xCnt (xLv n f) n))]) (rest := []) ⟨hx, hb, hml, hown, hts⟩ (c_X3_ok γ l m0 m1 m2 m3 m4 n kc th td (nI (xCnt (xLv n f) n))) (cwV 1 hts gX3_levelAxes_X3_ok rfl rfl rfl hdv_X3_ok ⟨(Nat.le_of_ble_eq_true rfl), (Nat.le_of_ble_eq_true rfl)⟩) hK hP hD hS hA [0] rfl rfl rfl rfl rfl hl.1 rfl (Nat.le_of_ble_eq_true rfl) dX3_levelAxes_5 ⟨(Nat.le_of_ble_eq_true rfl), (Nat.le_of_ble_eq_true rfl)⟩ (fun r9 w9 H locs hw hP hD hS => ?_)
  obtain ⟨rfl, rfl⟩ := hw
  have hP : xP γ ([xO m0 3 [.int 0, .int (nI n), .int (nI kc), .int td, .ref m1, .ref m2, .ref m3, .ref m4], xA γ m1 12 f]) H := hP
  have hD : va_D A ([xO m0 3 [.int 0, .int (nI n), .int (nI kc), .int td, .ref m1, .ref m2, .ref m3, .ref m4], xA γ m1 12 f]) := hD
  refine W.eq (g2 := F0 m 8 ls [.int (nI (xCnt (xLv n f) n))]) rfl ?_
  subst hQ
  exact xM_i hx hb hr hlocks dX3_levelAxes_8 hP rfl hS (Nat.le_of_ble_eq_true rfl) (Nat.le_of_ble_eq_true rfl) (⟨rfl, rfl⟩)

theorem hdv_X3_flattest : yX3_flattest.cls = RX3 ∧ yX3_flattest.cls ≠ "java/lang/invoke/MethodHandle" ∧ yX3_flattest.cls ≠ "java/lang/invoke/VarHandle" ∧ (parseMethodDescriptor yX3_flattest.desc).map (fun d => d.parameters.length) = some 0 := by decide +kernel
set_option maxHeartbeats 4000000 in
set_option maxRecDepth 100000 in
theorem c_X3_bestAxis (γ : xG) (l : Launch) (m0 m1 m2 m3 m4 n kc : Nat) (th td : Int32) (f : xRow) (hn0 : 3 ≤ n) (hn1 : n ≤ 12) : xM γ l yX3_bestAxis wsX3_bestAxis ({ frames := 3, cells := 0, slots := 0, locals := 67 } : Room) [.ref m0] ([xO m0 3 [.int th, .int (nI n), .int (nI kc), .int td, .ref m1, .ref m2, .ref m3, .ref m4], xA γ m1 12 f]) (fun r9 w9 => r9 = some (.int (nI (xBa (xTlt n f) (n - 1)))) ∧ w9 = [xO m0 3 [.int 0, .int (nI n), .int (nI kc), .int td, .ref m1, .ref m2, .ref m3, .ref m4], xA γ m1 12 f]) 0 0 := by
  refine xM.of (cc := cX3_bestAxis) (maxL := 1) (ret := (some .int)) (by decide +kernel) rfl (Nat.le_of_ble_eq_true rfl) ?_
  intro p e s m below meth c hx hb hr hml hts hown hlocks hin hP hK A hA hD ls hl
  have hS : va_S A s.heap s.heap [] := va_S.rf
  generalize hargs : ([.ref m0] : List Value).toArray = args at hts ⊢
  obtain ⟨Q, hQ⟩ : ∃ Q9, Q9 = MQ below (xMQ γ (List.map Prod.fst ([xO m0 3 [.int th, .int (nI n), .int (nI kc), .int td, .ref m1, .ref m2, .ref m3, .ref m4], xA γ m1 12 f])) A (fun r9 w9 => r9 = some (.int (nI (xBa (xTlt n f) (n - 1)))) ∧ w9 = [xO m0 3 [.int 0, .int (nI n), .int (nI kc), .int td, .ref m1, .ref m2, .ref m3, .ref m4], xA γ m1 12 f])) args s 0 0 A := ⟨_, rfl⟩
  rw [← hQ]
  have hown : s.vm.findClass RX3 = some m.cls := hown
  have hl : lv_has ls 1 [(0, .ref m0)] := hl
  refine lv_aload_n hx hb dX3_bestAxis_0 rfl (lv_at hl 0 rfl) ?_
  refine lv_aload_n hx hb dX3_bestAxis_1 rfl (lv_at hl 0 rfl) ?_
  refine xVR (q0 := 0) (ci := 3) (As := []) (rest := [.ref m0]) (stk := [.int (nI (xBa (xTlt n f) (n - 1))), .ref m0]) ⟨hx, hb, hml, hown, hts⟩ (c_X3_flattest γ l m0 m1 m2 m3 m4 n kc th td f (by omega) (by omega)) (cwV 0 hts gX3_bestAxis_X3_flattest rfl rfl rfl hdv_X3_flattest ⟨(Nat.le_of_ble_eq_true rfl), (Nat.le_of_ble_eq_true rfl)⟩) hK hP [0, 1] rfl rfl rfl rfl hl.1 rfl (Nat.le_of_ble_eq_true rfl) dX3_bestAxis_2 ⟨(Nat.le_of_ble_eq_true rfl), (Nat.le_of_ble_eq_true rfl)⟩ rfl ?_
  refine xVM (q0 := 0) (ci := 3) (As := [.int (nI (xBa (xTlt n f) (n - 1)))]) (rest := []) ⟨hx, hb, hml, hown, hts⟩ (c_X3_ok γ l m0 m1 m2 m3 m4 n kc th td (nI (xBa (xTlt n f) (n - 1)))) (cwV 1 hts gX3_bestAxis_X3_ok rfl rfl rfl hdv_X3_ok ⟨(Nat.le_of_ble_eq_true rfl), (Nat.le_of_ble_eq_true rfl)⟩) hK hP hD hS hA [0] rfl rfl rfl rfl rfl hl.1 rfl (Nat.le_of_ble_eq_true rfl) dX3_bestAxis_5 ⟨(Nat.le_of_ble_eq_true rfl), (Nat.le_of_ble_eq_true rfl)⟩ (fun r9 w9 H locs hw hP hD hS => ?_)
  obtain ⟨rfl, rfl⟩ := hw
  have hP : xP γ ([xO m0 3 [.int 0, .int (nI n), .int (nI kc), .int td, .ref m1, .ref m2, .ref m3, .ref m4], xA γ m1 12 f]) H := hP
  have hD : va_D A ([xO m0 3 [.int 0, .int (nI n), .int (nI kc), .int td, .ref m1, .ref m2, .ref m3, .ref m4], xA γ m1 12 f]) := hD
  refine W.eq (g2 := F0 m 8 ls [.int (nI (xBa (xTlt n f) (n - 1)))]) rfl ?_
  subst hQ
  exact xM_i hx hb hr hlocks dX3_bestAxis_8 hP rfl hS (Nat.le_of_ble_eq_true rfl) (Nat.le_of_ble_eq_true rfl) (⟨rfl, rfl⟩)

theorem hdv_X3_manySolved : yX3_manySolved.cls = RX3 ∧ yX3_manySolved.cls ≠ "java/lang/invoke/MethodHandle" ∧ yX3_manySolved.cls ≠ "java/lang/invoke/VarHandle" ∧ (parseMethodDescriptor yX3_manySolved.desc).map (fun d => d.parameters.length) = some 0 := by decide +kernel
set_option maxHeartbeats 4000000 in
set_option maxRecDepth 100000 in
theorem c_X3_reachable (γ : xG) (l : Launch) (m0 m1 m2 m3 m4 n kc : Nat) (th td : Int32) (f tg tp : xRow) (hn0 : 3 ≤ n) (hn1 : n ≤ 12) (hkc : kc ≤ 6) : xM γ l yX3_reachable wsX3_reachable ({ frames := 4, cells := 0, slots := 0, locals := 90 } : Room) [.ref m0] ([xO m0 3 [.int th, .int (nI n), .int (nI kc), .int td, .ref m1, .ref m2, .ref m3, .ref m4], xA γ m1 12 f, xA γ m3 72 tg, xA γ m4 14 tp]) (fun r9 w9 => r9 = some (.int (nI (xCnt (fun t9 => xSv n f (xGt tg t9)) kc))) ∧ ∃ h9 : xRow, w9 = [xO m0 3 [.int 0, .int (nI n), .int (nI kc), .int td, .ref m1, .ref m2, .ref m3, .ref m4], xA γ m1 12 f, xA γ m3 72 tg, xA γ m4 14 h9]) 0 0 := by
  refine xM.of (cc := cX3_reachable) (maxL := 1) (ret := (some .int)) (by decide +kernel) rfl (Nat.le_of_ble_eq_true rfl) ?_
  intro p e s m below meth c hx hb hr hml hts hown hlocks hin hP hK A hA hD ls hl
  have hS : va_S A s.heap s.heap [] := va_S.rf
  generalize hargs : ([.ref m0] : List Value).toArray = args at hts ⊢
  obtain ⟨Q, hQ⟩ : ∃ Q9, Q9 = MQ below (xMQ γ (List.map Prod.fst ([xO m0 3 [.int th, .int (nI n), .int (nI kc), .int td, .ref m1, .ref m2, .ref m3, .ref m4], xA γ m1 12 f, xA γ m3 72 tg, xA γ m4 14 tp])) A (fun r9 w9 => r9 = some (.int (nI (xCnt (fun t9 => xSv n f (xGt tg t9)) kc))) ∧ ∃ h9 : xRow, w9 = [xO m0 3 [.int 0, .int (nI n), .int (nI kc), .int td, .ref m1, .ref m2, .ref m3, .ref m4], xA γ m1 12 f, xA γ m3 72 tg, xA γ m4 14 h9])) args s 0 0 A := ⟨_, rfl⟩
  rw [← hQ]
  have hown : s.vm.findClass RX3 = some m.cls := hown
  have hl : lv_has ls 1 [(0, .ref m0)] := hl
  refine lv_aload_n hx hb dX3_reachable_0 rfl (lv_at hl 0 rfl) ?_
  refine lv_aload_n hx hb dX3_reachable_1 rfl (lv_at hl 0 rfl) ?_
  refine xVM (q0 := 0) (ci := 3) (As := []) (rest := [.ref m0]) ⟨hx, hb, hml, hown, hts⟩ (c_X3_manySolved γ l m0 m1 m2 m3 m4 n kc th td f tg tp (by omega) (by omega) (by omega)) (cwV 0 hts gX3_reachable_X3_manySolved rfl rfl rfl hdv_X3_manySolved ⟨(Nat.le_of_ble_eq_true rfl), (Nat.le_of_ble_eq_true rfl)⟩) hK hP hD hS hA [0, 1, 2, 3] rfl rfl rfl rfl rfl hl.1 rfl (Nat.le_of_ble_eq_true rfl) dX3_reachable_2 ⟨(Nat.le_of_ble_eq_true rfl), (Nat.le_of_ble_eq_true rfl)⟩ (fun r9 w9 H locs hw hP hD hS => ?_)
  obtain ⟨rfl, h58x, rfl⟩ := hw
  have hP : xP γ ([xO m0 3 [.int th, .int (nI n), .int (nI kc), .int td, .ref m1, .ref m2, .ref m3, .ref m4], xA γ m1 12 f, xA γ m3 72 tg, xA γ m4 14 h58x]) H := hP
  have hD : va_D A ([xO m0 3 [.int th, .int (nI n), .int (nI kc), .int td, .ref m1, .ref m2, .ref m3, .ref m4], xA γ m1 12 f, xA γ m3 72 tg, xA γ m4 14 h58x]) := hD
  refine W.eq (g2 := F0 m 5 ls [.int (nI (xCnt (fun t9 => xSv n f (xGt tg t9)) kc)), .ref m0]) rfl ?_
  refine xVM (q0 := 0) (ci := 3) (As := [.int (nI (xCnt (fun t9 => xSv n f (xGt tg t9)) kc))]) (rest := []) ⟨hx, hb, hml, hown, hts⟩ (c_X3_ok γ l m0 m1 m2 m3 m4 n kc th td (nI (xCnt (fun t9 => xSv n f (xGt tg t9)) kc))) (cwV 1 hts gX3_reachable_X3_ok rfl rfl rfl hdv_X3_ok ⟨(Nat.le_of_ble_eq_true rfl), (Nat.le_of_ble_eq_true rfl)⟩) hK hP hD hS hA [0] rfl rfl rfl rfl rfl hl.1 rfl (Nat.le_of_ble_eq_true rfl) dX3_reachable_5 ⟨(Nat.le_of_ble_eq_true rfl), (Nat.le_of_ble_eq_true rfl)⟩ (fun r9 w9 H locs hw hP hD hS => ?_)
  obtain ⟨rfl, rfl⟩ := hw
  have hP : xP γ ([xO m0 3 [.int 0, .int (nI n), .int (nI kc), .int td, .ref m1, .ref m2, .ref m3, .ref m4], xA γ m1 12 f, xA γ m3 72 tg, xA γ m4 14 h58x]) H := hP
  have hD : va_D A ([xO m0 3 [.int 0, .int (nI n), .int (nI kc), .int td, .ref m1, .ref m2, .ref m3, .ref m4], xA γ m1 12 f, xA γ m3 72 tg, xA γ m4 14 h58x]) := hD
  refine W.eq (g2 := F0 m 8 ls [.int (nI (xCnt (fun t9 => xSv n f (xGt tg t9)) kc))]) rfl ?_
  subst hQ
  exact xM_i hx hb hr hlocks dX3_reachable_8 hP rfl hS (Nat.le_of_ble_eq_true rfl) (Nat.le_of_ble_eq_true rfl) (⟨rfl, _, rfl⟩)

theorem hdv_X3_near : yX3_near.cls = RX3 ∧ yX3_near.cls ≠ "java/lang/invoke/MethodHandle" ∧ yX3_near.cls ≠ "java/lang/invoke/VarHandle" ∧ (parseMethodDescriptor yX3_near.desc).map (fun d => d.parameters.length) = some 0 := by decide +kernel
set_option maxHeartbeats 4000000 in
set_option maxRecDepth 100000 in
theorem c_X3_nearestTarget (γ : xG) (l : Launch) (m0 m1 m2 m3 m4 n kc : Nat) (th td : Int32) (f tg tp : xRow) (hn0 : 3 ≤ n) (hn1 : n ≤ 12) (hkc : kc ≤ 6) : xM γ l yX3_nearestTarget wsX3_nearestTarget ({ frames := 5, cells := 0, slots := 0, locals := 117 } : Room) [.ref m0] ([xO m0 3 [.int th, .int (nI n), .int (nI kc), .int td, .ref m1, .ref m2, .ref m3, .ref m4], xA γ m1 12 f, xA γ m3 72 tg, xA γ m4 14 tp]) (fun r9 w9 => r9 = some (.int ((xNrM (fun t9 => xFewM n f (xGt tg t9)) kc).1)) ∧ ∃ h9 : xRow, w9 = [xO m0 3 [.int 0, .int (nI n), .int (nI kc), .int td, .ref m1, .ref m2, .ref m3, .ref m4], xA γ m1 12 f, xA γ m3 72 tg, xA γ m4 14 h9]) 0 0 := by
  refine xM.of (cc := cX3_nearestTarget) (maxL := 1) (ret := (some .int)) (by decide +kernel) rfl (Nat.le_of_ble_eq_true rfl) ?_
  intro p e s m below meth c hx hb hr hml hts hown hlocks hin hP hK A hA hD ls hl
  have hS : va_S A s.heap s.heap [] := va_S.rf
  generalize hargs : ([.ref m0] : List Value).toArray = args at hts ⊢
  obtain ⟨Q, hQ⟩ : ∃ Q9, Q9 = MQ below (xMQ γ (List.map Prod.fst ([xO m0 3 [.int th, .int (nI n), .int (nI kc), .int td, .ref m1, .ref m2, .ref m3, .ref m4], xA γ m1 12 f, xA γ m3 72 tg, xA γ m4 14 tp])) A (fun r9 w9 => r9 = some (.int ((xNrM (fun t9 => xFewM n f (xGt tg t9)) kc).1)) ∧ ∃ h9 : xRow, w9 = [xO m0 3 [.int 0, .int (nI n), .int (nI kc), .int td, .ref m1, .ref m2, .ref m3, .ref m4], xA γ m1 12 f, xA γ m3 72 tg, xA γ m4 14 h9])) args s 0 0 A := ⟨_, rfl⟩
  rw [← hQ]
  have hown : s.vm.findClass RX3 = some m.cls := hown
  have hl : lv_has ls 1 [(0, .ref m0)] := hl
  refine lv_aload_n hx hb dX3_nearestTarget_0 rfl (lv_at hl 0 rfl) ?_
  refine lv_aload_n hx hb dX3_nearestTarget_1 rfl (lv_at hl 0 rfl) ?_
  refine xVM (q0 := 0) (ci := 3) (As := []) (rest := [.ref m0]) ⟨hx, hb, hml, hown, hts⟩ (c_X3_near γ l m0 m1 m2 m3 m4 n kc th td f tg tp (by omega) (by omega) (by omega)) (cwV 0 hts gX3_nearestTarget_X3_near rfl rfl rfl hdv_X3_near ⟨(Nat.le_of_ble_eq_true rfl), (Nat.le_of_ble_eq_true rfl)⟩) hK hP hD hS hA [0, 1, 2, 3] rfl rfl rfl rfl rfl hl.1 rfl (Nat.le_of_ble_eq_true rfl) dX3_nearestTarget_2 ⟨(Nat.le_of_ble_eq_true rfl), (Nat.le_of_ble_eq_true rfl)⟩ (fun r9 w9 H locs hw hP hD hS => ?_)
  obtain ⟨rfl, h60x, rfl⟩ := hw
  have hP : xP γ ([xO m0 3 [.int th, .int (nI n), .int (nI kc), .int td, .ref m1, .ref m2, .ref m3, .ref m4], xA γ m1 12 f, xA γ m3 72 tg, xA γ m4 14 h60x]) H := hP
  have hD : va_D A ([xO m0 3 [.int th, .int (nI n), .int (nI kc), .int td, .ref m1, .ref m2, .ref m3, .ref m4], xA γ m1 12 f, xA γ m3 72 tg, xA γ m4 14 h60x]) := hD
  refine W.eq (g2 := F0 m 5 ls [.int ((xNrM (fun t9 => xFewM n f (xGt tg t9)) kc).1), .ref m0]) rfl ?_
  refine xVM (q0 := 0) (ci := 3) (As := [.int ((xNrM (fun t9 => xFewM n f (xGt tg t9)) kc).1)]) (rest := []) ⟨hx, hb, hml, hown, hts⟩ (c_X3_ok γ l m0 m1 m2 m3 m4 n kc th td ((xNrM (fun t9 => xFewM n f (xGt tg t9)) kc).1)) (cwV 1 hts gX3_nearestTarget_X3_ok rfl rfl rfl hdv_X3_ok ⟨(Nat.le_of_ble_eq_true rfl), (Nat.le_of_ble_eq_true rfl)⟩) hK hP hD hS hA [0] rfl rfl rfl rfl rfl hl.1 rfl (Nat.le_of_ble_eq_true rfl) dX3_nearestTarget_5 ⟨(Nat.le_of_ble_eq_true rfl), (Nat.le_of_ble_eq_true rfl)⟩ (fun r9 w9 H locs hw hP hD hS => ?_)
  obtain ⟨rfl, rfl⟩ := hw
  have hP : xP γ ([xO m0 3 [.int 0, .int (nI n), .int (nI kc), .int td, .ref m1, .ref m2, .ref m3, .ref m4], xA γ m1 12 f, xA γ m3 72 tg, xA γ m4 14 h60x]) H := hP
  have hD : va_D A ([xO m0 3 [.int 0, .int (nI n), .int (nI kc), .int td, .ref m1, .ref m2, .ref m3, .ref m4], xA γ m1 12 f, xA γ m3 72 tg, xA γ m4 14 h60x]) := hD
  refine W.eq (g2 := F0 m 8 ls [.int ((xNrM (fun t9 => xFewM n f (xGt tg t9)) kc).1)]) rfl ?_
  subst hQ
  exact xM_i hx hb hr hlocks dX3_nearestTarget_8 hP rfl hS (Nat.le_of_ble_eq_true rfl) (Nat.le_of_ble_eq_true rfl) (⟨rfl, _, rfl⟩)

set_option maxHeartbeats 4000000 in
set_option maxRecDepth 100000 in
theorem c_X3_stepsToRest (γ : xG) (l : Launch) (m0 m1 m2 m3 m4 n kc : Nat) (th td : Int32) (f tf : xRow) (hn0 : 3 ≤ n) (hn1 : n ≤ 12) : xM γ l yX3_stepsToRest wsX3_stepsToRest ({ frames := 5, cells := 0, slots := 0, locals := 111 } : Room) [.ref m0] ([xO m0 3 [.int th, .int (nI n), .int (nI kc), .int td, .ref m1, .ref m2, .ref m3, .ref m4], xA γ m1 12 f, xA γ m2 12 tf]) (fun r9 w9 => r9 = some (.int (xRsM n f)) ∧ ∃ h9 : xRow, w9 = [xO m0 3 [.int 0, .int (nI n), .int (nI kc), .int td, .ref m1, .ref m2, .ref m3, .ref m4], xA γ m1 12 f, xA γ m2 12 h9]) 0 0 := by
  refine xM.of (cc := cX3_stepsToRest) (maxL := 1) (ret := (some .int)) (by decide +kernel) rfl (Nat.le_of_ble_eq_true rfl) ?_
  intro p e s m below meth c hx hb hr hml hts hown hlocks hin hP hK A hA hD ls hl
  have hS : va_S A s.heap s.heap [] := va_S.rf
  generalize hargs : ([.ref m0] : List Value).toArray = args at hts ⊢
  obtain ⟨Q, hQ⟩ : ∃ Q9, Q9 = MQ below (xMQ γ (List.map Prod.fst ([xO m0 3 [.int th, .int (nI n), .int (nI kc), .int td, .ref m1, .ref m2, .ref m3, .ref m4], xA γ m1 12 f, xA γ m2 12 tf])) A (fun r9 w9 => r9 = some (.int (xRsM n f)) ∧ ∃ h9 : xRow, w9 = [xO m0 3 [.int 0, .int (nI n), .int (nI kc), .int td, .ref m1, .ref m2, .ref m3, .ref m4], xA γ m1 12 f, xA γ m2 12 h9])) args s 0 0 A := ⟨_, rfl⟩
  rw [← hQ]
  have hown : s.vm.findClass RX3 = some m.cls := hown
  have hl : lv_has ls 1 [(0, .ref m0)] := hl
  refine lv_aload_n hx hb dX3_stepsToRest_0 rfl (lv_at hl 0 rfl) ?_
  refine lv_aload_n hx hb dX3_stepsToRest_1 rfl (lv_at hl 0 rfl) ?_
  refine xVM (q0 := 0) (ci := 3) (As := []) (rest := [.ref m0]) ⟨hx, hb, hml, hown, hts⟩ (c_X3_rest γ l m0 m1 m2 m3 m4 n kc th td f tf (by omega) (by omega)) (cwV 0 hts gX3_stepsToRest_X3_rest rfl rfl rfl hdv_X3_rest ⟨(Nat.le_of_ble_eq_true rfl), (Nat.le_of_ble_eq_true rfl)⟩) hK hP hD hS hA [0, 1, 2] rfl rfl rfl rfl rfl hl.1 rfl (Nat.le_of_ble_eq_true rfl) dX3_stepsToRest_2 ⟨(Nat.le_of_ble_eq_true rfl), (Nat.le_of_ble_eq_true rfl)⟩ (fun r9 w9 H locs hw hP hD hS => ?_)
  obtain ⟨rfl, rfl⟩ := hw
  have hP : xP γ ([xO m0 3 [.int th, .int (nI n), .int (nI kc), .int td, .ref m1, .ref m2, .ref m3, .ref m4], xA γ m1 12 f, xA γ m2 12 ((xStl n 300 f).2)]) H := hP
  have hD : va_D A ([xO m0 3 [.int th, .int (nI n), .int (nI kc), .int td, .ref m1, .ref m2, .ref m3, .ref m4], xA γ m1 12 f, xA γ m2 12 ((xStl n 300 f).2)]) := hD
  refine W.eq (g2 := F0 m 5 ls [.int (xRsM n f), .ref m0]) rfl ?_
  refine xVM (q0 := 0) (ci := 3) (As := [.int (xRsM n f)]) (rest := []) ⟨hx, hb, hml, hown, hts⟩ (c_X3_ok γ l m0 m1 m2 m3 m4 n kc th td (xRsM n f)) (cwV 1 hts gX3_stepsToRest_X3_ok rfl rfl rfl hdv_X3_ok ⟨(Nat.le_of_ble_eq_true rfl), (Nat.le_of_ble_eq_true rfl)⟩) hK hP hD hS hA [0] rfl rfl rfl rfl rfl hl.1 rfl (Nat.le_of_ble_eq_true rfl) dX3_stepsToRest_5 ⟨(Nat.le_of_ble_eq_true rfl), (Nat.le_of_ble_eq_true rfl)⟩ (fun r9 w9 H locs hw hP hD hS => ?_)
  obtain ⟨rfl, rfl⟩ := hw
  have hP : xP γ ([xO m0 3 [.int 0, .int (nI n), .int (nI kc), .int td, .ref m1, .ref m2, .ref m3, .ref m4], xA γ m1 12 f, xA γ m2 12 ((xStl n 300 f).2)]) H := hP
  have hD : va_D A ([xO m0 3 [.int 0, .int (nI n), .int (nI kc), .int td, .ref m1, .ref m2, .ref m3, .ref m4], xA γ m1 12 f, xA γ m2 12 ((xStl n 300 f).2)]) := hD
  refine W.eq (g2 := F0 m 8 ls [.int (xRsM n f)]) rfl ?_
  subst hQ
  exact xM_i hx hb hr hlocks dX3_stepsToRest_8 hP rfl hS (Nat.le_of_ble_eq_true rfl) (Nat.le_of_ble_eq_true rfl) (⟨rfl, _, rfl⟩)

theorem hdv_X3_wideAtRest : yX3_wideAtRest.cls = RX3 ∧ yX3_wideAtRest.cls ≠ "java/lang/invoke/MethodHandle" ∧ yX3_wideAtRest.cls ≠ "java/lang/invoke/VarHandle" ∧ (parseMethodDescriptor yX3_wideAtRest.desc).map (fun d => d.parameters.length) = some 0 := by decide +kernel
set_option maxHeartbeats 4000000 in
set_option maxRecDepth 100000 in
theorem c_X3_spreadAtRest (γ : xG) (l : Launch) (m0 m1 m2 m3 m4 n kc : Nat) (th td : Int32) (f tf : xRow) (hn0 : 3 ≤ n) (hn1 : n ≤ 12) : xM γ l yX3_spreadAtRest wsX3_spreadAtRest ({ frames := 6, cells := 0, slots := 0, locals := 131 } : Room) [.ref m0] ([xO m0 3 [.int th, .int (nI n), .int (nI kc), .int td, .ref m1, .ref m2, .ref m3, .ref m4], xA γ m1 12 f, xA γ m2 12 tf]) (fun r9 w9 => r9 = some (.int (xSrM n f)) ∧ ∃ h9 : xRow, w9 = [xO m0 3 [.int 0, .int (nI n), .int (nI kc), .int td, .ref m1, .ref m2, .ref m3, .ref m4], xA γ m1 12 f, xA γ m2 12 h9]) 0 0 := by
  refine xM.of (cc := cX3_spreadAtRest) (maxL := 1) (ret := (some .int)) (by decide +kernel) rfl (Nat.le_of_ble_eq_true rfl) ?_
  intro p e s m below meth c hx hb hr hml hts hown hlocks hin hP hK A hA hD ls hl
  have hS : va_S A s.heap s.heap [] := va_S.rf
  generalize hargs : ([.ref m0] : List Value).toArray = args at hts ⊢
  obtain ⟨Q, hQ⟩ : ∃ Q9, Q9 = MQ below (xMQ γ (List.map Prod.fst ([xO m0 3 [.int th, .int (nI n), .int (nI kc), .int td, .ref m1, .ref m2, .ref m3, .ref m4], xA γ m1 12 f, xA γ m2 12 tf])) A (fun r9 w9 => r9 = some (.int (xSrM n f)) ∧ ∃ h9 : xRow, w9 = [xO m0 3 [.int 0, .int (nI n), .int (nI kc), .int td, .ref m1, .ref m2, .ref m3, .ref m4], xA γ m1 12 f, xA γ m2 12 h9])) args s 0 0 A := ⟨_, rfl⟩
  rw [← hQ]
  have hown : s.vm.findClass RX3 = some m.cls := hown
  have hl : lv_has ls 1 [(0, .ref m0)] := hl
  refine lv_aload_n hx hb dX3_spreadAtRest_0 rfl (lv_at hl 0 rfl) ?_
  refine lv_aload_n hx hb dX3_spreadAtRest_1 rfl (lv_at hl 0 rfl) ?_
  refine xVM (q0 := 0) (ci := 3) (As := []) (rest := [.ref m0]) ⟨hx, hb, hml, hown, hts⟩ (c_X3_wideAtRest γ l m0 m1 m2 m3 m4 n kc th td f tf (by omega) (by omega)) (cwV 0 hts gX3_spreadAtRest_X3_wideAtRest rfl rfl rfl hdv_X3_wideAtRest ⟨(Nat.le_of_ble_eq_true rfl), (Nat.le_of_ble_eq_true rfl)⟩) hK hP hD hS hA [0, 1, 2] rfl rfl rfl rfl rfl hl.1 rfl (Nat.le_of_ble_eq_true rfl) dX3_spreadAtRest_2 ⟨(Nat.le_of_ble_eq_true rfl), (Nat.le_of_ble_eq_true rfl)⟩ (fun r9 w9 H locs hw hP hD hS => ?_)
  obtain ⟨rfl, h64x, rfl⟩ := hw
  have hP : xP γ ([xO m0 3 [.int th, .int (nI n), .int (nI kc), .int td, .ref m1, .ref m2, .ref m3, .ref m4], xA γ m1 12 f, xA γ m2 12 h64x]) H := hP
  have hD : va_D A ([xO m0 3 [.int th, .int (nI n), .int (nI kc), .int td, .ref m1, .ref m2, .ref m3, .ref m4], xA γ m1 12 f, xA γ m2 12 h64x]) := hD
  refine W.eq (g2 := F0 m 5 ls [.int (xSrM n f), .ref m0]) rfl ?_
  refine xVM (q0 := 0) (ci := 3) (As := [.int (xSrM n f)]) (rest := []) ⟨hx, hb, hml, hown, hts⟩ (c_X3_ok γ l m0 m1 m2 m3 m4 n kc th td (xSrM n f)) (cwV 1 hts gX3_spreadAtRest_X3_ok rfl rfl rfl hdv_X3_ok ⟨(Nat.le_of_ble_eq_true rfl), (Nat.le_of_ble_eq_true rfl)⟩) hK hP hD hS hA [0] rfl rfl rfl rfl rfl hl.1 rfl (Nat.le_of_ble_eq_true rfl) dX3_spreadAtRest_5 ⟨(Nat.le_of_ble_eq_true rfl), (Nat.le_of_ble_eq_true rfl)⟩ (fun r9 w9 H locs hw hP hD hS => ?_)
  obtain ⟨rfl, rfl⟩ := hw
  have hP : xP γ ([xO m0 3 [.int 0, .int (nI n), .int (nI kc), .int td, .ref m1, .ref m2, .ref m3, .ref m4], xA γ m1 12 f, xA γ m2 12 h64x]) H := hP
  have hD : va_D A ([xO m0 3 [.int 0, .int (nI n), .int (nI kc), .int td, .ref m1, .ref m2, .ref m3, .ref m4], xA γ m1 12 f, xA γ m2 12 h64x]) := hD
  refine W.eq (g2 := F0 m 8 ls [.int (xSrM n f)]) rfl ?_
  subst hQ
  exact xM_i hx hb hr hlocks dX3_spreadAtRest_8 hP rfl hS (Nat.le_of_ble_eq_true rfl) (Nat.le_of_ble_eq_true rfl) (⟨rfl, _, rfl⟩)

theorem hdv_X3_best : yX3_best.cls = RX3 ∧ yX3_best.cls ≠ "java/lang/invoke/MethodHandle" ∧ yX3_best.cls ≠ "java/lang/invoke/VarHandle" ∧ (parseMethodDescriptor yX3_best.desc).map (fun d => d.parameters.length) = some 0 := by decide +kernel
set_option maxHeartbeats 4000000 in
set_option maxRecDepth 100000 in
theorem c_X3_bestPlace (γ : xG) (l : Launch) (m0 m1 m2 m3 m4 n kc : Nat) (th td : Int32) (f tf : xRow) (hn0 : 3 ≤ n) (hn1 : n ≤ 12) : xM γ l yX3_bestPlace wsX3_bestPlace ({ frames := 4, cells := 0, slots := 0, locals := 126 } : Room) [.ref m0] ([xO m0 3 [.int th, .int (nI n), .int (nI kc), .int td, .ref m1, .ref m2, .ref m3, .ref m4], xA γ m1 12 f, xA γ m2 12 tf]) (fun r9 w9 => r9 = some (.int (xBp n f n).1) ∧ ∃ h9 : xRow, w9 = [xO m0 3 [.int 0, .int (nI n), .int (nI kc), .int td, .ref m1, .ref m2, .ref m3, .ref m4], xA γ m1 12 f, xA γ m2 12 h9]) 0 0 := by
  refine xM.of (cc := cX3_bestPlace) (maxL := 1) (ret := (some .int)) (by decide +kernel) rfl (Nat.le_of_ble_eq_true rfl) ?_
  intro p e s m below meth c hx hb hr hml hts hown hlocks hin hP hK A hA hD ls hl
  have hS : va_S A s.heap s.heap [] := va_S.rf
  generalize hargs : ([.ref m0] : List Value).toArray = args at hts ⊢
  obtain ⟨Q, hQ⟩ : ∃ Q9, Q9 = MQ below (xMQ γ (List.map Prod.fst ([xO m0 3 [.int th, .int (nI n), .int (nI kc), .int td, .ref m1, .ref m2, .ref m3, .ref m4], xA γ m1 12 f, xA γ m2 12 tf])) A (fun r9 w9 => r9 = some (.int (xBp n f n).1) ∧ ∃ h9 : xRow, w9 = [xO m0 3 [.int 0, .int (nI n), .int (nI kc), .int td, .ref m1, .ref m2, .ref m3, .ref m4], xA γ m1 12 f, xA γ m2 12 h9])) args s 0 0 A := ⟨_, rfl⟩
  rw [← hQ]
  have hown : s.vm.findClass RX3 = some m.cls := hown
  have hl : lv_has ls 1 [(0, .ref m0)] := hl
  refine lv_aload_n hx hb dX3_bestPlace_0 rfl (lv_at hl 0 rfl) ?_
  refine lv_aload_n hx hb dX3_bestPlace_1 rfl (lv_at hl 0 rfl) ?_
  refine xVM (q0 := 0) (ci := 3) (As := []) (rest := [.ref m0]) ⟨hx, hb, hml, hown, hts⟩ (c_X3_best γ l m0 m1 m2 m3 m4 n kc th td f tf (by omega) (by omega)) (cwV 0 hts gX3_bestPlace_X3_best rfl rfl rfl hdv_X3_best ⟨(Nat.le_of_ble_eq_true rfl), (Nat.le_of_ble_eq_true rfl)⟩) hK hP hD hS hA [0, 1, 2] rfl rfl rfl rfl rfl hl.1 rfl (Nat.le_of_ble_eq_true rfl) dX3_bestPlace_2 ⟨(Nat.le_of_ble_eq_true rfl), (Nat.le_of_ble_eq_true rfl)⟩ (fun r9 w9 H locs hw hP hD hS => ?_)
  obtain ⟨rfl, h66x, rfl⟩ := hw
  have hP : xP γ ([xO m0 3 [.int th, .int (nI n), .int (nI kc), .int td, .ref m1, .ref m2, .ref m3, .ref m4], xA γ m1 12 f, xA γ m2 12 h66x]) H := hP
  have hD : va_D A ([xO m0 3 [.int th, .int (nI n), .int (nI kc), .int td, .ref m1, .ref m2, .ref m3, .ref m4], xA γ m1 12 f, xA γ m2 12 h66x]) := hD
  refine W.eq (g2 := F0 m 5 ls [.int ((xBp n f n).1), .ref m0]) rfl ?_
  refine xVM (q0 := 0) (ci := 3) (As := [.int ((xBp n f n).1)]) (rest := []) ⟨hx, hb, hml, hown, hts⟩ (c_X3_ok γ l m0 m1 m2 m3 m4 n kc th td ((xBp n f n).1)) (cwV 1 hts gX3_bestPlace_X3_ok rfl rfl rfl hdv_X3_ok ⟨(Nat.le_of_ble_eq_true rfl), (Nat.le_of_ble_eq_true rfl)⟩) hK hP hD hS hA [0] rfl rfl rfl rfl rfl hl.1 rfl (Nat.le_of_ble_eq_true rfl) dX3_bestPlace_5 ⟨(Nat.le_of_ble_eq_true rfl), (Nat.le_of_ble_eq_true rfl)⟩ (fun r9 w9 H locs hw hP hD hS => ?_)
  obtain ⟨rfl, rfl⟩ := hw
  have hP : xP γ ([xO m0 3 [.int 0, .int (nI n), .int (nI kc), .int td, .ref m1, .ref m2, .ref m3, .ref m4], xA γ m1 12 f, xA γ m2 12 h66x]) H := hP
  have hD : va_D A ([xO m0 3 [.int 0, .int (nI n), .int (nI kc), .int td, .ref m1, .ref m2, .ref m3, .ref m4], xA γ m1 12 f, xA γ m2 12 h66x]) := hD
  refine W.eq (g2 := F0 m 8 ls [.int ((xBp n f n).1)]) rfl ?_
  subst hQ
  exact xM_i hx hb hr hlocks dX3_bestPlace_8 hP rfl hS (Nat.le_of_ble_eq_true rfl) (Nat.le_of_ble_eq_true rfl) (⟨rfl, _, rfl⟩)

theorem flX3_lay_26 : Cond.fieldLink RX3 26 "RingSeesawModel" "thrown" "I" ∈ wsX3_lay := by decide +kernel
theorem iwX3_lay_3 : ∀ w ∈ wsX30, w ∈ wsX3_lay := by decide +kernel
theorem flX3_lay_7 : Cond.fieldLink RX3 7 "RingSeesawModel" "n" "I" ∈ wsX3_lay := by decide +kernel
theorem flX3_lay_33 : Cond.fieldLink RX3 33 "RingSeesawModel" "targets" "I" ∈ wsX3_lay := by decide +kernel
theorem flX3_lay_13 : Cond.fieldLink RX3 13 "RingSeesawModel" "x" "[I" ∈ wsX3_lay := by decide +kernel
set_option maxHeartbeats 4000000 in
set_option maxRecDepth 100000 in
theorem c_X3_lay (γ : xG) (l : Launch) (m0 m1 m2 m3 m4 n kc : Nat) (th td : Int32) (f : xRow) (k : Nat) (h1 : 3 ≤ k) (h2 : k ≤ 12) : xM γ l yX3_lay wsX3_lay ({ frames := 1, cells := 0, slots := 0, locals := 22 } : Room) [.ref m0, .int (nI k)] ([xO m0 3 [.int th, .int (nI n), .int (nI kc), .int td, .ref m1, .ref m2, .ref m3, .ref m4], xA γ m1 12 f]) (fun r9 w9 => r9 = some (.int (nI n)) ∧ w9 = [xO m0 3 [.int 0, .int (nI k), .int (nI 0), .int td, .ref m1, .ref m2, .ref m3, .ref m4], xA γ m1 12 (fun _ => 0)]) 0 0 := by
  refine xM.of (cc := cX3_lay) (maxL := 4) (ret := (some .int)) (by decide +kernel) rfl (Nat.le_of_ble_eq_true rfl) ?_
  intro p e s m below meth c hx hb hr hml hts hown hlocks hin hP hK A hA hD ls hl
  have hS : va_S A s.heap s.heap [] := va_S.rf
  generalize hargs : ([.ref m0, .int (nI k)] : List Value).toArray = args at hts ⊢
  obtain ⟨Q, hQ⟩ : ∃ Q9, Q9 = MQ below (xMQ γ (List.map Prod.fst ([xO m0 3 [.int th, .int (nI n), .int (nI kc), .int td, .ref m1, .ref m2, .ref m3, .ref m4], xA γ m1 12 f])) A (fun r9 w9 => r9 = some (.int (nI n)) ∧ w9 = [xO m0 3 [.int 0, .int (nI k), .int (nI 0), .int td, .ref m1, .ref m2, .ref m3, .ref m4], xA γ m1 12 (fun _ => 0)])) args s 0 0 A := ⟨_, rfl⟩
  rw [← hQ]
  have hown : s.vm.findClass RX3 = some m.cls := hown
  have hl : lv_has ls 4 [(0, .ref m0), (1, .int (nI k))] := hl
  refine lv_aload_n hx hb dX3_lay_0 rfl (lv_at hl 0 rfl) ?_
  refine lv_iconst (v := 0) hx hb dX3_lay_1 (by decide) ?_
  refine va_put (D := γ.1) (ci := 3) (v := .int 0) (ty := .int) (C := RX3) (T := TX3) (N := 8) hx hb hts iwX3_lay_3 tyX3 tyX3_ok nmX3 hown hK hP hD hS 0 rfl rfl 0 (by decide) (hts _ flX3_lay_26) (fun _ h9 => h9) rfl (by decide +kernel) rfl rfl (Nat.le_of_ble_eq_true rfl) dX3_lay_2 (fun H locs hP hD hS => ?_)
  have hP : xP γ ([xO m0 3 [.int 0, .int (nI n), .int (nI kc), .int td, .ref m1, .ref m2, .ref m3, .ref m4], xA γ m1 12 f]) H := hP
  have hD : va_D A ([xO m0 3 [.int 0, .int (nI n), .int (nI kc), .int td, .ref m1, .ref m2, .ref m3, .ref m4], xA γ m1 12 f]) := hD
  refine lv_iload_n hx hb dX3_lay_5 rfl (lv_at hl 1 rfl) ?_
  refine lv_iconst (v := 3) hx hb dX3_lay_6 (by decide) ?_
  refine lv_bipush (v := 12) hx hb dX3_lay_7 (by decide) ?_
  refine xSR (As := [.int (nI k), .int 3, .int 12]) (rest := []) (stk := [.int (if xInB (nI k) 3 12 = true then 1 else 0)]) ⟨hx, hb, hml, hown, hts⟩ (c_X3_isIn γ l (nI k) 3 12) (va_cwS 3 hts gX3_lay_X3_isIn rfl rfl rfl hds_X3_isIn ⟨(Nat.le_of_ble_eq_true rfl), (Nat.le_of_ble_eq_true rfl)⟩) hK hP [] rfl rfl hl.1 rfl (Nat.le_of_ble_eq_true rfl) dX3_lay_9 ⟨(Nat.le_of_ble_eq_true rfl), (Nat.le_of_ble_eq_true rfl)⟩ rfl ?_
  refine lv_if_ne (tgt := 21) hx hb dX3_lay_12 (by decide) (fun _ => ?_) (fun c => absurd c (xB_ne (xInB_le (nI_nlt (a := k) (b := 3) (by omega) (by omega)) (nI_le (a := k) (b := 12) (by omega) (by omega)))))
  refine lv_aload_n hx hb dX3_lay_21 rfl (lv_at hl 0 rfl) ?_
  refine va_get (D := γ.1) (ci := 3) (v := .int (nI n)) (C := RX3) (T := TX3) (N := 8) hx hb hts iwX3_lay_3 hown hK hP 0 rfl rfl 1 (by decide) (hts _ flX3_lay_7) (fun _ h9 => h9) rfl dX3_lay_22 ?_
  refine lv_istore_n (lv' := [(2, .int (nI n)), (0, .ref m0), (1, .int (nI k))]) hx hb dX3_lay_25 rfl hl (by decide) rfl (fun ls hl => ?_)
  refine lv_aload_n hx hb dX3_lay_26 rfl (lv_at hl 1 rfl) ?_
  refine lv_iload_n hx hb dX3_lay_27 rfl (lv_at hl 2 rfl) ?_
  refine va_put (D := γ.1) (ci := 3) (v := .int (nI k)) (ty := .int) (C := RX3) (T := TX3) (N := 8) hx hb hts iwX3_lay_3 tyX3 tyX3_ok nmX3 hown hK hP hD hS 0 rfl rfl 1 (by decide) (hts _ flX3_lay_7) (fun _ h9 => h9) rfl (by decide +kernel) rfl rfl (Nat.le_of_ble_eq_true rfl) dX3_lay_28 (fun H locs hP hD hS => ?_)
  have hP : xP γ ([xO m0 3 [.int 0, .int (nI k), .int (nI kc), .int td, .ref m1, .ref m2, .ref m3, .ref m4], xA γ m1 12 f]) H := hP
  have hD : va_D A ([xO m0 3 [.int 0, .int (nI k), .int (nI kc), .int td, .ref m1, .ref m2, .ref m3, .ref m4], xA γ m1 12 f]) := hD
  refine lv_aload_n hx hb dX3_lay_31 rfl (lv_at hl 1 rfl) ?_
  refine lv_iconst (v := 0) hx hb dX3_lay_32 (by decide) ?_
  refine va_put (D := γ.1) (ci := 3) (v := .int 0) (ty := .int) (C := RX3) (T := TX3) (N := 8) hx hb hts iwX3_lay_3 tyX3 tyX3_ok nmX3 hown hK hP hD hS 0 rfl rfl 2 (by decide) (hts _ flX3_lay_33) (fun _ h9 => h9) rfl (by decide +kernel) rfl rfl (Nat.le_of_ble_eq_true rfl) dX3_lay_33 (fun H locs hP hD hS => ?_)
  have hP : xP γ ([xO m0 3 [.int 0, .int (nI k), .int 0, .int td, .ref m1, .ref m2, .ref m3, .ref m4], xA γ m1 12 f]) H := hP
  have hD : va_D A ([xO m0 3 [.int 0, .int (nI k), .int 0, .int td, .ref m1, .ref m2, .ref m3, .ref m4], xA γ m1 12 f]) := hD
  refine lv_iconst (v := 0) hx hb dX3_lay_36 (by decide) ?_
  refine lv_istore_n (lv' := [(3, .int 0), (2, .int (nI n)), (0, .ref m0), (1, .int (nI k))]) hx hb dX3_lay_37 rfl hl (by decide) rfl (fun ls hl => ?_)
  have loop38 : ∀ j : Nat, ∀ (i : Nat) (g : xRow), i + j = 12 → (∀ z, z < i → g z = 0) → ∀ (H : Heap) (locs : List Loc), xP γ ([xO m0 3 [.int 0, .int (nI k), .int (nI 0), .int td, .ref m1, .ref m2, .ref m3, .ref m4], xA γ m1 12 g]) H → va_D A ([xO m0 3 [.int 0, .int (nI k), .int (nI 0), .int td, .ref m1, .ref m2, .ref m3, .ref m4], xA γ m1 12 g]) → va_S A s.heap H locs → ∀ ls : Array Slot, lv_has ls 4 [(0, .ref m0), (2, .int (nI n)), (3, .int (nI i))] → W p l e ({ frames := 1, cells := 0, slots := 0, locals := 22 } : Room) s m args below meth c H locs 0 0 Q (F0 m 38 ls []) := by
    intro j
    induction j with
    | zero =>
      intro i g hj hg H locs hP hD hS ls hl
      refine lv_iload_n hx hb dX3_lay_38 rfl (lv_at hl 2 rfl) ?_
      refine lv_bipush (v := 12) hx hb dX3_lay_39 (by decide) ?_
      refine lv_icmp_ge (tgt := 57) hx hb dX3_lay_41 (by decide) (fun _ => ?_) (fun c => absurd (nI_le (a := 12) (b := i) (by omega) (by omega)) c)
      have hP := xP_row hP 1 rfl (fun _ => 0) (fun z hz => hg z (by omega))
      have hP : xP γ [xO m0 3 [.int 0, .int (nI k), .int (nI 0), .int td, .ref m1, .ref m2, .ref m3, .ref m4], xA γ m1 12 (fun _ => 0)] H := hP
      have hD : va_D A [xO m0 3 [.int 0, .int (nI k), .int (nI 0), .int td, .ref m1, .ref m2, .ref m3, .ref m4], xA γ m1 12 (fun _ => 0)] := xD_row hD 1 rfl
      refine lv_iload_n hx hb dX3_lay_57 rfl (lv_at hl 1 rfl) ?_
      subst hQ
      exact xM_i hx hb hr hlocks dX3_lay_58 hP rfl hS (Nat.le_of_ble_eq_true rfl) (Nat.le_of_ble_eq_true rfl) (⟨rfl, rfl⟩)
    | succ j ih38 =>
      intro i g hj hg H locs hP hD hS ls hl
      refine lv_iload_n hx hb dX3_lay_38 rfl (lv_at hl 2 rfl) ?_
      refine lv_bipush (v := 12) hx hb dX3_lay_39 (by decide) ?_
      refine lv_icmp_ge (tgt := 57) hx hb dX3_lay_41 (by decide) (fun c => absurd c (nI_ge (a := i) (b := 12) (by omega) (by omega))) (fun _ => ?_)
      refine lv_aload_n hx hb dX3_lay_44 rfl (lv_at hl 0 rfl) ?_
      refine va_get (D := γ.1) (ci := 3) (v := .ref m1) (C := RX3) (T := TX3) (N := 8) hx hb hts iwX3_lay_3 hown hK hP 0 rfl rfl 4 (by decide) (hts _ flX3_lay_13) (fun _ h9 => h9) rfl dX3_lay_45 ?_
      refine lv_iload_n hx hb dX3_lay_48 rfl (lv_at hl 2 rfl) ?_
      refine lv_iconst (v := 0) hx hb dX3_lay_49 (by decide) ?_
      refine x_iast (f := g) hx hb hK hP hD hS 1 rfl i rfl (by omega) (by omega) dX3_lay_50 (fun H locs hP hD hS => ?_)
      have hP : xP γ ([xO m0 3 [.int 0, .int (nI k), .int (nI 0), .int td, .ref m1, .ref m2, .ref m3, .ref m4], xA γ m1 12 (upd g i 0)]) H := hP
      have hD : va_D A ([xO m0 3 [.int 0, .int (nI k), .int (nI 0), .int td, .ref m1, .ref m2, .ref m3, .ref m4], xA γ m1 12 (upd g i 0)]) := hD
      refine lv_iinc (v := nI (i + 1)) (lv' := [(3, .int (nI (i + 1))), (0, .ref m0), (2, .int (nI n))]) hx hb dX3_lay_51 hl (k := 2) rfl (nI_add i 1) (by decide) rfl (fun ls hl => ?_)
      refine lv_goto (tgt := 38) hx hb dX3_lay_54 (by decide) ?_
      exact ih38 (i + 1) (upd g i 0) (by omega) (fun z h => by unfold upd; split; exact rfl; exact hg z (by omega)) _ _ hP hD hS ls (lv_sub hl [1, 2, 0] rfl)
  exact loop38 12 0 f (by omega) (fun i h => absurd h (Nat.not_lt_zero i)) _ _ hP hD hS ls (lv_sub hl [2, 1, 0] rfl)

theorem hdv_X3_no : yX3_no.cls = RX3 ∧ yX3_no.cls ≠ "java/lang/invoke/MethodHandle" ∧ yX3_no.cls ≠ "java/lang/invoke/VarHandle" ∧ (parseMethodDescriptor yX3_no.desc).map (fun d => d.parameters.length) = some 1 := by decide +kernel
set_option maxHeartbeats 4000000 in
set_option maxRecDepth 100000 in
theorem c_X3_lay_x (γ : xG) (l : Launch) (m0 m1 m2 m3 m4 n kc : Nat) (th td : Int32) (x : Int32) (hxb : xInB x 3 12 = false)  : xM γ l yX3_lay wsX3_lay ({ frames := 1, cells := 0, slots := 0, locals := 22 } : Room) [.ref m0, .int x] ([xO m0 3 [.int th, .int (nI n), .int (nI kc), .int td, .ref m1, .ref m2, .ref m3, .ref m4]]) (fun r9 w9 => r9 = some (.int 0) ∧ w9 = [xO m0 3 [.int 1, .int (nI n), .int (nI kc), .int td, .ref m1, .ref m2, .ref m3, .ref m4]]) 0 0 := by
  refine xM.of (cc := cX3_lay) (maxL := 4) (ret := (some .int)) (by decide +kernel) rfl (Nat.le_of_ble_eq_true rfl) ?_
  intro p e s m below meth c hx hb hr hml hts hown hlocks hin hP hK A hA hD ls hl
  have hS : va_S A s.heap s.heap [] := va_S.rf
  generalize hargs : ([.ref m0, .int x] : List Value).toArray = args at hts ⊢
  obtain ⟨Q, hQ⟩ : ∃ Q9, Q9 = MQ below (xMQ γ (List.map Prod.fst ([xO m0 3 [.int th, .int (nI n), .int (nI kc), .int td, .ref m1, .ref m2, .ref m3, .ref m4]])) A (fun r9 w9 => r9 = some (.int 0) ∧ w9 = [xO m0 3 [.int 1, .int (nI n), .int (nI kc), .int td, .ref m1, .ref m2, .ref m3, .ref m4]])) args s 0 0 A := ⟨_, rfl⟩
  rw [← hQ]
  have hown : s.vm.findClass RX3 = some m.cls := hown
  have hl : lv_has ls 4 [(0, .ref m0), (1, .int x)] := hl
  refine lv_aload_n hx hb dX3_lay_0 rfl (lv_at hl 0 rfl) ?_
  refine lv_iconst (v := 0) hx hb dX3_lay_1 (by decide) ?_
  refine va_put (D := γ.1) (ci := 3) (v := .int 0) (ty := .int) (C := RX3) (T := TX3) (N := 8) hx hb hts iwX3_lay_3 tyX3 tyX3_ok nmX3 hown hK hP hD hS 0 rfl rfl 0 (by decide) (hts _ flX3_lay_26) (fun _ h9 => h9) rfl (by decide +kernel) rfl rfl (Nat.le_of_ble_eq_true rfl) dX3_lay_2 (fun H locs hP hD hS => ?_)
  have hP : xP γ ([xO m0 3 [.int 0, .int (nI n), .int (nI kc), .int td, .ref m1, .ref m2, .ref m3, .ref m4]]) H := hP
  have hD : va_D A ([xO m0 3 [.int 0, .int (nI n), .int (nI kc), .int td, .ref m1, .ref m2, .ref m3, .ref m4]]) := hD
  refine lv_iload_n hx hb dX3_lay_5 rfl (lv_at hl 1 rfl) ?_
  refine lv_iconst (v := 3) hx hb dX3_lay_6 (by decide) ?_
  refine lv_bipush (v := 12) hx hb dX3_lay_7 (by decide) ?_
  refine xSR (As := [.int x, .int 3, .int 12]) (rest := []) (stk := [.int (if xInB x 3 12 = true then 1 else 0)]) ⟨hx, hb, hml, hown, hts⟩ (c_X3_isIn γ l x 3 12) (va_cwS 3 hts gX3_lay_X3_isIn rfl rfl rfl hds_X3_isIn ⟨(Nat.le_of_ble_eq_true rfl), (Nat.le_of_ble_eq_true rfl)⟩) hK hP [] rfl rfl hl.1 rfl (Nat.le_of_ble_eq_true rfl) dX3_lay_9 ⟨(Nat.le_of_ble_eq_true rfl), (Nat.le_of_ble_eq_true rfl)⟩ rfl ?_
  refine lv_if_ne (tgt := 21) hx hb dX3_lay_12 (by decide) (fun c => absurd (xB_eq hxb) c) (fun _ => ?_)
  refine lv_aload_n hx hb dX3_lay_15 rfl (lv_at hl 0 rfl) ?_
  refine lv_iconst (v := 1) hx hb dX3_lay_16 (by decide) ?_
  refine xVM (q0 := 0) (ci := 3) (As := [.int 1]) (rest := []) ⟨hx, hb, hml, hown, hts⟩ (c_X3_no γ l m0 m1 m2 m3 m4 n kc 0 td 1) (cwV 1 hts gX3_lay_X3_no rfl rfl rfl hdv_X3_no ⟨(Nat.le_of_ble_eq_true rfl), (Nat.le_of_ble_eq_true rfl)⟩) hK hP hD hS hA [0] rfl rfl rfl rfl rfl hl.1 rfl (Nat.le_of_ble_eq_true rfl) dX3_lay_17 ⟨(Nat.le_of_ble_eq_true rfl), (Nat.le_of_ble_eq_true rfl)⟩ (fun r9 w9 H locs hw hP hD hS => ?_)
  obtain ⟨rfl, rfl⟩ := hw
  have hP : xP γ ([xO m0 3 [.int 1, .int (nI n), .int (nI kc), .int td, .ref m1, .ref m2, .ref m3, .ref m4]]) H := hP
  have hD : va_D A ([xO m0 3 [.int 1, .int (nI n), .int (nI kc), .int td, .ref m1, .ref m2, .ref m3, .ref m4]]) := hD
  refine W.eq (g2 := F0 m 20 ls [.int 0]) rfl ?_
  subst hQ
  exact xM_i hx hb hr hlocks dX3_lay_20 hP rfl hS (Nat.le_of_ble_eq_true rfl) (Nat.le_of_ble_eq_true rfl) (⟨rfl, rfl⟩)

theorem hdv_X3_isPlace : yX3_isPlace.cls = RX3 ∧ yX3_isPlace.cls ≠ "java/lang/invoke/MethodHandle" ∧ yX3_isPlace.cls ≠ "java/lang/invoke/VarHandle" ∧ (parseMethodDescriptor yX3_isPlace.desc).map (fun d => d.parameters.length) = some 1 := by decide +kernel
theorem flX3_put_26 : Cond.fieldLink RX3 26 "RingSeesawModel" "thrown" "I" ∈ wsX3_put := by decide +kernel
theorem iwX3_put_3 : ∀ w ∈ wsX30, w ∈ wsX3_put := by decide +kernel
theorem flX3_put_13 : Cond.fieldLink RX3 13 "RingSeesawModel" "x" "[I" ∈ wsX3_put := by decide +kernel
set_option maxHeartbeats 4000000 in
set_option maxRecDepth 100000 in
theorem c_X3_put (γ : xG) (l : Launch) (m0 m1 m2 m3 m4 n kc : Nat) (th td : Int32) (f : xRow) (k : Nat) (x : Int32) (hn0 : 3 ≤ n) (hn1 : n ≤ 12) (hk : k < n) (h1 : ¬ x < (-999)) (h2 : x ≤ 999) : xM γ l yX3_put wsX3_put ({ frames := 2, cells := 0, slots := 0, locals := 43 } : Room) [.ref m0, .int (nI k), .int x] ([xO m0 3 [.int th, .int (nI n), .int (nI kc), .int td, .ref m1, .ref m2, .ref m3, .ref m4], xA γ m1 12 f]) (fun r9 w9 => r9 = some (.int (f k)) ∧ w9 = [xO m0 3 [.int 0, .int (nI n), .int (nI kc), .int td, .ref m1, .ref m2, .ref m3, .ref m4], xA γ m1 12 (upd f k x)]) 0 0 := by
  refine xM.of (cc := cX3_put) (maxL := 4) (ret := (some .int)) (by decide +kernel) rfl (Nat.le_of_ble_eq_true rfl) ?_
  intro p e s m below meth c hx hb hr hml hts hown hlocks hin hP hK A hA hD ls hl
  have hS : va_S A s.heap s.heap [] := va_S.rf
  generalize hargs : ([.ref m0, .int (nI k), .int x] : List Value).toArray = args at hts ⊢
  obtain ⟨Q, hQ⟩ : ∃ Q9, Q9 = MQ below (xMQ γ (List.map Prod.fst ([xO m0 3 [.int th, .int (nI n), .int (nI kc), .int td, .ref m1, .ref m2, .ref m3, .ref m4], xA γ m1 12 f])) A (fun r9 w9 => r9 = some (.int (f k)) ∧ w9 = [xO m0 3 [.int 0, .int (nI n), .int (nI kc), .int td, .ref m1, .ref m2, .ref m3, .ref m4], xA γ m1 12 (upd f k x)])) args s 0 0 A := ⟨_, rfl⟩
  rw [← hQ]
  have hown : s.vm.findClass RX3 = some m.cls := hown
  have hl : lv_has ls 4 [(0, .ref m0), (1, .int (nI k)), (2, .int x)] := hl
  refine lv_aload_n hx hb dX3_put_0 rfl (lv_at hl 0 rfl) ?_
  refine lv_iconst (v := 0) hx hb dX3_put_1 (by decide) ?_
  refine va_put (D := γ.1) (ci := 3) (v := .int 0) (ty := .int) (C := RX3) (T := TX3) (N := 8) hx hb hts iwX3_put_3 tyX3 tyX3_ok nmX3 hown hK hP hD hS 0 rfl rfl 0 (by decide) (hts _ flX3_put_26) (fun _ h9 => h9) rfl (by decide +kernel) rfl rfl (Nat.le_of_ble_eq_true rfl) dX3_put_2 (fun H locs hP hD hS => ?_)
  have hP : xP γ ([xO m0 3 [.int 0, .int (nI n), .int (nI kc), .int td, .ref m1, .ref m2, .ref m3, .ref m4], xA γ m1 12 f]) H := hP
  have hD : va_D A ([xO m0 3 [.int 0, .int (nI n), .int (nI kc), .int td, .ref m1, .ref m2, .ref m3, .ref m4], xA γ m1 12 f]) := hD
  refine lv_aload_n hx hb dX3_put_5 rfl (lv_at hl 0 rfl) ?_
  refine lv_iload_n hx hb dX3_put_6 rfl (lv_at hl 1 rfl) ?_
  refine xVR (q0 := 0) (ci := 3) (As := [.int (nI k)]) (rest := []) (stk := [.int (if xInB (nI k) 0 (nI n - 1) = true then 1 else 0)]) ⟨hx, hb, hml, hown, hts⟩ (c_X3_isPlace γ l m0 m1 m2 m3 m4 n kc 0 td (nI k)) (cwV 1 hts gX3_put_X3_isPlace rfl rfl rfl hdv_X3_isPlace ⟨(Nat.le_of_ble_eq_true rfl), (Nat.le_of_ble_eq_true rfl)⟩) hK hP [0] rfl rfl rfl rfl hl.1 rfl (Nat.le_of_ble_eq_true rfl) dX3_put_7 ⟨(Nat.le_of_ble_eq_true rfl), (Nat.le_of_ble_eq_true rfl)⟩ rfl ?_
  refine lv_if_ne (tgt := 19) hx hb dX3_put_10 (by decide) (fun _ => ?_) (fun c => absurd c (xB_ne (xIn_pl hk hn1)))
  refine lv_iload_n hx hb dX3_put_19 rfl (lv_at hl 2 rfl) ?_
  refine lv_sipush (v := (-999)) hx hb dX3_put_20 (by decide) ?_
  refine lv_sipush (v := 999) hx hb dX3_put_23 (by decide) ?_
  refine xSR (As := [.int x, .int (-999), .int 999]) (rest := []) (stk := [.int (if xInB x (-999) 999 = true then 1 else 0)]) ⟨hx, hb, hml, hown, hts⟩ (c_X3_isIn γ l x (-999) 999) (va_cwS 3 hts gX3_put_X3_isIn rfl rfl rfl hds_X3_isIn ⟨(Nat.le_of_ble_eq_true rfl), (Nat.le_of_ble_eq_true rfl)⟩) hK hP [] rfl rfl hl.1 rfl (Nat.le_of_ble_eq_true rfl) dX3_put_26 ⟨(Nat.le_of_ble_eq_true rfl), (Nat.le_of_ble_eq_true rfl)⟩ rfl ?_
  refine lv_if_ne (tgt := 38) hx hb dX3_put_29 (by decide) (fun _ => ?_) (fun c => absurd c (xB_ne (xInB_le h1 h2)))
  refine lv_aload_n hx hb dX3_put_38 rfl (lv_at hl 0 rfl) ?_
  refine va_get (D := γ.1) (ci := 3) (v := .ref m1) (C := RX3) (T := TX3) (N := 8) hx hb hts iwX3_put_3 hown hK hP 0 rfl rfl 4 (by decide) (hts _ flX3_put_13) (fun _ h9 => h9) rfl dX3_put_39 ?_
  refine lv_iload_n hx hb dX3_put_42 rfl (lv_at hl 1 rfl) ?_
  refine x_iald (f := f) hx hb hK hP 1 rfl k rfl (by omega) (by omega) dX3_put_43 ?_
  refine lv_istore_n (lv' := [(3, .int (f k)), (0, .ref m0), (1, .int (nI k)), (2, .int x)]) hx hb dX3_put_44 rfl hl (by decide) rfl (fun ls hl => ?_)
  refine lv_aload_n hx hb dX3_put_45 rfl (lv_at hl 1 rfl) ?_
  refine va_get (D := γ.1) (ci := 3) (v := .ref m1) (C := RX3) (T := TX3) (N := 8) hx hb hts iwX3_put_3 hown hK hP 0 rfl rfl 4 (by decide) (hts _ flX3_put_13) (fun _ h9 => h9) rfl dX3_put_46 ?_
  refine lv_iload_n hx hb dX3_put_49 rfl (lv_at hl 2 rfl) ?_
  refine lv_iload_n hx hb dX3_put_50 rfl (lv_at hl 3 rfl) ?_
  refine x_iast (f := f) hx hb hK hP hD hS 1 rfl k rfl (by omega) (by omega) dX3_put_51 (fun H locs hP hD hS => ?_)
  have hP : xP γ ([xO m0 3 [.int 0, .int (nI n), .int (nI kc), .int td, .ref m1, .ref m2, .ref m3, .ref m4], xA γ m1 12 (upd f k x)]) H := hP
  have hD : va_D A ([xO m0 3 [.int 0, .int (nI n), .int (nI kc), .int td, .ref m1, .ref m2, .ref m3, .ref m4], xA γ m1 12 (upd f k x)]) := hD
  refine lv_iload_n hx hb dX3_put_52 rfl (lv_at hl 0 rfl) ?_
  subst hQ
  exact xM_i hx hb hr hlocks dX3_put_53 hP rfl hS (Nat.le_of_ble_eq_true rfl) (Nat.le_of_ble_eq_true rfl) (⟨rfl, rfl⟩)

set_option maxHeartbeats 4000000 in
set_option maxRecDepth 100000 in
theorem c_X3_put_x1 (γ : xG) (l : Launch) (m0 m1 m2 m3 m4 n kc : Nat) (th td : Int32) (x y : Int32) (hxb : xInB x 0 (nI n - 1) = false)  : xM γ l yX3_put wsX3_put ({ frames := 2, cells := 0, slots := 0, locals := 43 } : Room) [.ref m0, .int x, .int y] ([xO m0 3 [.int th, .int (nI n), .int (nI kc), .int td, .ref m1, .ref m2, .ref m3, .ref m4]]) (fun r9 w9 => r9 = some (.int 0) ∧ w9 = [xO m0 3 [.int 1, .int (nI n), .int (nI kc), .int td, .ref m1, .ref m2, .ref m3, .ref m4]]) 0 0 := by
  refine xM.of (cc := cX3_put) (maxL := 4) (ret := (some .int)) (by decide +kernel) rfl (Nat.le_of_ble_eq_true rfl) ?_
  intro p e s m below meth c hx hb hr hml hts hown hlocks hin hP hK A hA hD ls hl
  have hS : va_S A s.heap s.heap [] := va_S.rf
  generalize hargs : ([.ref m0, .int x, .int y] : List Value).toArray = args at hts ⊢
  obtain ⟨Q, hQ⟩ : ∃ Q9, Q9 = MQ below (xMQ γ (List.map Prod.fst ([xO m0 3 [.int th, .int (nI n), .int (nI kc), .int td, .ref m1, .ref m2, .ref m3, .ref m4]])) A (fun r9 w9 => r9 = some (.int 0) ∧ w9 = [xO m0 3 [.int 1, .int (nI n), .int (nI kc), .int td, .ref m1, .ref m2, .ref m3, .ref m4]])) args s 0 0 A := ⟨_, rfl⟩
  rw [← hQ]
  have hown : s.vm.findClass RX3 = some m.cls := hown
  have hl : lv_has ls 4 [(0, .ref m0), (1, .int x), (2, .int y)] := hl
  refine lv_aload_n hx hb dX3_put_0 rfl (lv_at hl 0 rfl) ?_
  refine lv_iconst (v := 0) hx hb dX3_put_1 (by decide) ?_
  refine va_put (D := γ.1) (ci := 3) (v := .int 0) (ty := .int) (C := RX3) (T := TX3) (N := 8) hx hb hts iwX3_put_3 tyX3 tyX3_ok nmX3 hown hK hP hD hS 0 rfl rfl 0 (by decide) (hts _ flX3_put_26) (fun _ h9 => h9) rfl (by decide +kernel) rfl rfl (Nat.le_of_ble_eq_true rfl) dX3_put_2 (fun H locs hP hD hS => ?_)
  have hP : xP γ ([xO m0 3 [.int 0, .int (nI n), .int (nI kc), .int td, .ref m1, .ref m2, .ref m3, .ref m4]]) H := hP
  have hD : va_D A ([xO m0 3 [.int 0, .int (nI n), .int (nI kc), .int td, .ref m1, .ref m2, .ref m3, .ref m4]]) := hD
  refine lv_aload_n hx hb dX3_put_5 rfl (lv_at hl 0 rfl) ?_
  refine lv_iload_n hx hb dX3_put_6 rfl (lv_at hl 1 rfl) ?_
  refine xVR (q0 := 0) (ci := 3) (As := [.int x]) (rest := []) (stk := [.int (if xInB x 0 (nI n - 1) = true then 1 else 0)]) ⟨hx, hb, hml, hown, hts⟩ (c_X3_isPlace γ l m0 m1 m2 m3 m4 n kc 0 td x) (cwV 1 hts gX3_put_X3_isPlace rfl rfl rfl hdv_X3_isPlace ⟨(Nat.le_of_ble_eq_true rfl), (Nat.le_of_ble_eq_true rfl)⟩) hK hP [0] rfl rfl rfl rfl hl.1 rfl (Nat.le_of_ble_eq_true rfl) dX3_put_7 ⟨(Nat.le_of_ble_eq_true rfl), (Nat.le_of_ble_eq_true rfl)⟩ rfl ?_
  refine lv_if_ne (tgt := 19) hx hb dX3_put_10 (by decide) (fun c => absurd (xB_eq hxb) c) (fun _ => ?_)
  refine lv_aload_n hx hb dX3_put_13 rfl (lv_at hl 0 rfl) ?_
  refine lv_iconst (v := 1) hx hb dX3_put_14 (by decide) ?_
  refine xVM (q0 := 0) (ci := 3) (As := [.int 1]) (rest := []) ⟨hx, hb, hml, hown, hts⟩ (c_X3_no γ l m0 m1 m2 m3 m4 n kc 0 td 1) (cwV 1 hts gX3_put_X3_no rfl rfl rfl hdv_X3_no ⟨(Nat.le_of_ble_eq_true rfl), (Nat.le_of_ble_eq_true rfl)⟩) hK hP hD hS hA [0] rfl rfl rfl rfl rfl hl.1 rfl (Nat.le_of_ble_eq_true rfl) dX3_put_15 ⟨(Nat.le_of_ble_eq_true rfl), (Nat.le_of_ble_eq_true rfl)⟩ (fun r9 w9 H locs hw hP hD hS => ?_)
  obtain ⟨rfl, rfl⟩ := hw
  have hP : xP γ ([xO m0 3 [.int 1, .int (nI n), .int (nI kc), .int td, .ref m1, .ref m2, .ref m3, .ref m4]]) H := hP
  have hD : va_D A ([xO m0 3 [.int 1, .int (nI n), .int (nI kc), .int td, .ref m1, .ref m2, .ref m3, .ref m4]]) := hD
  refine W.eq (g2 := F0 m 18 ls [.int 0]) rfl ?_
  subst hQ
  exact xM_i hx hb hr hlocks dX3_put_18 hP rfl hS (Nat.le_of_ble_eq_true rfl) (Nat.le_of_ble_eq_true rfl) (⟨rfl, rfl⟩)

set_option maxHeartbeats 4000000 in
set_option maxRecDepth 100000 in
theorem c_X3_put_x2 (γ : xG) (l : Launch) (m0 m1 m2 m3 m4 n kc : Nat) (th td : Int32) (k : Nat) (x : Int32) (hn0 : 3 ≤ n) (hn1 : n ≤ 12) (hk : k < n) (hxb : xInB x (-999) 999 = false)  : xM γ l yX3_put wsX3_put ({ frames := 2, cells := 0, slots := 0, locals := 43 } : Room) [.ref m0, .int (nI k), .int x] ([xO m0 3 [.int th, .int (nI n), .int (nI kc), .int td, .ref m1, .ref m2, .ref m3, .ref m4]]) (fun r9 w9 => r9 = some (.int 0) ∧ w9 = [xO m0 3 [.int 2, .int (nI n), .int (nI kc), .int td, .ref m1, .ref m2, .ref m3, .ref m4]]) 0 0 := by
  refine xM.of (cc := cX3_put) (maxL := 4) (ret := (some .int)) (by decide +kernel) rfl (Nat.le_of_ble_eq_true rfl) ?_
  intro p e s m below meth c hx hb hr hml hts hown hlocks hin hP hK A hA hD ls hl
  have hS : va_S A s.heap s.heap [] := va_S.rf
  generalize hargs : ([.ref m0, .int (nI k), .int x] : List Value).toArray = args at hts ⊢
  obtain ⟨Q, hQ⟩ : ∃ Q9, Q9 = MQ below (xMQ γ (List.map Prod.fst ([xO m0 3 [.int th, .int (nI n), .int (nI kc), .int td, .ref m1, .ref m2, .ref m3, .ref m4]])) A (fun r9 w9 => r9 = some (.int 0) ∧ w9 = [xO m0 3 [.int 2, .int (nI n), .int (nI kc), .int td, .ref m1, .ref m2, .ref m3, .ref m4]])) args s 0 0 A := ⟨_, rfl⟩
  rw [← hQ]
  have hown : s.vm.findClass RX3 = some m.cls := hown
  have hl : lv_has ls 4 [(0, .ref m0), (1, .int (nI k)), (2, .int x)] := hl
  refine lv_aload_n hx hb dX3_put_0 rfl (lv_at hl 0 rfl) ?_
  refine lv_iconst (v := 0) hx hb dX3_put_1 (by decide) ?_
  refine va_put (D := γ.1) (ci := 3) (v := .int 0) (ty := .int) (C := RX3) (T := TX3) (N := 8) hx hb hts iwX3_put_3 tyX3 tyX3_ok nmX3 hown hK hP hD hS 0 rfl rfl 0 (by decide) (hts _ flX3_put_26) (fun _ h9 => h9) rfl (by decide +kernel) rfl rfl (Nat.le_of_ble_eq_true rfl) dX3_put_2 (fun H locs hP hD hS => ?_)
  have hP : xP γ ([xO m0 3 [.int 0, .int (nI n), .int (nI kc), .int td, .ref m1, .ref m2, .ref m3, .ref m4]]) H := hP
  have hD : va_D A ([xO m0 3 [.int 0, .int (nI n), .int (nI kc), .int td, .ref m1, .ref m2, .ref m3, .ref m4]]) := hD
  refine lv_aload_n hx hb dX3_put_5 rfl (lv_at hl 0 rfl) ?_
  refine lv_iload_n hx hb dX3_put_6 rfl (lv_at hl 1 rfl) ?_
  refine xVR (q0 := 0) (ci := 3) (As := [.int (nI k)]) (rest := []) (stk := [.int (if xInB (nI k) 0 (nI n - 1) = true then 1 else 0)]) ⟨hx, hb, hml, hown, hts⟩ (c_X3_isPlace γ l m0 m1 m2 m3 m4 n kc 0 td (nI k)) (cwV 1 hts gX3_put_X3_isPlace rfl rfl rfl hdv_X3_isPlace ⟨(Nat.le_of_ble_eq_true rfl), (Nat.le_of_ble_eq_true rfl)⟩) hK hP [0] rfl rfl rfl rfl hl.1 rfl (Nat.le_of_ble_eq_true rfl) dX3_put_7 ⟨(Nat.le_of_ble_eq_true rfl), (Nat.le_of_ble_eq_true rfl)⟩ rfl ?_
  refine lv_if_ne (tgt := 19) hx hb dX3_put_10 (by decide) (fun _ => ?_) (fun c => absurd c (xB_ne (xIn_pl hk hn1)))
  refine lv_iload_n hx hb dX3_put_19 rfl (lv_at hl 2 rfl) ?_
  refine lv_sipush (v := (-999)) hx hb dX3_put_20 (by decide) ?_
  refine lv_sipush (v := 999) hx hb dX3_put_23 (by decide) ?_
  refine xSR (As := [.int x, .int (-999), .int 999]) (rest := []) (stk := [.int (if xInB x (-999) 999 = true then 1 else 0)]) ⟨hx, hb, hml, hown, hts⟩ (c_X3_isIn γ l x (-999) 999) (va_cwS 3 hts gX3_put_X3_isIn rfl rfl rfl hds_X3_isIn ⟨(Nat.le_of_ble_eq_true rfl), (Nat.le_of_ble_eq_true rfl)⟩) hK hP [] rfl rfl hl.1 rfl (Nat.le_of_ble_eq_true rfl) dX3_put_26 ⟨(Nat.le_of_ble_eq_true rfl), (Nat.le_of_ble_eq_true rfl)⟩ rfl ?_
  refine lv_if_ne (tgt := 38) hx hb dX3_put_29 (by decide) (fun c => absurd (xB_eq hxb) c) (fun _ => ?_)
  refine lv_aload_n hx hb dX3_put_32 rfl (lv_at hl 0 rfl) ?_
  refine lv_iconst (v := 2) hx hb dX3_put_33 (by decide) ?_
  refine xVM (q0 := 0) (ci := 3) (As := [.int 2]) (rest := []) ⟨hx, hb, hml, hown, hts⟩ (c_X3_no γ l m0 m1 m2 m3 m4 n kc 0 td 2) (cwV 1 hts gX3_put_X3_no rfl rfl rfl hdv_X3_no ⟨(Nat.le_of_ble_eq_true rfl), (Nat.le_of_ble_eq_true rfl)⟩) hK hP hD hS hA [0] rfl rfl rfl rfl rfl hl.1 rfl (Nat.le_of_ble_eq_true rfl) dX3_put_34 ⟨(Nat.le_of_ble_eq_true rfl), (Nat.le_of_ble_eq_true rfl)⟩ (fun r9 w9 H locs hw hP hD hS => ?_)
  obtain ⟨rfl, rfl⟩ := hw
  have hP : xP γ ([xO m0 3 [.int 2, .int (nI n), .int (nI kc), .int td, .ref m1, .ref m2, .ref m3, .ref m4]]) H := hP
  have hD : va_D A ([xO m0 3 [.int 2, .int (nI n), .int (nI kc), .int td, .ref m1, .ref m2, .ref m3, .ref m4]]) := hD
  refine W.eq (g2 := F0 m 37 ls [.int 0]) rfl ?_
  subst hQ
  exact xM_i hx hb hr hlocks dX3_put_37 hP rfl hS (Nat.le_of_ble_eq_true rfl) (Nat.le_of_ble_eq_true rfl) (⟨rfl, rfl⟩)

theorem flX3_tip_26 : Cond.fieldLink RX3 26 "RingSeesawModel" "thrown" "I" ∈ wsX3_tip := by decide +kernel
theorem iwX3_tip_3 : ∀ w ∈ wsX30, w ∈ wsX3_tip := by decide +kernel
theorem flX3_tip_13 : Cond.fieldLink RX3 13 "RingSeesawModel" "x" "[I" ∈ wsX3_tip := by decide +kernel
theorem flX3_tip_74 : Cond.fieldLink RX3 74 "RingSeesawModel" "tips" "I" ∈ wsX3_tip := by decide +kernel
theorem wdX3_tip_m77a : Cond.methodLink RX3 77 Lib.Math.abs.name ∈ wsX3_tip := by decide +kernel
theorem wdX3_tip_m77b : Cond.static Lib.Math.abs.name ∈ wsX3_tip := by decide +kernel
theorem wdX3_tip_m77c : Cond.initialized "java/lang/Math" ∈ wsX3_tip := by decide +kernel
theorem wdX3_tip_m77d : Cond.code Lib.Math.abs.name Lib.Math.abs.code 1 (some .int) ∈ wsX3_tip := by decide +kernel
set_option maxHeartbeats 4000000 in
set_option maxRecDepth 100000 in
theorem c_X3_tip (γ : xG) (l : Launch) (m0 m1 m2 m3 m4 n kc : Nat) (th td : Int32) (f : xRow) (k : Nat) (x : Int32) (hn0 : 3 ≤ n) (hn1 : n ≤ 12) (hk : k < n) (h1 : ¬ x < (-50)) (h2 : x ≤ 50) : xM γ l yX3_tip wsX3_tip ({ frames := 2, cells := 0, slots := 0, locals := 45 } : Room) [.ref m0, .int (nI k), .int x] ([xO m0 3 [.int th, .int (nI n), .int (nI kc), .int td, .ref m1, .ref m2, .ref m3, .ref m4], xA γ m1 12 f]) (fun r9 w9 => r9 = some (.int (xTip n f k x k)) ∧ w9 = [xO m0 3 [.int 0, .int (nI n), .int (nI kc), .int (td + xAbs x), .ref m1, .ref m2, .ref m3, .ref m4], xA γ m1 12 (xTip n f k x)]) 0 0 := by
  refine xM.of (cc := cX3_tip) (maxL := 3) (ret := (some .int)) (by decide +kernel) rfl (Nat.le_of_ble_eq_true rfl) ?_
  intro p e s m below meth c hx hb hr hml hts hown hlocks hin hP hK A hA hD ls hl
  have hS : va_S A s.heap s.heap [] := va_S.rf
  generalize hargs : ([.ref m0, .int (nI k), .int x] : List Value).toArray = args at hts ⊢
  obtain ⟨Q, hQ⟩ : ∃ Q9, Q9 = MQ below (xMQ γ (List.map Prod.fst ([xO m0 3 [.int th, .int (nI n), .int (nI kc), .int td, .ref m1, .ref m2, .ref m3, .ref m4], xA γ m1 12 f])) A (fun r9 w9 => r9 = some (.int (xTip n f k x k)) ∧ w9 = [xO m0 3 [.int 0, .int (nI n), .int (nI kc), .int (td + xAbs x), .ref m1, .ref m2, .ref m3, .ref m4], xA γ m1 12 (xTip n f k x)])) args s 0 0 A := ⟨_, rfl⟩
  rw [← hQ]
  have hown : s.vm.findClass RX3 = some m.cls := hown
  have hl : lv_has ls 3 [(0, .ref m0), (1, .int (nI k)), (2, .int x)] := hl
  refine lv_aload_n hx hb dX3_tip_0 rfl (lv_at hl 0 rfl) ?_
  refine lv_iconst (v := 0) hx hb dX3_tip_1 (by decide) ?_
  refine va_put (D := γ.1) (ci := 3) (v := .int 0) (ty := .int) (C := RX3) (T := TX3) (N := 8) hx hb hts iwX3_tip_3 tyX3 tyX3_ok nmX3 hown hK hP hD hS 0 rfl rfl 0 (by decide) (hts _ flX3_tip_26) (fun _ h9 => h9) rfl (by decide +kernel) rfl rfl (Nat.le_of_ble_eq_true rfl) dX3_tip_2 (fun H locs hP hD hS => ?_)
  have hP : xP γ ([xO m0 3 [.int 0, .int (nI n), .int (nI kc), .int td, .ref m1, .ref m2, .ref m3, .ref m4], xA γ m1 12 f]) H := hP
  have hD : va_D A ([xO m0 3 [.int 0, .int (nI n), .int (nI kc), .int td, .ref m1, .ref m2, .ref m3, .ref m4], xA γ m1 12 f]) := hD
  refine lv_aload_n hx hb dX3_tip_5 rfl (lv_at hl 0 rfl) ?_
  refine lv_iload_n hx hb dX3_tip_6 rfl (lv_at hl 1 rfl) ?_
  refine xVR (q0 := 0) (ci := 3) (As := [.int (nI k)]) (rest := []) (stk := [.int (if xInB (nI k) 0 (nI n - 1) = true then 1 else 0)]) ⟨hx, hb, hml, hown, hts⟩ (c_X3_isPlace γ l m0 m1 m2 m3 m4 n kc 0 td (nI k)) (cwV 1 hts gX3_tip_X3_isPlace rfl rfl rfl hdv_X3_isPlace ⟨(Nat.le_of_ble_eq_true rfl), (Nat.le_of_ble_eq_true rfl)⟩) hK hP [0] rfl rfl rfl rfl hl.1 rfl (Nat.le_of_ble_eq_true rfl) dX3_tip_7 ⟨(Nat.le_of_ble_eq_true rfl), (Nat.le_of_ble_eq_true rfl)⟩ rfl ?_
  refine lv_if_ne (tgt := 19) hx hb dX3_tip_10 (by decide) (fun _ => ?_) (fun c => absurd c (xB_ne (xIn_pl hk hn1)))
  refine lv_iload_n hx hb dX3_tip_19 rfl (lv_at hl 2 rfl) ?_
  refine lv_bipush (v := (-50)) hx hb dX3_tip_20 (by decide) ?_
  refine lv_bipush (v := 50) hx hb dX3_tip_22 (by decide) ?_
  refine xSR (As := [.int x, .int (-50), .int 50]) (rest := []) (stk := [.int (if xInB x (-50) 50 = true then 1 else 0)]) ⟨hx, hb, hml, hown, hts⟩ (c_X3_isIn γ l x (-50) 50) (va_cwS 3 hts gX3_tip_X3_isIn rfl rfl rfl hds_X3_isIn ⟨(Nat.le_of_ble_eq_true rfl), (Nat.le_of_ble_eq_true rfl)⟩) hK hP [] rfl rfl hl.1 rfl (Nat.le_of_ble_eq_true rfl) dX3_tip_24 ⟨(Nat.le_of_ble_eq_true rfl), (Nat.le_of_ble_eq_true rfl)⟩ rfl ?_
  refine lv_if_ne (tgt := 36) hx hb dX3_tip_27 (by decide) (fun _ => ?_) (fun c => absurd c (xB_ne (xInB_le h1 h2)))
  refine lv_aload_n hx hb dX3_tip_36 rfl (lv_at hl 0 rfl) ?_
  refine lv_aload_n hx hb dX3_tip_37 rfl (lv_at hl 0 rfl) ?_
  refine va_get (D := γ.1) (ci := 3) (v := .ref m1) (C := RX3) (T := TX3) (N := 8) hx hb hts iwX3_tip_3 hown hK hP 0 rfl rfl 4 (by decide) (hts _ flX3_tip_13) (fun _ h9 => h9) rfl dX3_tip_38 ?_
  refine lv_iload_n hx hb dX3_tip_41 rfl (lv_at hl 1 rfl) ?_
  refine lv_iload_n hx hb dX3_tip_42 rfl (lv_at hl 2 rfl) ?_
  refine xVM (q0 := 0) (ci := 3) (As := [.ref m1, .int (nI k), .int x]) (rest := []) ⟨hx, hb, hml, hown, hts⟩ (c_X3_lean γ l m0 m1 m2 m3 m4 n kc 0 td m1 f k x (by omega) (by omega) (by omega)) (cwV 3 hts gX3_tip_X3_lean rfl rfl rfl hdv_X3_lean ⟨(Nat.le_of_ble_eq_true rfl), (Nat.le_of_ble_eq_true rfl)⟩) hK hP hD hS hA [0, 1] rfl rfl rfl rfl rfl hl.1 rfl (Nat.le_of_ble_eq_true rfl) dX3_tip_43 ⟨(Nat.le_of_ble_eq_true rfl), (Nat.le_of_ble_eq_true rfl)⟩ (fun r9 w9 H locs hw hP hD hS => ?_)
  obtain ⟨rfl, rfl⟩ := hw
  have hP : xP γ ([xO m0 3 [.int 0, .int (nI n), .int (nI kc), .int td, .ref m1, .ref m2, .ref m3, .ref m4], xA γ m1 12 (xTip n f k x)]) H := hP
  have hD : va_D A ([xO m0 3 [.int 0, .int (nI n), .int (nI kc), .int td, .ref m1, .ref m2, .ref m3, .ref m4], xA γ m1 12 (xTip n f k x)]) := hD
  refine W.eq (g2 := F0 m 46 ls []) rfl ?_
  refine lv_aload_n hx hb dX3_tip_46 rfl (lv_at hl 0 rfl) ?_
  refine lv_dup hx hb dX3_tip_47 rfl ?_
  refine va_get (D := γ.1) (ci := 3) (v := .int td) (C := RX3) (T := TX3) (N := 8) hx hb hts iwX3_tip_3 hown hK hP 0 rfl rfl 3 (by decide) (hts _ flX3_tip_74) (fun _ h9 => h9) rfl dX3_tip_48 ?_
  refine lv_iload_n hx hb dX3_tip_51 rfl (lv_at hl 2 rfl) ?_
  refine va_mabs hx hb (hml.trans hl.1.symm) hown (hts _ wdX3_tip_m77a) (hts _ wdX3_tip_m77b) (hts _ wdX3_tip_m77c) (hts _ wdX3_tip_m77d) (Nat.le_of_ble_eq_true rfl) (Nat.le_of_ble_eq_true rfl) (Nat.le_of_ble_eq_true rfl) (Nat.le_of_ble_eq_true rfl) dX3_tip_52 ?_
  refine lv_iadd hx hb dX3_tip_55 ?_
  refine va_put (D := γ.1) (ci := 3) (v := .int (td + (if 0 ≤ x then x else 0 - x))) (ty := .int) (C := RX3) (T := TX3) (N := 8) hx hb hts iwX3_tip_3 tyX3 tyX3_ok nmX3 hown hK hP hD hS 0 rfl rfl 3 (by decide) (hts _ flX3_tip_74) (fun _ h9 => h9) rfl (by decide +kernel) rfl rfl (Nat.le_of_ble_eq_true rfl) dX3_tip_56 (fun H locs hP hD hS => ?_)
  have hP : xP γ ([xO m0 3 [.int 0, .int (nI n), .int (nI kc), .int (td + (if 0 ≤ x then x else 0 - x)), .ref m1, .ref m2, .ref m3, .ref m4], xA γ m1 12 (xTip n f k x)]) H := hP
  have hD : va_D A ([xO m0 3 [.int 0, .int (nI n), .int (nI kc), .int (td + (if 0 ≤ x then x else 0 - x)), .ref m1, .ref m2, .ref m3, .ref m4], xA γ m1 12 (xTip n f k x)]) := hD
  refine lv_aload_n hx hb dX3_tip_59 rfl (lv_at hl 0 rfl) ?_
  refine va_get (D := γ.1) (ci := 3) (v := .ref m1) (C := RX3) (T := TX3) (N := 8) hx hb hts iwX3_tip_3 hown hK hP 0 rfl rfl 4 (by decide) (hts _ flX3_tip_13) (fun _ h9 => h9) rfl dX3_tip_60 ?_
  refine lv_iload_n hx hb dX3_tip_63 rfl (lv_at hl 1 rfl) ?_
  refine x_iald (f := xTip n f k x) hx hb hK hP 1 rfl k rfl (by omega) (by omega) dX3_tip_64 ?_
  subst hQ
  exact xM_i hx hb hr hlocks dX3_tip_65 hP rfl hS (Nat.le_of_ble_eq_true rfl) (Nat.le_of_ble_eq_true rfl) (⟨rfl, rfl⟩)

set_option maxHeartbeats 4000000 in
set_option maxRecDepth 100000 in
theorem c_X3_tip_x1 (γ : xG) (l : Launch) (m0 m1 m2 m3 m4 n kc : Nat) (th td : Int32) (x y : Int32) (hxb : xInB x 0 (nI n - 1) = false)  : xM γ l yX3_tip wsX3_tip ({ frames := 2, cells := 0, slots := 0, locals := 43 } : Room) [.ref m0, .int x, .int y] ([xO m0 3 [.int th, .int (nI n), .int (nI kc), .int td, .ref m1, .ref m2, .ref m3, .ref m4]]) (fun r9 w9 => r9 = some (.int 0) ∧ w9 = [xO m0 3 [.int 1, .int (nI n), .int (nI kc), .int td, .ref m1, .ref m2, .ref m3, .ref m4]]) 0 0 := by
  refine xM.of (cc := cX3_tip) (maxL := 3) (ret := (some .int)) (by decide +kernel) rfl (Nat.le_of_ble_eq_true rfl) ?_
  intro p e s m below meth c hx hb hr hml hts hown hlocks hin hP hK A hA hD ls hl
  have hS : va_S A s.heap s.heap [] := va_S.rf
  generalize hargs : ([.ref m0, .int x, .int y] : List Value).toArray = args at hts ⊢
  obtain ⟨Q, hQ⟩ : ∃ Q9, Q9 = MQ below (xMQ γ (List.map Prod.fst ([xO m0 3 [.int th, .int (nI n), .int (nI kc), .int td, .ref m1, .ref m2, .ref m3, .ref m4]])) A (fun r9 w9 => r9 = some (.int 0) ∧ w9 = [xO m0 3 [.int 1, .int (nI n), .int (nI kc), .int td, .ref m1, .ref m2, .ref m3, .ref m4]])) args s 0 0 A := ⟨_, rfl⟩
  rw [← hQ]
  have hown : s.vm.findClass RX3 = some m.cls := hown
  have hl : lv_has ls 3 [(0, .ref m0), (1, .int x), (2, .int y)] := hl
  refine lv_aload_n hx hb dX3_tip_0 rfl (lv_at hl 0 rfl) ?_
  refine lv_iconst (v := 0) hx hb dX3_tip_1 (by decide) ?_
  refine va_put (D := γ.1) (ci := 3) (v := .int 0) (ty := .int) (C := RX3) (T := TX3) (N := 8) hx hb hts iwX3_tip_3 tyX3 tyX3_ok nmX3 hown hK hP hD hS 0 rfl rfl 0 (by decide) (hts _ flX3_tip_26) (fun _ h9 => h9) rfl (by decide +kernel) rfl rfl (Nat.le_of_ble_eq_true rfl) dX3_tip_2 (fun H locs hP hD hS => ?_)
  have hP : xP γ ([xO m0 3 [.int 0, .int (nI n), .int (nI kc), .int td, .ref m1, .ref m2, .ref m3, .ref m4]]) H := hP
  have hD : va_D A ([xO m0 3 [.int 0, .int (nI n), .int (nI kc), .int td, .ref m1, .ref m2, .ref m3, .ref m4]]) := hD
  refine lv_aload_n hx hb dX3_tip_5 rfl (lv_at hl 0 rfl) ?_
  refine lv_iload_n hx hb dX3_tip_6 rfl (lv_at hl 1 rfl) ?_
  refine xVR (q0 := 0) (ci := 3) (As := [.int x]) (rest := []) (stk := [.int (if xInB x 0 (nI n - 1) = true then 1 else 0)]) ⟨hx, hb, hml, hown, hts⟩ (c_X3_isPlace γ l m0 m1 m2 m3 m4 n kc 0 td x) (cwV 1 hts gX3_tip_X3_isPlace rfl rfl rfl hdv_X3_isPlace ⟨(Nat.le_of_ble_eq_true rfl), (Nat.le_of_ble_eq_true rfl)⟩) hK hP [0] rfl rfl rfl rfl hl.1 rfl (Nat.le_of_ble_eq_true rfl) dX3_tip_7 ⟨(Nat.le_of_ble_eq_true rfl), (Nat.le_of_ble_eq_true rfl)⟩ rfl ?_
  refine lv_if_ne (tgt := 19) hx hb dX3_tip_10 (by decide) (fun c => absurd (xB_eq hxb) c) (fun _ => ?_)
  refine lv_aload_n hx hb dX3_tip_13 rfl (lv_at hl 0 rfl) ?_
  refine lv_iconst (v := 1) hx hb dX3_tip_14 (by decide) ?_
  refine xVM (q0 := 0) (ci := 3) (As := [.int 1]) (rest := []) ⟨hx, hb, hml, hown, hts⟩ (c_X3_no γ l m0 m1 m2 m3 m4 n kc 0 td 1) (cwV 1 hts gX3_tip_X3_no rfl rfl rfl hdv_X3_no ⟨(Nat.le_of_ble_eq_true rfl), (Nat.le_of_ble_eq_true rfl)⟩) hK hP hD hS hA [0] rfl rfl rfl rfl rfl hl.1 rfl (Nat.le_of_ble_eq_true rfl) dX3_tip_15 ⟨(Nat.le_of_ble_eq_true rfl), (Nat.le_of_ble_eq_true rfl)⟩ (fun r9 w9 H locs hw hP hD hS => ?_)
  obtain ⟨rfl, rfl⟩ := hw
  have hP : xP γ ([xO m0 3 [.int 1, .int (nI n), .int (nI kc), .int td, .ref m1, .ref m2, .ref m3, .ref m4]]) H := hP
  have hD : va_D A ([xO m0 3 [.int 1, .int (nI n), .int (nI kc), .int td, .ref m1, .ref m2, .ref m3, .ref m4]]) := hD
  refine W.eq (g2 := F0 m 18 ls [.int 0]) rfl ?_
  subst hQ
  exact xM_i hx hb hr hlocks dX3_tip_18 hP rfl hS (Nat.le_of_ble_eq_true rfl) (Nat.le_of_ble_eq_true rfl) (⟨rfl, rfl⟩)

set_option maxHeartbeats 4000000 in
set_option maxRecDepth 100000 in
theorem c_X3_tip_x2 (γ : xG) (l : Launch) (m0 m1 m2 m3 m4 n kc : Nat) (th td : Int32) (k : Nat) (x : Int32) (hn0 : 3 ≤ n) (hn1 : n ≤ 12) (hk : k < n) (hxb : xInB x (-50) 50 = false)  : xM γ l yX3_tip wsX3_tip ({ frames := 2, cells := 0, slots := 0, locals := 43 } : Room) [.ref m0, .int (nI k), .int x] ([xO m0 3 [.int th, .int (nI n), .int (nI kc), .int td, .ref m1, .ref m2, .ref m3, .ref m4]]) (fun r9 w9 => r9 = some (.int 0) ∧ w9 = [xO m0 3 [.int 2, .int (nI n), .int (nI kc), .int td, .ref m1, .ref m2, .ref m3, .ref m4]]) 0 0 := by
  refine xM.of (cc := cX3_tip) (maxL := 3) (ret := (some .int)) (by decide +kernel) rfl (Nat.le_of_ble_eq_true rfl) ?_
  intro p e s m below meth c hx hb hr hml hts hown hlocks hin hP hK A hA hD ls hl
  have hS : va_S A s.heap s.heap [] := va_S.rf
  generalize hargs : ([.ref m0, .int (nI k), .int x] : List Value).toArray = args at hts ⊢
  obtain ⟨Q, hQ⟩ : ∃ Q9, Q9 = MQ below (xMQ γ (List.map Prod.fst ([xO m0 3 [.int th, .int (nI n), .int (nI kc), .int td, .ref m1, .ref m2, .ref m3, .ref m4]])) A (fun r9 w9 => r9 = some (.int 0) ∧ w9 = [xO m0 3 [.int 2, .int (nI n), .int (nI kc), .int td, .ref m1, .ref m2, .ref m3, .ref m4]])) args s 0 0 A := ⟨_, rfl⟩
  rw [← hQ]
  have hown : s.vm.findClass RX3 = some m.cls := hown
  have hl : lv_has ls 3 [(0, .ref m0), (1, .int (nI k)), (2, .int x)] := hl
  refine lv_aload_n hx hb dX3_tip_0 rfl (lv_at hl 0 rfl) ?_
  refine lv_iconst (v := 0) hx hb dX3_tip_1 (by decide) ?_
  refine va_put (D := γ.1) (ci := 3) (v := .int 0) (ty := .int) (C := RX3) (T := TX3) (N := 8) hx hb hts iwX3_tip_3 tyX3 tyX3_ok nmX3 hown hK hP hD hS 0 rfl rfl 0 (by decide) (hts _ flX3_tip_26) (fun _ h9 => h9) rfl (by decide +kernel) rfl rfl (Nat.le_of_ble_eq_true rfl) dX3_tip_2 (fun H locs hP hD hS => ?_)
  have hP : xP γ ([xO m0 3 [.int 0, .int (nI n), .int (nI kc), .int td, .ref m1, .ref m2, .ref m3, .ref m4]]) H := hP
  have hD : va_D A ([xO m0 3 [.int 0, .int (nI n), .int (nI kc), .int td, .ref m1, .ref m2, .ref m3, .ref m4]]) := hD
  refine lv_aload_n hx hb dX3_tip_5 rfl (lv_at hl 0 rfl) ?_
  refine lv_iload_n hx hb dX3_tip_6 rfl (lv_at hl 1 rfl) ?_
  refine xVR (q0 := 0) (ci := 3) (As := [.int (nI k)]) (rest := []) (stk := [.int (if xInB (nI k) 0 (nI n - 1) = true then 1 else 0)]) ⟨hx, hb, hml, hown, hts⟩ (c_X3_isPlace γ l m0 m1 m2 m3 m4 n kc 0 td (nI k)) (cwV 1 hts gX3_tip_X3_isPlace rfl rfl rfl hdv_X3_isPlace ⟨(Nat.le_of_ble_eq_true rfl), (Nat.le_of_ble_eq_true rfl)⟩) hK hP [0] rfl rfl rfl rfl hl.1 rfl (Nat.le_of_ble_eq_true rfl) dX3_tip_7 ⟨(Nat.le_of_ble_eq_true rfl), (Nat.le_of_ble_eq_true rfl)⟩ rfl ?_
  refine lv_if_ne (tgt := 19) hx hb dX3_tip_10 (by decide) (fun _ => ?_) (fun c => absurd c (xB_ne (xIn_pl hk hn1)))
  refine lv_iload_n hx hb dX3_tip_19 rfl (lv_at hl 2 rfl) ?_
  refine lv_bipush (v := (-50)) hx hb dX3_tip_20 (by decide) ?_
  refine lv_bipush (v := 50) hx hb dX3_tip_22 (by decide) ?_
  refine xSR (As := [.int x, .int (-50), .int 50]) (rest := []) (stk := [.int (if xInB x (-50) 50 = true then 1 else 0)]) ⟨hx, hb, hml, hown, hts⟩ (c_X3_isIn γ l x (-50) 50) (va_cwS 3 hts gX3_tip_X3_isIn rfl rfl rfl hds_X3_isIn ⟨(Nat.le_of_ble_eq_true rfl), (Nat.le_of_ble_eq_true rfl)⟩) hK hP [] rfl rfl hl.1 rfl (Nat.le_of_ble_eq_true rfl) dX3_tip_24 ⟨(Nat.le_of_ble_eq_true rfl), (Nat.le_of_ble_eq_true rfl)⟩ rfl ?_
  refine lv_if_ne (tgt := 36) hx hb dX3_tip_27 (by decide) (fun c => absurd (xB_eq hxb) c) (fun _ => ?_)
  refine lv_aload_n hx hb dX3_tip_30 rfl (lv_at hl 0 rfl) ?_
  refine lv_iconst (v := 2) hx hb dX3_tip_31 (by decide) ?_
  refine xVM (q0 := 0) (ci := 3) (As := [.int 2]) (rest := []) ⟨hx, hb, hml, hown, hts⟩ (c_X3_no γ l m0 m1 m2 m3 m4 n kc 0 td 2) (cwV 1 hts gX3_tip_X3_no rfl rfl rfl hdv_X3_no ⟨(Nat.le_of_ble_eq_true rfl), (Nat.le_of_ble_eq_true rfl)⟩) hK hP hD hS hA [0] rfl rfl rfl rfl rfl hl.1 rfl (Nat.le_of_ble_eq_true rfl) dX3_tip_32 ⟨(Nat.le_of_ble_eq_true rfl), (Nat.le_of_ble_eq_true rfl)⟩ (fun r9 w9 H locs hw hP hD hS => ?_)
  obtain ⟨rfl, rfl⟩ := hw
  have hP : xP γ ([xO m0 3 [.int 2, .int (nI n), .int (nI kc), .int td, .ref m1, .ref m2, .ref m3, .ref m4]]) H := hP
  have hD : va_D A ([xO m0 3 [.int 2, .int (nI n), .int (nI kc), .int td, .ref m1, .ref m2, .ref m3, .ref m4]]) := hD
  refine W.eq (g2 := F0 m 35 ls [.int 0]) rfl ?_
  subst hQ
  exact xM_i hx hb hr hlocks dX3_tip_35 hP rfl hS (Nat.le_of_ble_eq_true rfl) (Nat.le_of_ble_eq_true rfl) (⟨rfl, rfl⟩)

theorem flX3_turn_13 : Cond.fieldLink RX3 13 "RingSeesawModel" "x" "[I" ∈ wsX3_turn := by decide +kernel
theorem iwX3_turn_3 : ∀ w ∈ wsX30, w ∈ wsX3_turn := by decide +kernel
theorem flX3_turn_7 : Cond.fieldLink RX3 7 "RingSeesawModel" "n" "I" ∈ wsX3_turn := by decide +kernel
set_option maxHeartbeats 4000000 in
set_option maxRecDepth 100000 in
theorem c_X3_turn (γ : xG) (l : Launch) (m0 m1 m2 m3 m4 n kc : Nat) (th td : Int32) (f : xRow) (hn0 : 3 ≤ n) (hn1 : n ≤ 12) : xM γ l yX3_turn wsX3_turn ({ frames := 1, cells := 0, slots := 0, locals := 21 } : Room) [.ref m0] ([xO m0 3 [.int th, .int (nI n), .int (nI kc), .int td, .ref m1, .ref m2, .ref m3, .ref m4], xA γ m1 12 f]) (fun r9 w9 => r9 = some (.int (f (n - 1))) ∧ w9 = [xO m0 3 [.int 0, .int (nI n), .int (nI kc), .int td, .ref m1, .ref m2, .ref m3, .ref m4], xA γ m1 12 (xRot n f)]) 0 0 := by
  refine xM.of (cc := cX3_turn) (maxL := 3) (ret := (some .int)) (by decide +kernel) rfl (Nat.le_of_ble_eq_true rfl) ?_
  intro p e s m below meth c hx hb hr hml hts hown hlocks hin hP hK A hA hD ls hl
  have hS : va_S A s.heap s.heap [] := va_S.rf
  generalize hargs : ([.ref m0] : List Value).toArray = args at hts ⊢
  obtain ⟨Q, hQ⟩ : ∃ Q9, Q9 = MQ below (xMQ γ (List.map Prod.fst ([xO m0 3 [.int th, .int (nI n), .int (nI kc), .int td, .ref m1, .ref m2, .ref m3, .ref m4], xA γ m1 12 f])) A (fun r9 w9 => r9 = some (.int (f (n - 1))) ∧ w9 = [xO m0 3 [.int 0, .int (nI n), .int (nI kc), .int td, .ref m1, .ref m2, .ref m3, .ref m4], xA γ m1 12 (xRot n f)])) args s 0 0 A := ⟨_, rfl⟩
  rw [← hQ]
  have hown : s.vm.findClass RX3 = some m.cls := hown
  have hl : lv_has ls 3 [(0, .ref m0)] := hl
  refine lv_aload_n hx hb dX3_turn_0 rfl (lv_at hl 0 rfl) ?_
  refine va_get (D := γ.1) (ci := 3) (v := .ref m1) (C := RX3) (T := TX3) (N := 8) hx hb hts iwX3_turn_3 hown hK hP 0 rfl rfl 4 (by decide) (hts _ flX3_turn_13) (fun _ h9 => h9) rfl dX3_turn_1 ?_
  refine lv_aload_n hx hb dX3_turn_4 rfl (lv_at hl 0 rfl) ?_
  refine va_get (D := γ.1) (ci := 3) (v := .int (nI n)) (C := RX3) (T := TX3) (N := 8) hx hb hts iwX3_turn_3 hown hK hP 0 rfl rfl 1 (by decide) (hts _ flX3_turn_7) (fun _ h9 => h9) rfl dX3_turn_5 ?_
  refine lv_iconst (v := 1) hx hb dX3_turn_8 (by decide) ?_
  refine lv_isub hx hb dX3_turn_9 ?_
  refine x_top (y := nI (n - 1)) (pk_sub (a := n) (b := 1) (by omega)) ?_
  refine x_iald (f := f) hx hb hK hP 1 rfl (n - 1) rfl (by omega) (by omega) dX3_turn_10 ?_
  refine lv_istore_n (lv' := [(1, .int (f (n - 1))), (0, .ref m0)]) hx hb dX3_turn_11 rfl hl (by decide) rfl (fun ls hl => ?_)
  refine lv_aload_n hx hb dX3_turn_12 rfl (lv_at hl 1 rfl) ?_
  refine va_get (D := γ.1) (ci := 3) (v := .int (nI n)) (C := RX3) (T := TX3) (N := 8) hx hb hts iwX3_turn_3 hown hK hP 0 rfl rfl 1 (by decide) (hts _ flX3_turn_7) (fun _ h9 => h9) rfl dX3_turn_13 ?_
  refine lv_iconst (v := 1) hx hb dX3_turn_16 (by decide) ?_
  refine lv_isub hx hb dX3_turn_17 ?_
  refine x_top (y := nI (n - 1)) (pk_sub (a := n) (b := 1) (by omega)) ?_
  refine lv_istore_n (lv' := [(2, .int (nI (n - 1))), (1, .int (f (n - 1))), (0, .ref m0)]) hx hb dX3_turn_18 rfl hl (by decide) rfl (fun ls hl => ?_)
  have hP : xP γ [xO m0 3 [.int th, .int (nI n), .int (nI kc), .int td, .ref m1, .ref m2, .ref m3, .ref m4], xA γ m1 12 (xRt n f (n - 1))] s.heap := by simpa only [xRt_0] using hP
  have hD : va_D A [xO m0 3 [.int th, .int (nI n), .int (nI kc), .int td, .ref m1, .ref m2, .ref m3, .ref m4], xA γ m1 12 (xRt n f (n - 1))] := by simpa only [xRt_0] using hD
  have loop19 : ∀ j : Nat, (j < n) → ∀ (H : Heap) (locs : List Loc), xP γ ([xO m0 3 [.int th, .int (nI n), .int (nI kc), .int td, .ref m1, .ref m2, .ref m3, .ref m4], xA γ m1 12 (xRt n f j)]) H → va_D A ([xO m0 3 [.int th, .int (nI n), .int (nI kc), .int td, .ref m1, .ref m2, .ref m3, .ref m4], xA γ m1 12 (xRt n f j)]) → va_S A s.heap H locs → ∀ ls : Array Slot, lv_has ls 3 [(0, .ref m0), (1, .int (f (n - 1))), (2, .int (nI j))] → W p l e ({ frames := 1, cells := 0, slots := 0, locals := 21 } : Room) s m args below meth c H locs 0 0 Q (F0 m 19 ls []) := by
    intro j
    induction j with
    | zero =>
      intro hj H locs hP hD hS ls hl
      refine lv_iload_n hx hb dX3_turn_19 rfl (lv_at hl 2 rfl) ?_
      refine lv_if_le (tgt := 43) hx hb dX3_turn_20 (by decide) (fun _ => ?_) (fun c => absurd (nI_le (a := 0) (b := 0) (by omega) (by omega)) c)
      refine lv_aload_n hx hb dX3_turn_43 rfl (lv_at hl 0 rfl) ?_
      refine va_get (D := γ.1) (ci := 3) (v := .ref m1) (C := RX3) (T := TX3) (N := 8) hx hb hts iwX3_turn_3 hown hK hP 0 rfl rfl 4 (by decide) (hts _ flX3_turn_13) (fun _ h9 => h9) rfl dX3_turn_44 ?_
      refine lv_iconst (v := 0) hx hb dX3_turn_47 (by decide) ?_
      refine lv_iload_n hx hb dX3_turn_48 rfl (lv_at hl 1 rfl) ?_
      refine x_iast (f := xRt n f 0) hx hb hK hP hD hS 1 rfl 0 rfl (by omega) (by omega) dX3_turn_49 (fun H locs hP hD hS => ?_)
      rw [xRt_e (by omega)] at hP hD
      have hP : xP γ ([xO m0 3 [.int th, .int (nI n), .int (nI kc), .int td, .ref m1, .ref m2, .ref m3, .ref m4], xA γ m1 12 (xRot n f)]) H := hP
      have hD : va_D A ([xO m0 3 [.int th, .int (nI n), .int (nI kc), .int td, .ref m1, .ref m2, .ref m3, .ref m4], xA γ m1 12 (xRot n f)]) := hD
      refine lv_aload_n hx hb dX3_turn_50 rfl (lv_at hl 0 rfl) ?_
      refine lv_iload_n hx hb dX3_turn_51 rfl (lv_at hl 1 rfl) ?_
      refine xVM (q0 := 0) (ci := 3) (As := [.int (f (n - 1))]) (rest := []) ⟨hx, hb, hml, hown, hts⟩ (c_X3_ok γ l m0 m1 m2 m3 m4 n kc th td (f (n - 1))) (cwV 1 hts gX3_turn_X3_ok rfl rfl rfl hdv_X3_ok ⟨(Nat.le_of_ble_eq_true rfl), (Nat.le_of_ble_eq_true rfl)⟩) hK hP hD hS hA [0] rfl rfl rfl rfl rfl hl.1 rfl (Nat.le_of_ble_eq_true rfl) dX3_turn_52 ⟨(Nat.le_of_ble_eq_true rfl), (Nat.le_of_ble_eq_true rfl)⟩ (fun r9 w9 H locs hw hP hD hS => ?_)
      obtain ⟨rfl, rfl⟩ := hw
      have hP : xP γ ([xO m0 3 [.int 0, .int (nI n), .int (nI kc), .int td, .ref m1, .ref m2, .ref m3, .ref m4], xA γ m1 12 (xRot n f)]) H := hP
      have hD : va_D A ([xO m0 3 [.int 0, .int (nI n), .int (nI kc), .int td, .ref m1, .ref m2, .ref m3, .ref m4], xA γ m1 12 (xRot n f)]) := hD
      refine W.eq (g2 := F0 m 55 ls [.int (f (n - 1))]) rfl ?_
      subst hQ
      exact xM_i hx hb hr hlocks dX3_turn_55 hP rfl hS (Nat.le_of_ble_eq_true rfl) (Nat.le_of_ble_eq_true rfl) (⟨rfl, rfl⟩)
    | succ j ih19 =>
      intro hj H locs hP hD hS ls hl
      refine lv_iload_n hx hb dX3_turn_19 rfl (lv_at hl 2 rfl) ?_
      refine lv_if_le (tgt := 43) hx hb dX3_turn_20 (by decide) (fun c => absurd c (nI_nle (n := j + 1) (by omega) (by omega))) (fun _ => ?_)
      refine lv_aload_n hx hb dX3_turn_23 rfl (lv_at hl 0 rfl) ?_
      refine va_get (D := γ.1) (ci := 3) (v := .ref m1) (C := RX3) (T := TX3) (N := 8) hx hb hts iwX3_turn_3 hown hK hP 0 rfl rfl 4 (by decide) (hts _ flX3_turn_13) (fun _ h9 => h9) rfl dX3_turn_24 ?_
      refine lv_iload_n hx hb dX3_turn_27 rfl (lv_at hl 2 rfl) ?_
      refine lv_aload_n hx hb dX3_turn_28 rfl (lv_at hl 0 rfl) ?_
      refine va_get (D := γ.1) (ci := 3) (v := .ref m1) (C := RX3) (T := TX3) (N := 8) hx hb hts iwX3_turn_3 hown hK hP 0 rfl rfl 4 (by decide) (hts _ flX3_turn_13) (fun _ h9 => h9) rfl dX3_turn_29 ?_
      refine lv_iload_n hx hb dX3_turn_32 rfl (lv_at hl 2 rfl) ?_
      refine lv_iconst (v := 1) hx hb dX3_turn_33 (by decide) ?_
      refine lv_isub hx hb dX3_turn_34 ?_
      refine x_top (y := nI j) (nI_pred j) ?_
      refine x_iald (f := xRt n f (j + 1)) hx hb hK hP 1 rfl j rfl (by omega) (by omega) dX3_turn_35 ?_
      refine x_iast (f := xRt n f (j + 1)) hx hb hK hP hD hS 1 rfl (j + 1) rfl (by omega) (by omega) dX3_turn_36 (fun H locs hP hD hS => ?_)
      rw [xRt_s f (k := j) (by omega)] at hP hD
      have hP : xP γ ([xO m0 3 [.int th, .int (nI n), .int (nI kc), .int td, .ref m1, .ref m2, .ref m3, .ref m4], xA γ m1 12 (xRt n f j)]) H := hP
      have hD : va_D A ([xO m0 3 [.int th, .int (nI n), .int (nI kc), .int td, .ref m1, .ref m2, .ref m3, .ref m4], xA γ m1 12 (xRt n f j)]) := hD
      refine lv_iinc (v := nI j) (lv' := [(2, .int (nI j)), (0, .ref m0), (1, .int (f (n - 1)))]) hx hb dX3_turn_37 hl (k := 2) rfl (pk_m1 j) (by decide) rfl (fun ls hl => ?_)
      refine lv_goto (tgt := 19) hx hb dX3_turn_40 (by decide) ?_
      exact ih19 (by omega) _ _ hP hD hS ls (lv_sub hl [1, 2, 0] rfl)
  exact loop19 (n - 1) (by omega) _ _ hP hD hS ls (lv_sub hl [2, 1, 0] rfl)

theorem flX3_keep_26 : Cond.fieldLink RX3 26 "RingSeesawModel" "thrown" "I" ∈ wsX3_keep := by decide +kernel
theorem iwX3_keep_3 : ∀ w ∈ wsX30, w ∈ wsX3_keep := by decide +kernel
theorem flX3_keep_33 : Cond.fieldLink RX3 33 "RingSeesawModel" "targets" "I" ∈ wsX3_keep := by decide +kernel
theorem flX3_keep_13 : Cond.fieldLink RX3 13 "RingSeesawModel" "x" "[I" ∈ wsX3_keep := by decide +kernel
theorem flX3_keep_20 : Cond.fieldLink RX3 20 "RingSeesawModel" "target" "[I" ∈ wsX3_keep := by decide +kernel
theorem wdX3_keep_ac1 : Cond.methodLink RX3 40 arraycopyName ∈ wsX3_keep := by decide +kernel
theorem wdX3_keep_ac2 : Cond.native arraycopyName ∈ wsX3_keep := by decide +kernel
theorem wdX3_keep_ac3 : Cond.static arraycopyName ∈ wsX3_keep := by decide +kernel
theorem wdX3_keep_ac4 : Cond.initialized "java/lang/System" ∈ wsX3_keep := by decide +kernel
set_option maxHeartbeats 4000000 in
set_option maxRecDepth 100000 in
theorem c_X3_keep (γ : xG) (l : Launch) (m0 m1 m2 m3 m4 n kc : Nat) (th td : Int32) (f tg : xRow) (hk : kc < 6) : xM γ l yX3_keep wsX3_keep ({ frames := 1, cells := 0, slots := 0, locals := 60 } : Room) [.ref m0] ([xO m0 3 [.int th, .int (nI n), .int (nI kc), .int td, .ref m1, .ref m2, .ref m3, .ref m4], xA γ m1 12 f, xA γ m3 72 tg]) (fun r9 w9 => r9 = some (.int (nI kc)) ∧ w9 = [xO m0 3 [.int 0, .int (nI n), .int (nI (kc + 1)), .int td, .ref m1, .ref m2, .ref m3, .ref m4], xA γ m1 12 f, xA γ m3 72 (xKeep tg kc f)]) 0 0 := by
  refine xM.of (cc := cX3_keep) (maxL := 1) (ret := (some .int)) (by decide +kernel) rfl (Nat.le_of_ble_eq_true rfl) ?_
  intro p e s m below meth c hx hb hr hml hts hown hlocks hin hP hK A hA hD ls hl
  have hS : va_S A s.heap s.heap [] := va_S.rf
  generalize hargs : ([.ref m0] : List Value).toArray = args at hts ⊢
  obtain ⟨Q, hQ⟩ : ∃ Q9, Q9 = MQ below (xMQ γ (List.map Prod.fst ([xO m0 3 [.int th, .int (nI n), .int (nI kc), .int td, .ref m1, .ref m2, .ref m3, .ref m4], xA γ m1 12 f, xA γ m3 72 tg])) A (fun r9 w9 => r9 = some (.int (nI kc)) ∧ w9 = [xO m0 3 [.int 0, .int (nI n), .int (nI (kc + 1)), .int td, .ref m1, .ref m2, .ref m3, .ref m4], xA γ m1 12 f, xA γ m3 72 (xKeep tg kc f)])) args s 0 0 A := ⟨_, rfl⟩
  rw [← hQ]
  have hown : s.vm.findClass RX3 = some m.cls := hown
  have hl : lv_has ls 1 [(0, .ref m0)] := hl
  refine lv_aload_n hx hb dX3_keep_0 rfl (lv_at hl 0 rfl) ?_
  refine lv_iconst (v := 0) hx hb dX3_keep_1 (by decide) ?_
  refine va_put (D := γ.1) (ci := 3) (v := .int 0) (ty := .int) (C := RX3) (T := TX3) (N := 8) hx hb hts iwX3_keep_3 tyX3 tyX3_ok nmX3 hown hK hP hD hS 0 rfl rfl 0 (by decide) (hts _ flX3_keep_26) (fun _ h9 => h9) rfl (by decide +kernel) rfl rfl (Nat.le_of_ble_eq_true rfl) dX3_keep_2 (fun H locs hP hD hS => ?_)
  have hP : xP γ ([xO m0 3 [.int 0, .int (nI n), .int (nI kc), .int td, .ref m1, .ref m2, .ref m3, .ref m4], xA γ m1 12 f, xA γ m3 72 tg]) H := hP
  have hD : va_D A ([xO m0 3 [.int 0, .int (nI n), .int (nI kc), .int td, .ref m1, .ref m2, .ref m3, .ref m4], xA γ m1 12 f, xA γ m3 72 tg]) := hD
  refine lv_aload_n hx hb dX3_keep_5 rfl (lv_at hl 0 rfl) ?_
  refine va_get (D := γ.1) (ci := 3) (v := .int (nI kc)) (C := RX3) (T := TX3) (N := 8) hx hb hts iwX3_keep_3 hown hK hP 0 rfl rfl 2 (by decide) (hts _ flX3_keep_33) (fun _ h9 => h9) rfl dX3_keep_6 ?_
  refine lv_bipush (v := 6) hx hb dX3_keep_9 (by decide) ?_
  refine lv_icmp_ne (tgt := 20) hx hb dX3_keep_11 (by decide) (fun _ => ?_) (fun c => absurd c (fun h => absurd ((nI_eq (a := kc) (b := 6) (by omega) (by omega)).mp h) (by omega)))
  refine lv_aload_n hx hb dX3_keep_20 rfl (lv_at hl 0 rfl) ?_
  refine va_get (D := γ.1) (ci := 3) (v := .ref m1) (C := RX3) (T := TX3) (N := 8) hx hb hts iwX3_keep_3 hown hK hP 0 rfl rfl 4 (by decide) (hts _ flX3_keep_13) (fun _ h9 => h9) rfl dX3_keep_21 ?_
  refine lv_iconst (v := 0) hx hb dX3_keep_24 (by decide) ?_
  refine lv_aload_n hx hb dX3_keep_25 rfl (lv_at hl 0 rfl) ?_
  refine va_get (D := γ.1) (ci := 3) (v := .ref m3) (C := RX3) (T := TX3) (N := 8) hx hb hts iwX3_keep_3 hown hK hP 0 rfl rfl 6 (by decide) (hts _ flX3_keep_20) (fun _ h9 => h9) rfl dX3_keep_26 ?_
  refine lv_bipush (v := 12) hx hb dX3_keep_29 (by decide) ?_
  refine lv_aload_n hx hb dX3_keep_31 rfl (lv_at hl 0 rfl) ?_
  refine va_get (D := γ.1) (ci := 3) (v := .int (nI kc)) (C := RX3) (T := TX3) (N := 8) hx hb hts iwX3_keep_3 hown hK hP 0 rfl rfl 2 (by decide) (hts _ flX3_keep_33) (fun _ h9 => h9) rfl dX3_keep_32 ?_
  refine lv_imul hx hb dX3_keep_35 ?_
  refine x_top (y := nI (12 * kc)) (pk_mul 12 kc) ?_
  refine lv_bipush (v := 12) hx hb dX3_keep_36 (by decide) ?_
  refine va_copyi hx hb (hml.trans hl.1.symm) hown (hts _ wdX3_keep_ac1) (hts _ wdX3_keep_ac2) (hts _ wdX3_keep_ac3) (hts _ wdX3_keep_ac4) hK hP hD hS 1 2 0 0 (n0 := 12) (n1 := 72) (f := f) (g := tg) rfl rfl rfl rfl rfl (by decide) (nI_pos (by omega)) (by decide) (by decide) (xKeep_c5 hk) (fun _ _ => rfl) (Nat.le_of_ble_eq_true rfl) (Nat.le_of_ble_eq_true rfl) dX3_keep_38 (fun H locs hP hD hS => ?_)
  have hP := xP_row hP 2 rfl (xKeep tg kc f) (fun i _ => xKeep_cpy hk i)
  have hD : va_D A ([xO m0 3 [.int 0, .int (nI n), .int (nI kc), .int td, .ref m1, .ref m2, .ref m3, .ref m4], xA γ m1 12 f, xA γ m3 72 (xKeep tg kc f)]) := xD_row hD 2 rfl
  have hP : xP γ ([xO m0 3 [.int 0, .int (nI n), .int (nI kc), .int td, .ref m1, .ref m2, .ref m3, .ref m4], xA γ m1 12 f, xA γ m3 72 (xKeep tg kc f)]) H := hP
  refine lv_aload_n hx hb dX3_keep_41 rfl (lv_at hl 0 rfl) ?_
  refine lv_dup hx hb dX3_keep_42 rfl ?_
  refine va_get (D := γ.1) (ci := 3) (v := .int (nI kc)) (C := RX3) (T := TX3) (N := 8) hx hb hts iwX3_keep_3 hown hK hP 0 rfl rfl 2 (by decide) (hts _ flX3_keep_33) (fun _ h9 => h9) rfl dX3_keep_43 ?_
  refine lv_iconst (v := 1) hx hb dX3_keep_46 (by decide) ?_
  refine lv_iadd hx hb dX3_keep_47 ?_
  refine x_top (y := nI (kc + 1)) (nI_1 _) ?_
  refine va_put (D := γ.1) (ci := 3) (v := .int (nI (kc + 1))) (ty := .int) (C := RX3) (T := TX3) (N := 8) hx hb hts iwX3_keep_3 tyX3 tyX3_ok nmX3 hown hK hP hD hS 0 rfl rfl 2 (by decide) (hts _ flX3_keep_33) (fun _ h9 => h9) rfl (by decide +kernel) rfl rfl (Nat.le_of_ble_eq_true rfl) dX3_keep_48 (fun H locs hP hD hS => ?_)
  have hP : xP γ ([xO m0 3 [.int 0, .int (nI n), .int (nI (kc + 1)), .int td, .ref m1, .ref m2, .ref m3, .ref m4], xA γ m1 12 f, xA γ m3 72 (xKeep tg kc f)]) H := hP
  have hD : va_D A ([xO m0 3 [.int 0, .int (nI n), .int (nI (kc + 1)), .int td, .ref m1, .ref m2, .ref m3, .ref m4], xA γ m1 12 f, xA γ m3 72 (xKeep tg kc f)]) := hD
  refine lv_aload_n hx hb dX3_keep_51 rfl (lv_at hl 0 rfl) ?_
  refine va_get (D := γ.1) (ci := 3) (v := .int (nI (kc + 1))) (C := RX3) (T := TX3) (N := 8) hx hb hts iwX3_keep_3 hown hK hP 0 rfl rfl 2 (by decide) (hts _ flX3_keep_33) (fun _ h9 => h9) rfl dX3_keep_52 ?_
  refine lv_iconst (v := 1) hx hb dX3_keep_55 (by decide) ?_
  refine lv_isub hx hb dX3_keep_56 ?_
  refine x_top (y := nI kc) (nI_pred kc) ?_
  subst hQ
  exact xM_i hx hb hr hlocks dX3_keep_57 hP rfl hS (Nat.le_of_ble_eq_true rfl) (Nat.le_of_ble_eq_true rfl) (⟨rfl, rfl⟩)

set_option maxHeartbeats 4000000 in
set_option maxRecDepth 100000 in
theorem c_X3_keep_x (γ : xG) (l : Launch) (m0 m1 m2 m3 m4 n kc : Nat) (th td : Int32) (hk : kc = 6)  : xM γ l yX3_keep wsX3_keep ({ frames := 1, cells := 0, slots := 0, locals := 21 } : Room) [.ref m0] ([xO m0 3 [.int th, .int (nI n), .int (nI kc), .int td, .ref m1, .ref m2, .ref m3, .ref m4]]) (fun r9 w9 => r9 = some (.int 0) ∧ w9 = [xO m0 3 [.int 1, .int (nI n), .int (nI kc), .int td, .ref m1, .ref m2, .ref m3, .ref m4]]) 0 0 := by
  refine xM.of (cc := cX3_keep) (maxL := 1) (ret := (some .int)) (by decide +kernel) rfl (Nat.le_of_ble_eq_true rfl) ?_
  intro p e s m below meth c hx hb hr hml hts hown hlocks hin hP hK A hA hD ls hl
  have hS : va_S A s.heap s.heap [] := va_S.rf
  generalize hargs : ([.ref m0] : List Value).toArray = args at hts ⊢
  obtain ⟨Q, hQ⟩ : ∃ Q9, Q9 = MQ below (xMQ γ (List.map Prod.fst ([xO m0 3 [.int th, .int (nI n), .int (nI kc), .int td, .ref m1, .ref m2, .ref m3, .ref m4]])) A (fun r9 w9 => r9 = some (.int 0) ∧ w9 = [xO m0 3 [.int 1, .int (nI n), .int (nI kc), .int td, .ref m1, .ref m2, .ref m3, .ref m4]])) args s 0 0 A := ⟨_, rfl⟩
  rw [← hQ]
  have hown : s.vm.findClass RX3 = some m.cls := hown
  have hl : lv_has ls 1 [(0, .ref m0)] := hl
  refine lv_aload_n hx hb dX3_keep_0 rfl (lv_at hl 0 rfl) ?_
  refine lv_iconst (v := 0) hx hb dX3_keep_1 (by decide) ?_
  refine va_put (D := γ.1) (ci := 3) (v := .int 0) (ty := .int) (C := RX3) (T := TX3) (N := 8) hx hb hts iwX3_keep_3 tyX3 tyX3_ok nmX3 hown hK hP hD hS 0 rfl rfl 0 (by decide) (hts _ flX3_keep_26) (fun _ h9 => h9) rfl (by decide +kernel) rfl rfl (Nat.le_of_ble_eq_true rfl) dX3_keep_2 (fun H locs hP hD hS => ?_)
  have hP : xP γ ([xO m0 3 [.int 0, .int (nI n), .int (nI kc), .int td, .ref m1, .ref m2, .ref m3, .ref m4]]) H := hP
  have hD : va_D A ([xO m0 3 [.int 0, .int (nI n), .int (nI kc), .int td, .ref m1, .ref m2, .ref m3, .ref m4]]) := hD
  refine lv_aload_n hx hb dX3_keep_5 rfl (lv_at hl 0 rfl) ?_
  refine va_get (D := γ.1) (ci := 3) (v := .int (nI kc)) (C := RX3) (T := TX3) (N := 8) hx hb hts iwX3_keep_3 hown hK hP 0 rfl rfl 2 (by decide) (hts _ flX3_keep_33) (fun _ h9 => h9) rfl dX3_keep_6 ?_
  refine lv_bipush (v := 6) hx hb dX3_keep_9 (by decide) ?_
  refine lv_icmp_ne (tgt := 20) hx hb dX3_keep_11 (by decide) (fun c => absurd (by rw [hk]; rfl) c) (fun _ => ?_)
  refine lv_aload_n hx hb dX3_keep_14 rfl (lv_at hl 0 rfl) ?_
  refine lv_iconst (v := 1) hx hb dX3_keep_15 (by decide) ?_
  refine xVM (q0 := 0) (ci := 3) (As := [.int 1]) (rest := []) ⟨hx, hb, hml, hown, hts⟩ (c_X3_no γ l m0 m1 m2 m3 m4 n kc 0 td 1) (cwV 1 hts gX3_keep_X3_no rfl rfl rfl hdv_X3_no ⟨(Nat.le_of_ble_eq_true rfl), (Nat.le_of_ble_eq_true rfl)⟩) hK hP hD hS hA [0] rfl rfl rfl rfl rfl hl.1 rfl (Nat.le_of_ble_eq_true rfl) dX3_keep_16 ⟨(Nat.le_of_ble_eq_true rfl), (Nat.le_of_ble_eq_true rfl)⟩ (fun r9 w9 H locs hw hP hD hS => ?_)
  obtain ⟨rfl, rfl⟩ := hw
  have hP : xP γ ([xO m0 3 [.int 1, .int (nI n), .int (nI kc), .int td, .ref m1, .ref m2, .ref m3, .ref m4]]) H := hP
  have hD : va_D A ([xO m0 3 [.int 1, .int (nI n), .int (nI kc), .int td, .ref m1, .ref m2, .ref m3, .ref m4]]) := hD
  refine W.eq (g2 := F0 m 19 ls [.int 0]) rfl ?_
  subst hQ
  exact xM_i hx hb hr hlocks dX3_keep_19 hP rfl hS (Nat.le_of_ble_eq_true rfl) (Nat.le_of_ble_eq_true rfl) (⟨rfl, rfl⟩)

theorem flX3_settle_26 : Cond.fieldLink RX3 26 "RingSeesawModel" "thrown" "I" ∈ wsX3_settle := by decide +kernel
theorem iwX3_settle_3 : ∀ w ∈ wsX30, w ∈ wsX3_settle := by decide +kernel
theorem flX3_settle_13 : Cond.fieldLink RX3 13 "RingSeesawModel" "x" "[I" ∈ wsX3_settle := by decide +kernel
theorem flX3_settle_74 : Cond.fieldLink RX3 74 "RingSeesawModel" "tips" "I" ∈ wsX3_settle := by decide +kernel
set_option maxHeartbeats 4000000 in
set_option maxRecDepth 100000 in
theorem c_X3_settle (γ : xG) (l : Launch) (m0 m1 m2 m3 m4 n kc : Nat) (th td : Int32) (f : xRow) (k : Nat) (hn0 : 3 ≤ n) (hn1 : n ≤ 12) (h1 : 1 ≤ k) (h2 : k ≤ 200) : xM γ l yX3_settle wsX3_settle ({ frames := 4, cells := 0, slots := 0, locals := 90 } : Room) [.ref m0, .int (nI k)] ([xO m0 3 [.int th, .int (nI n), .int (nI kc), .int td, .ref m1, .ref m2, .ref m3, .ref m4], xA γ m1 12 f]) (fun r9 w9 => r9 = some (.int (nI (xStl n k f).1)) ∧ w9 = [xO m0 3 [.int 0, .int (nI n), .int (nI kc), .int (td + nI (xStl n k f).1), .ref m1, .ref m2, .ref m3, .ref m4], xA γ m1 12 ((xStl n k f).2)]) 0 0 := by
  refine xM.of (cc := cX3_settle) (maxL := 3) (ret := (some .int)) (by decide +kernel) rfl (Nat.le_of_ble_eq_true rfl) ?_
  intro p e s m below meth c hx hb hr hml hts hown hlocks hin hP hK A hA hD ls hl
  have hS : va_S A s.heap s.heap [] := va_S.rf
  generalize hargs : ([.ref m0, .int (nI k)] : List Value).toArray = args at hts ⊢
  obtain ⟨Q, hQ⟩ : ∃ Q9, Q9 = MQ below (xMQ γ (List.map Prod.fst ([xO m0 3 [.int th, .int (nI n), .int (nI kc), .int td, .ref m1, .ref m2, .ref m3, .ref m4], xA γ m1 12 f])) A (fun r9 w9 => r9 = some (.int (nI (xStl n k f).1)) ∧ w9 = [xO m0 3 [.int 0, .int (nI n), .int (nI kc), .int (td + nI (xStl n k f).1), .ref m1, .ref m2, .ref m3, .ref m4], xA γ m1 12 ((xStl n k f).2)])) args s 0 0 A := ⟨_, rfl⟩
  rw [← hQ]
  have hown : s.vm.findClass RX3 = some m.cls := hown
  have hl : lv_has ls 3 [(0, .ref m0), (1, .int (nI k))] := hl
  refine lv_aload_n hx hb dX3_settle_0 rfl (lv_at hl 0 rfl) ?_
  refine lv_iconst (v := 0) hx hb dX3_settle_1 (by decide) ?_
  refine va_put (D := γ.1) (ci := 3) (v := .int 0) (ty := .int) (C := RX3) (T := TX3) (N := 8) hx hb hts iwX3_settle_3 tyX3 tyX3_ok nmX3 hown hK hP hD hS 0 rfl rfl 0 (by decide) (hts _ flX3_settle_26) (fun _ h9 => h9) rfl (by decide +kernel) rfl rfl (Nat.le_of_ble_eq_true rfl) dX3_settle_2 (fun H locs hP hD hS => ?_)
  have hP : xP γ ([xO m0 3 [.int 0, .int (nI n), .int (nI kc), .int td, .ref m1, .ref m2, .ref m3, .ref m4], xA γ m1 12 f]) H := hP
  have hD : va_D A ([xO m0 3 [.int 0, .int (nI n), .int (nI kc), .int td, .ref m1, .ref m2, .ref m3, .ref m4], xA γ m1 12 f]) := hD
  refine lv_iload_n hx hb dX3_settle_5 rfl (lv_at hl 1 rfl) ?_
  refine lv_iconst (v := 1) hx hb dX3_settle_6 (by decide) ?_
  refine lv_sipush (v := 200) hx hb dX3_settle_7 (by decide) ?_
  refine xSR (As := [.int (nI k), .int 1, .int 200]) (rest := []) (stk := [.int (if xInB (nI k) 1 200 = true then 1 else 0)]) ⟨hx, hb, hml, hown, hts⟩ (c_X3_isIn γ l (nI k) 1 200) (va_cwS 3 hts gX3_settle_X3_isIn rfl rfl rfl hds_X3_isIn ⟨(Nat.le_of_ble_eq_true rfl), (Nat.le_of_ble_eq_true rfl)⟩) hK hP [] rfl rfl hl.1 rfl (Nat.le_of_ble_eq_true rfl) dX3_settle_10 ⟨(Nat.le_of_ble_eq_true rfl), (Nat.le_of_ble_eq_true rfl)⟩ rfl ?_
  refine lv_if_ne (tgt := 22) hx hb dX3_settle_13 (by decide) (fun _ => ?_) (fun c => absurd c (xB_ne (xInB_le (nI_nlt (a := k) (b := 1) (by omega) (by omega)) (nI_le (a := k) (b := 200) (by omega) (by omega)))))
  refine lv_aload_n hx hb dX3_settle_22 rfl (lv_at hl 0 rfl) ?_
  refine lv_aload_n hx hb dX3_settle_23 rfl (lv_at hl 0 rfl) ?_
  refine va_get (D := γ.1) (ci := 3) (v := .ref m1) (C := RX3) (T := TX3) (N := 8) hx hb hts iwX3_settle_3 hown hK hP 0 rfl rfl 4 (by decide) (hts _ flX3_settle_13) (fun _ h9 => h9) rfl dX3_settle_24 ?_
  refine lv_iload_n hx hb dX3_settle_27 rfl (lv_at hl 1 rfl) ?_
  refine xVM (q0 := 0) (ci := 3) (As := [.ref m1, .int (nI k)]) (rest := []) ⟨hx, hb, hml, hown, hts⟩ (c_X3_settled γ l m0 m1 m2 m3 m4 n kc 0 td m1 f k (by omega) (by omega) (by omega)) (cwV 2 hts gX3_settle_X3_settled rfl rfl rfl hdv_X3_settled ⟨(Nat.le_of_ble_eq_true rfl), (Nat.le_of_ble_eq_true rfl)⟩) hK hP hD hS hA [0, 1] rfl rfl rfl rfl rfl hl.1 rfl (Nat.le_of_ble_eq_true rfl) dX3_settle_28 ⟨(Nat.le_of_ble_eq_true rfl), (Nat.le_of_ble_eq_true rfl)⟩ (fun r9 w9 H locs hw hP hD hS => ?_)
  obtain ⟨rfl, rfl⟩ := hw
  have hP : xP γ ([xO m0 3 [.int 0, .int (nI n), .int (nI kc), .int td, .ref m1, .ref m2, .ref m3, .ref m4], xA γ m1 12 ((xStl n k f).2)]) H := hP
  have hD : va_D A ([xO m0 3 [.int 0, .int (nI n), .int (nI kc), .int td, .ref m1, .ref m2, .ref m3, .ref m4], xA γ m1 12 ((xStl n k f).2)]) := hD
  refine W.eq (g2 := F0 m 31 ls [.int (nI ((xStl n k f).1))]) rfl ?_
  refine lv_istore_n (lv' := [(2, .int (nI ((xStl n k f).1))), (0, .ref m0), (1, .int (nI k))]) hx hb dX3_settle_31 rfl hl (by decide) rfl (fun ls hl => ?_)
  refine lv_aload_n hx hb dX3_settle_32 rfl (lv_at hl 1 rfl) ?_
  refine lv_dup hx hb dX3_settle_33 rfl ?_
  refine va_get (D := γ.1) (ci := 3) (v := .int td) (C := RX3) (T := TX3) (N := 8) hx hb hts iwX3_settle_3 hown hK hP 0 rfl rfl 3 (by decide) (hts _ flX3_settle_74) (fun _ h9 => h9) rfl dX3_settle_34 ?_
  refine lv_iload_n hx hb dX3_settle_37 rfl (lv_at hl 0 rfl) ?_
  refine lv_iadd hx hb dX3_settle_38 ?_
  refine va_put (D := γ.1) (ci := 3) (v := .int (td + (nI ((xStl n k f).1)))) (ty := .int) (C := RX3) (T := TX3) (N := 8) hx hb hts iwX3_settle_3 tyX3 tyX3_ok nmX3 hown hK hP hD hS 0 rfl rfl 3 (by decide) (hts _ flX3_settle_74) (fun _ h9 => h9) rfl (by decide +kernel) rfl rfl (Nat.le_of_ble_eq_true rfl) dX3_settle_39 (fun H locs hP hD hS => ?_)
  have hP : xP γ ([xO m0 3 [.int 0, .int (nI n), .int (nI kc), .int (td + (nI ((xStl n k f).1))), .ref m1, .ref m2, .ref m3, .ref m4], xA γ m1 12 ((xStl n k f).2)]) H := hP
  have hD : va_D A ([xO m0 3 [.int 0, .int (nI n), .int (nI kc), .int (td + (nI ((xStl n k f).1))), .ref m1, .ref m2, .ref m3, .ref m4], xA γ m1 12 ((xStl n k f).2)]) := hD
  refine lv_iload_n hx hb dX3_settle_42 rfl (lv_at hl 0 rfl) ?_
  subst hQ
  exact xM_i hx hb hr hlocks dX3_settle_43 hP rfl hS (Nat.le_of_ble_eq_true rfl) (Nat.le_of_ble_eq_true rfl) (⟨rfl, rfl⟩)

set_option maxHeartbeats 4000000 in
set_option maxRecDepth 100000 in
theorem c_X3_settle_x (γ : xG) (l : Launch) (m0 m1 m2 m3 m4 n kc : Nat) (th td : Int32) (x : Int32) (hxb : xInB x 1 200 = false)  : xM γ l yX3_settle wsX3_settle ({ frames := 1, cells := 0, slots := 0, locals := 22 } : Room) [.ref m0, .int x] ([xO m0 3 [.int th, .int (nI n), .int (nI kc), .int td, .ref m1, .ref m2, .ref m3, .ref m4]]) (fun r9 w9 => r9 = some (.int 0) ∧ w9 = [xO m0 3 [.int 1, .int (nI n), .int (nI kc), .int td, .ref m1, .ref m2, .ref m3, .ref m4]]) 0 0 := by
  refine xM.of (cc := cX3_settle) (maxL := 3) (ret := (some .int)) (by decide +kernel) rfl (Nat.le_of_ble_eq_true rfl) ?_
  intro p e s m below meth c hx hb hr hml hts hown hlocks hin hP hK A hA hD ls hl
  have hS : va_S A s.heap s.heap [] := va_S.rf
  generalize hargs : ([.ref m0, .int x] : List Value).toArray = args at hts ⊢
  obtain ⟨Q, hQ⟩ : ∃ Q9, Q9 = MQ below (xMQ γ (List.map Prod.fst ([xO m0 3 [.int th, .int (nI n), .int (nI kc), .int td, .ref m1, .ref m2, .ref m3, .ref m4]])) A (fun r9 w9 => r9 = some (.int 0) ∧ w9 = [xO m0 3 [.int 1, .int (nI n), .int (nI kc), .int td, .ref m1, .ref m2, .ref m3, .ref m4]])) args s 0 0 A := ⟨_, rfl⟩
  rw [← hQ]
  have hown : s.vm.findClass RX3 = some m.cls := hown
  have hl : lv_has ls 3 [(0, .ref m0), (1, .int x)] := hl
  refine lv_aload_n hx hb dX3_settle_0 rfl (lv_at hl 0 rfl) ?_
  refine lv_iconst (v := 0) hx hb dX3_settle_1 (by decide) ?_
  refine va_put (D := γ.1) (ci := 3) (v := .int 0) (ty := .int) (C := RX3) (T := TX3) (N := 8) hx hb hts iwX3_settle_3 tyX3 tyX3_ok nmX3 hown hK hP hD hS 0 rfl rfl 0 (by decide) (hts _ flX3_settle_26) (fun _ h9 => h9) rfl (by decide +kernel) rfl rfl (Nat.le_of_ble_eq_true rfl) dX3_settle_2 (fun H locs hP hD hS => ?_)
  have hP : xP γ ([xO m0 3 [.int 0, .int (nI n), .int (nI kc), .int td, .ref m1, .ref m2, .ref m3, .ref m4]]) H := hP
  have hD : va_D A ([xO m0 3 [.int 0, .int (nI n), .int (nI kc), .int td, .ref m1, .ref m2, .ref m3, .ref m4]]) := hD
  refine lv_iload_n hx hb dX3_settle_5 rfl (lv_at hl 1 rfl) ?_
  refine lv_iconst (v := 1) hx hb dX3_settle_6 (by decide) ?_
  refine lv_sipush (v := 200) hx hb dX3_settle_7 (by decide) ?_
  refine xSR (As := [.int x, .int 1, .int 200]) (rest := []) (stk := [.int (if xInB x 1 200 = true then 1 else 0)]) ⟨hx, hb, hml, hown, hts⟩ (c_X3_isIn γ l x 1 200) (va_cwS 3 hts gX3_settle_X3_isIn rfl rfl rfl hds_X3_isIn ⟨(Nat.le_of_ble_eq_true rfl), (Nat.le_of_ble_eq_true rfl)⟩) hK hP [] rfl rfl hl.1 rfl (Nat.le_of_ble_eq_true rfl) dX3_settle_10 ⟨(Nat.le_of_ble_eq_true rfl), (Nat.le_of_ble_eq_true rfl)⟩ rfl ?_
  refine lv_if_ne (tgt := 22) hx hb dX3_settle_13 (by decide) (fun c => absurd (xB_eq hxb) c) (fun _ => ?_)
  refine lv_aload_n hx hb dX3_settle_16 rfl (lv_at hl 0 rfl) ?_
  refine lv_iconst (v := 1) hx hb dX3_settle_17 (by decide) ?_
  refine xVM (q0 := 0) (ci := 3) (As := [.int 1]) (rest := []) ⟨hx, hb, hml, hown, hts⟩ (c_X3_no γ l m0 m1 m2 m3 m4 n kc 0 td 1) (cwV 1 hts gX3_settle_X3_no rfl rfl rfl hdv_X3_no ⟨(Nat.le_of_ble_eq_true rfl), (Nat.le_of_ble_eq_true rfl)⟩) hK hP hD hS hA [0] rfl rfl rfl rfl rfl hl.1 rfl (Nat.le_of_ble_eq_true rfl) dX3_settle_18 ⟨(Nat.le_of_ble_eq_true rfl), (Nat.le_of_ble_eq_true rfl)⟩ (fun r9 w9 H locs hw hP hD hS => ?_)
  obtain ⟨rfl, rfl⟩ := hw
  have hP : xP γ ([xO m0 3 [.int 1, .int (nI n), .int (nI kc), .int td, .ref m1, .ref m2, .ref m3, .ref m4]]) H := hP
  have hD : va_D A ([xO m0 3 [.int 1, .int (nI n), .int (nI kc), .int td, .ref m1, .ref m2, .ref m3, .ref m4]]) := hD
  refine W.eq (g2 := F0 m 21 ls [.int 0]) rfl ?_
  subst hQ
  exact xM_i hx hb hr hlocks dX3_settle_21 hP rfl hS (Nat.le_of_ble_eq_true rfl) (Nat.le_of_ble_eq_true rfl) (⟨rfl, rfl⟩)

theorem flX3_numberAt_26 : Cond.fieldLink RX3 26 "RingSeesawModel" "thrown" "I" ∈ wsX3_numberAt := by decide +kernel
theorem iwX3_numberAt_3 : ∀ w ∈ wsX30, w ∈ wsX3_numberAt := by decide +kernel
theorem flX3_numberAt_13 : Cond.fieldLink RX3 13 "RingSeesawModel" "x" "[I" ∈ wsX3_numberAt := by decide +kernel
set_option maxHeartbeats 4000000 in
set_option maxRecDepth 100000 in
theorem c_X3_numberAt (γ : xG) (l : Launch) (m0 m1 m2 m3 m4 n kc : Nat) (th td : Int32) (f : xRow) (k : Nat) (hn0 : 3 ≤ n) (hn1 : n ≤ 12) (hk : k < n) : xM γ l yX3_numberAt wsX3_numberAt ({ frames := 2, cells := 0, slots := 0, locals := 43 } : Room) [.ref m0, .int (nI k)] ([xO m0 3 [.int th, .int (nI n), .int (nI kc), .int td, .ref m1, .ref m2, .ref m3, .ref m4], xA γ m1 12 f]) (fun r9 w9 => r9 = some (.int (f k)) ∧ w9 = [xO m0 3 [.int 0, .int (nI n), .int (nI kc), .int td, .ref m1, .ref m2, .ref m3, .ref m4], xA γ m1 12 f]) 0 0 := by
  refine xM.of (cc := cX3_numberAt) (maxL := 2) (ret := (some .int)) (by decide +kernel) rfl (Nat.le_of_ble_eq_true rfl) ?_
  intro p e s m below meth c hx hb hr hml hts hown hlocks hin hP hK A hA hD ls hl
  have hS : va_S A s.heap s.heap [] := va_S.rf
  generalize hargs : ([.ref m0, .int (nI k)] : List Value).toArray = args at hts ⊢
  obtain ⟨Q, hQ⟩ : ∃ Q9, Q9 = MQ below (xMQ γ (List.map Prod.fst ([xO m0 3 [.int th, .int (nI n), .int (nI kc), .int td, .ref m1, .ref m2, .ref m3, .ref m4], xA γ m1 12 f])) A (fun r9 w9 => r9 = some (.int (f k)) ∧ w9 = [xO m0 3 [.int 0, .int (nI n), .int (nI kc), .int td, .ref m1, .ref m2, .ref m3, .ref m4], xA γ m1 12 f])) args s 0 0 A := ⟨_, rfl⟩
  rw [← hQ]
  have hown : s.vm.findClass RX3 = some m.cls := hown
  have hl : lv_has ls 2 [(0, .ref m0), (1, .int (nI k))] := hl
  refine lv_aload_n hx hb dX3_numberAt_0 rfl (lv_at hl 0 rfl) ?_
  refine lv_iconst (v := 0) hx hb dX3_numberAt_1 (by decide) ?_
  refine va_put (D := γ.1) (ci := 3) (v := .int 0) (ty := .int) (C := RX3) (T := TX3) (N := 8) hx hb hts iwX3_numberAt_3 tyX3 tyX3_ok nmX3 hown hK hP hD hS 0 rfl rfl 0 (by decide) (hts _ flX3_numberAt_26) (fun _ h9 => h9) rfl (by decide +kernel) rfl rfl (Nat.le_of_ble_eq_true rfl) dX3_numberAt_2 (fun H locs hP hD hS => ?_)
  have hP : xP γ ([xO m0 3 [.int 0, .int (nI n), .int (nI kc), .int td, .ref m1, .ref m2, .ref m3, .ref m4], xA γ m1 12 f]) H := hP
  have hD : va_D A ([xO m0 3 [.int 0, .int (nI n), .int (nI kc), .int td, .ref m1, .ref m2, .ref m3, .ref m4], xA γ m1 12 f]) := hD
  refine lv_aload_n hx hb dX3_numberAt_5 rfl (lv_at hl 0 rfl) ?_
  refine lv_iload_n hx hb dX3_numberAt_6 rfl (lv_at hl 1 rfl) ?_
  refine xVR (q0 := 0) (ci := 3) (As := [.int (nI k)]) (rest := []) (stk := [.int (if xInB (nI k) 0 (nI n - 1) = true then 1 else 0)]) ⟨hx, hb, hml, hown, hts⟩ (c_X3_isPlace γ l m0 m1 m2 m3 m4 n kc 0 td (nI k)) (cwV 1 hts gX3_numberAt_X3_isPlace rfl rfl rfl hdv_X3_isPlace ⟨(Nat.le_of_ble_eq_true rfl), (Nat.le_of_ble_eq_true rfl)⟩) hK hP [0] rfl rfl rfl rfl hl.1 rfl (Nat.le_of_ble_eq_true rfl) dX3_numberAt_7 ⟨(Nat.le_of_ble_eq_true rfl), (Nat.le_of_ble_eq_true rfl)⟩ rfl ?_
  refine lv_if_eq (tgt := 22) hx hb dX3_numberAt_10 (by decide) (fun c => absurd c (xB_ne (xIn_pl hk hn1))) (fun _ => ?_)
  refine lv_aload_n hx hb dX3_numberAt_13 rfl (lv_at hl 0 rfl) ?_
  refine va_get (D := γ.1) (ci := 3) (v := .ref m1) (C := RX3) (T := TX3) (N := 8) hx hb hts iwX3_numberAt_3 hown hK hP 0 rfl rfl 4 (by decide) (hts _ flX3_numberAt_13) (fun _ h9 => h9) rfl dX3_numberAt_14 ?_
  refine lv_iload_n hx hb dX3_numberAt_17 rfl (lv_at hl 1 rfl) ?_
  refine x_iald (f := f) hx hb hK hP 1 rfl k rfl (by omega) (by omega) dX3_numberAt_18 ?_
  refine lv_goto (tgt := 27) hx hb dX3_numberAt_19 (by decide) ?_
  subst hQ
  exact xM_i hx hb hr hlocks dX3_numberAt_27 hP rfl hS (Nat.le_of_ble_eq_true rfl) (Nat.le_of_ble_eq_true rfl) (⟨rfl, rfl⟩)

set_option maxHeartbeats 4000000 in
set_option maxRecDepth 100000 in
theorem c_X3_numberAt_x (γ : xG) (l : Launch) (m0 m1 m2 m3 m4 n kc : Nat) (th td : Int32) (x : Int32) (hxb : xInB x 0 (nI n - 1) = false)  : xM γ l yX3_numberAt wsX3_numberAt ({ frames := 2, cells := 0, slots := 0, locals := 43 } : Room) [.ref m0, .int x] ([xO m0 3 [.int th, .int (nI n), .int (nI kc), .int td, .ref m1, .ref m2, .ref m3, .ref m4]]) (fun r9 w9 => r9 = some (.int 0) ∧ w9 = [xO m0 3 [.int 1, .int (nI n), .int (nI kc), .int td, .ref m1, .ref m2, .ref m3, .ref m4]]) 0 0 := by
  refine xM.of (cc := cX3_numberAt) (maxL := 2) (ret := (some .int)) (by decide +kernel) rfl (Nat.le_of_ble_eq_true rfl) ?_
  intro p e s m below meth c hx hb hr hml hts hown hlocks hin hP hK A hA hD ls hl
  have hS : va_S A s.heap s.heap [] := va_S.rf
  generalize hargs : ([.ref m0, .int x] : List Value).toArray = args at hts ⊢
  obtain ⟨Q, hQ⟩ : ∃ Q9, Q9 = MQ below (xMQ γ (List.map Prod.fst ([xO m0 3 [.int th, .int (nI n), .int (nI kc), .int td, .ref m1, .ref m2, .ref m3, .ref m4]])) A (fun r9 w9 => r9 = some (.int 0) ∧ w9 = [xO m0 3 [.int 1, .int (nI n), .int (nI kc), .int td, .ref m1, .ref m2, .ref m3, .ref m4]])) args s 0 0 A := ⟨_, rfl⟩
  rw [← hQ]
  have hown : s.vm.findClass RX3 = some m.cls := hown
  have hl : lv_has ls 2 [(0, .ref m0), (1, .int x)] := hl
  refine lv_aload_n hx hb dX3_numberAt_0 rfl (lv_at hl 0 rfl) ?_
  refine lv_iconst (v := 0) hx hb dX3_numberAt_1 (by decide) ?_
  refine va_put (D := γ.1) (ci := 3) (v := .int 0) (ty := .int) (C := RX3) (T := TX3) (N := 8) hx hb hts iwX3_numberAt_3 tyX3 tyX3_ok nmX3 hown hK hP hD hS 0 rfl rfl 0 (by decide) (hts _ flX3_numberAt_26) (fun _ h9 => h9) rfl (by decide +kernel) rfl rfl (Nat.le_of_ble_eq_true rfl) dX3_numberAt_2 (fun H locs hP hD hS => ?_)
  have hP : xP γ ([xO m0 3 [.int 0, .int (nI n), .int (nI kc), .int td, .ref m1, .ref m2, .ref m3, .ref m4]]) H := hP
  have hD : va_D A ([xO m0 3 [.int 0, .int (nI n), .int (nI kc), .int td, .ref m1, .ref m2, .ref m3, .ref m4]]) := hD
  refine lv_aload_n hx hb dX3_numberAt_5 rfl (lv_at hl 0 rfl) ?_
  refine lv_iload_n hx hb dX3_numberAt_6 rfl (lv_at hl 1 rfl) ?_
  refine xVR (q0 := 0) (ci := 3) (As := [.int x]) (rest := []) (stk := [.int (if xInB x 0 (nI n - 1) = true then 1 else 0)]) ⟨hx, hb, hml, hown, hts⟩ (c_X3_isPlace γ l m0 m1 m2 m3 m4 n kc 0 td x) (cwV 1 hts gX3_numberAt_X3_isPlace rfl rfl rfl hdv_X3_isPlace ⟨(Nat.le_of_ble_eq_true rfl), (Nat.le_of_ble_eq_true rfl)⟩) hK hP [0] rfl rfl rfl rfl hl.1 rfl (Nat.le_of_ble_eq_true rfl) dX3_numberAt_7 ⟨(Nat.le_of_ble_eq_true rfl), (Nat.le_of_ble_eq_true rfl)⟩ rfl ?_
  refine lv_if_eq (tgt := 22) hx hb dX3_numberAt_10 (by decide) (fun _ => ?_) (fun c => absurd (xB_eq hxb) c)
  refine lv_aload_n hx hb dX3_numberAt_22 rfl (lv_at hl 0 rfl) ?_
  refine lv_iconst (v := 1) hx hb dX3_numberAt_23 (by decide) ?_
  refine xVM (q0 := 0) (ci := 3) (As := [.int 1]) (rest := []) ⟨hx, hb, hml, hown, hts⟩ (c_X3_no γ l m0 m1 m2 m3 m4 n kc 0 td 1) (cwV 1 hts gX3_numberAt_X3_no rfl rfl rfl hdv_X3_no ⟨(Nat.le_of_ble_eq_true rfl), (Nat.le_of_ble_eq_true rfl)⟩) hK hP hD hS hA [0] rfl rfl rfl rfl rfl hl.1 rfl (Nat.le_of_ble_eq_true rfl) dX3_numberAt_24 ⟨(Nat.le_of_ble_eq_true rfl), (Nat.le_of_ble_eq_true rfl)⟩ (fun r9 w9 H locs hw hP hD hS => ?_)
  obtain ⟨rfl, rfl⟩ := hw
  have hP : xP γ ([xO m0 3 [.int 1, .int (nI n), .int (nI kc), .int td, .ref m1, .ref m2, .ref m3, .ref m4]]) H := hP
  have hD : va_D A ([xO m0 3 [.int 1, .int (nI n), .int (nI kc), .int td, .ref m1, .ref m2, .ref m3, .ref m4]]) := hD
  refine W.eq (g2 := F0 m 27 ls [.int 0]) rfl ?_
  subst hQ
  exact xM_i hx hb hr hlocks dX3_numberAt_27 hP rfl hS (Nat.le_of_ble_eq_true rfl) (Nat.le_of_ble_eq_true rfl) (⟨rfl, rfl⟩)

theorem flX3_isSteep_26 : Cond.fieldLink RX3 26 "RingSeesawModel" "thrown" "I" ∈ wsX3_isSteep := by decide +kernel
theorem iwX3_isSteep_3 : ∀ w ∈ wsX30, w ∈ wsX3_isSteep := by decide +kernel
theorem flX3_isSteep_13 : Cond.fieldLink RX3 13 "RingSeesawModel" "x" "[I" ∈ wsX3_isSteep := by decide +kernel
set_option maxHeartbeats 4000000 in
set_option maxRecDepth 100000 in
theorem c_X3_isSteep (γ : xG) (l : Launch) (m0 m1 m2 m3 m4 n kc : Nat) (th td : Int32) (f : xRow) (k : Nat) (hn0 : 3 ≤ n) (hn1 : n ≤ 12) (hk : k < n) : xM γ l yX3_isSteep wsX3_isSteep ({ frames := 2, cells := 0, slots := 0, locals := 44 } : Room) [.ref m0, .int (nI k)] ([xO m0 3 [.int th, .int (nI n), .int (nI kc), .int td, .ref m1, .ref m2, .ref m3, .ref m4], xA γ m1 12 f]) (fun r9 w9 => r9 = some (.int (if xSt n f k = true then 1 else 0)) ∧ w9 = [xO m0 3 [.int 0, .int (nI n), .int (nI kc), .int td, .ref m1, .ref m2, .ref m3, .ref m4], xA γ m1 12 f]) 0 0 := by
  refine xM.of (cc := cX3_isSteep) (maxL := 2) (ret := (some .boolean)) (by decide +kernel) rfl (Nat.le_of_ble_eq_true rfl) ?_
  intro p e s m below meth c hx hb hr hml hts hown hlocks hin hP hK A hA hD ls hl
  have hS : va_S A s.heap s.heap [] := va_S.rf
  generalize hargs : ([.ref m0, .int (nI k)] : List Value).toArray = args at hts ⊢
  obtain ⟨Q, hQ⟩ : ∃ Q9, Q9 = MQ below (xMQ γ (List.map Prod.fst ([xO m0 3 [.int th, .int (nI n), .int (nI kc), .int td, .ref m1, .ref m2, .ref m3, .ref m4], xA γ m1 12 f])) A (fun r9 w9 => r9 = some (.int (if xSt n f k = true then 1 else 0)) ∧ w9 = [xO m0 3 [.int 0, .int (nI n), .int (nI kc), .int td, .ref m1, .ref m2, .ref m3, .ref m4], xA γ m1 12 f])) args s 0 0 A := ⟨_, rfl⟩
  rw [← hQ]
  have hown : s.vm.findClass RX3 = some m.cls := hown
  have hl : lv_has ls 2 [(0, .ref m0), (1, .int (nI k))] := hl
  refine lv_aload_n hx hb dX3_isSteep_0 rfl (lv_at hl 0 rfl) ?_
  refine lv_iload_n hx hb dX3_isSteep_1 rfl (lv_at hl 1 rfl) ?_
  refine xVR (q0 := 0) (ci := 3) (As := [.int (nI k)]) (rest := []) (stk := [.int (if xInB (nI k) 0 (nI n - 1) = true then 1 else 0)]) ⟨hx, hb, hml, hown, hts⟩ (c_X3_isPlace γ l m0 m1 m2 m3 m4 n kc th td (nI k)) (cwV 1 hts gX3_isSteep_X3_isPlace rfl rfl rfl hdv_X3_isPlace ⟨(Nat.le_of_ble_eq_true rfl), (Nat.le_of_ble_eq_true rfl)⟩) hK hP [0] rfl rfl rfl rfl hl.1 rfl (Nat.le_of_ble_eq_true rfl) dX3_isSteep_2 ⟨(Nat.le_of_ble_eq_true rfl), (Nat.le_of_ble_eq_true rfl)⟩ rfl ?_
  refine lv_if_ne (tgt := 14) hx hb dX3_isSteep_5 (by decide) (fun _ => ?_) (fun c => absurd c (xB_ne (xIn_pl hk hn1)))
  refine lv_aload_n hx hb dX3_isSteep_14 rfl (lv_at hl 0 rfl) ?_
  refine lv_iconst (v := 0) hx hb dX3_isSteep_15 (by decide) ?_
  refine va_put (D := γ.1) (ci := 3) (v := .int 0) (ty := .int) (C := RX3) (T := TX3) (N := 8) hx hb hts iwX3_isSteep_3 tyX3 tyX3_ok nmX3 hown hK hP hD hS 0 rfl rfl 0 (by decide) (hts _ flX3_isSteep_26) (fun _ h9 => h9) rfl (by decide +kernel) rfl rfl (Nat.le_of_ble_eq_true rfl) dX3_isSteep_16 (fun H locs hP hD hS => ?_)
  have hP : xP γ ([xO m0 3 [.int 0, .int (nI n), .int (nI kc), .int td, .ref m1, .ref m2, .ref m3, .ref m4], xA γ m1 12 f]) H := hP
  have hD : va_D A ([xO m0 3 [.int 0, .int (nI n), .int (nI kc), .int td, .ref m1, .ref m2, .ref m3, .ref m4], xA γ m1 12 f]) := hD
  refine lv_aload_n hx hb dX3_isSteep_19 rfl (lv_at hl 0 rfl) ?_
  refine lv_aload_n hx hb dX3_isSteep_20 rfl (lv_at hl 0 rfl) ?_
  refine va_get (D := γ.1) (ci := 3) (v := .ref m1) (C := RX3) (T := TX3) (N := 8) hx hb hts iwX3_isSteep_3 hown hK hP 0 rfl rfl 4 (by decide) (hts _ flX3_isSteep_13) (fun _ h9 => h9) rfl dX3_isSteep_21 ?_
  refine lv_iload_n hx hb dX3_isSteep_24 rfl (lv_at hl 1 rfl) ?_
  refine xVR (q0 := 0) (ci := 3) (As := [.ref m1, .int (nI k)]) (rest := []) (stk := [.int (if xSt n f k = true then 1 else 0)]) ⟨hx, hb, hml, hown, hts⟩ (c_X3_steep γ l m0 m1 m2 m3 m4 n kc 0 td m1 f k (by omega) (by omega) (by omega)) (cwV 2 hts gX3_isSteep_X3_steep rfl rfl rfl hdv_X3_steep ⟨(Nat.le_of_ble_eq_true rfl), (Nat.le_of_ble_eq_true rfl)⟩) hK hP [0, 1] rfl rfl rfl rfl hl.1 rfl (Nat.le_of_ble_eq_true rfl) dX3_isSteep_25 ⟨(Nat.le_of_ble_eq_true rfl), (Nat.le_of_ble_eq_true rfl)⟩ rfl ?_
  subst hQ
  exact xM_z hx hb hr hlocks dX3_isSteep_28 (xB_z _) hP rfl hS (Nat.le_of_ble_eq_true rfl) (Nat.le_of_ble_eq_true rfl) (⟨rfl, rfl⟩)

theorem hdv_X3_isNot : yX3_isNot.cls = RX3 ∧ yX3_isNot.cls ≠ "java/lang/invoke/MethodHandle" ∧ yX3_isNot.cls ≠ "java/lang/invoke/VarHandle" ∧ (parseMethodDescriptor yX3_isNot.desc).map (fun d => d.parameters.length) = some 1 := by decide +kernel
set_option maxHeartbeats 4000000 in
set_option maxRecDepth 100000 in
theorem c_X3_isSteep_x (γ : xG) (l : Launch) (m0 m1 m2 m3 m4 n kc : Nat) (th td : Int32) (x : Int32) (hxb : xInB x 0 (nI n - 1) = false)  : xM γ l yX3_isSteep wsX3_isSteep ({ frames := 2, cells := 0, slots := 0, locals := 43 } : Room) [.ref m0, .int x] ([xO m0 3 [.int th, .int (nI n), .int (nI kc), .int td, .ref m1, .ref m2, .ref m3, .ref m4]]) (fun r9 w9 => r9 = some (.int 0) ∧ w9 = [xO m0 3 [.int 1, .int (nI n), .int (nI kc), .int td, .ref m1, .ref m2, .ref m3, .ref m4]]) 0 0 := by
  refine xM.of (cc := cX3_isSteep) (maxL := 2) (ret := (some .boolean)) (by decide +kernel) rfl (Nat.le_of_ble_eq_true rfl) ?_
  intro p e s m below meth c hx hb hr hml hts hown hlocks hin hP hK A hA hD ls hl
  have hS : va_S A s.heap s.heap [] := va_S.rf
  generalize hargs : ([.ref m0, .int x] : List Value).toArray = args at hts ⊢
  obtain ⟨Q, hQ⟩ : ∃ Q9, Q9 = MQ below (xMQ γ (List.map Prod.fst ([xO m0 3 [.int th, .int (nI n), .int (nI kc), .int td, .ref m1, .ref m2, .ref m3, .ref m4]])) A (fun r9 w9 => r9 = some (.int 0) ∧ w9 = [xO m0 3 [.int 1, .int (nI n), .int (nI kc), .int td, .ref m1, .ref m2, .ref m3, .ref m4]])) args s 0 0 A := ⟨_, rfl⟩
  rw [← hQ]
  have hown : s.vm.findClass RX3 = some m.cls := hown
  have hl : lv_has ls 2 [(0, .ref m0), (1, .int x)] := hl
  refine lv_aload_n hx hb dX3_isSteep_0 rfl (lv_at hl 0 rfl) ?_
  refine lv_iload_n hx hb dX3_isSteep_1 rfl (lv_at hl 1 rfl) ?_
  refine xVR (q0 := 0) (ci := 3) (As := [.int x]) (rest := []) (stk := [.int (if xInB x 0 (nI n - 1) = true then 1 else 0)]) ⟨hx, hb, hml, hown, hts⟩ (c_X3_isPlace γ l m0 m1 m2 m3 m4 n kc th td x) (cwV 1 hts gX3_isSteep_X3_isPlace rfl rfl rfl hdv_X3_isPlace ⟨(Nat.le_of_ble_eq_true rfl), (Nat.le_of_ble_eq_true rfl)⟩) hK hP [0] rfl rfl rfl rfl hl.1 rfl (Nat.le_of_ble_eq_true rfl) dX3_isSteep_2 ⟨(Nat.le_of_ble_eq_true rfl), (Nat.le_of_ble_eq_true rfl)⟩ rfl ?_
  refine lv_if_ne (tgt := 14) hx hb dX3_isSteep_5 (by decide) (fun c => absurd (xB_eq hxb) c) (fun _ => ?_)
  refine lv_aload_n hx hb dX3_isSteep_8 rfl (lv_at hl 0 rfl) ?_
  refine lv_iconst (v := 1) hx hb dX3_isSteep_9 (by decide) ?_
  refine xVM (q0 := 0) (ci := 3) (As := [.int 1]) (rest := []) ⟨hx, hb, hml, hown, hts⟩ (c_X3_isNot γ l m0 m1 m2 m3 m4 n kc th td 1) (cwV 1 hts gX3_isSteep_X3_isNot rfl rfl rfl hdv_X3_isNot ⟨(Nat.le_of_ble_eq_true rfl), (Nat.le_of_ble_eq_true rfl)⟩) hK hP hD hS hA [0] rfl rfl rfl rfl rfl hl.1 rfl (Nat.le_of_ble_eq_true rfl) dX3_isSteep_10 ⟨(Nat.le_of_ble_eq_true rfl), (Nat.le_of_ble_eq_true rfl)⟩ (fun r9 w9 H locs hw hP hD hS => ?_)
  obtain ⟨rfl, rfl⟩ := hw
  have hP : xP γ ([xO m0 3 [.int 1, .int (nI n), .int (nI kc), .int td, .ref m1, .ref m2, .ref m3, .ref m4]]) H := hP
  have hD : va_D A ([xO m0 3 [.int 1, .int (nI n), .int (nI kc), .int td, .ref m1, .ref m2, .ref m3, .ref m4]]) := hD
  refine W.eq (g2 := F0 m 13 ls [.int 0]) rfl ?_
  subst hQ
  exact xM_z hx hb hr hlocks dX3_isSteep_13 (Or.inl rfl) hP rfl hS (Nat.le_of_ble_eq_true rfl) (Nat.le_of_ble_eq_true rfl) (⟨rfl, rfl⟩)

theorem flX3_tilt_26 : Cond.fieldLink RX3 26 "RingSeesawModel" "thrown" "I" ∈ wsX3_tilt := by decide +kernel
theorem iwX3_tilt_3 : ∀ w ∈ wsX30, w ∈ wsX3_tilt := by decide +kernel
set_option maxHeartbeats 4000000 in
set_option maxRecDepth 100000 in
theorem c_X3_tilt (γ : xG) (l : Launch) (m0 m1 m2 m3 m4 n kc : Nat) (th td : Int32) (f : xRow) (k : Nat) (hn0 : 3 ≤ n) (hn1 : n ≤ 12) (hk : k < n) : xM γ l yX3_tilt wsX3_tilt ({ frames := 2, cells := 0, slots := 0, locals := 45 } : Room) [.ref m0, .int (nI k)] ([xO m0 3 [.int th, .int (nI n), .int (nI kc), .int td, .ref m1, .ref m2, .ref m3, .ref m4], xA γ m1 12 f]) (fun r9 w9 => r9 = some (.int (xTlt n f k)) ∧ w9 = [xO m0 3 [.int 0, .int (nI n), .int (nI kc), .int td, .ref m1, .ref m2, .ref m3, .ref m4], xA γ m1 12 f]) 0 0 := by
  refine xM.of (cc := cX3_tilt) (maxL := 2) (ret := (some .int)) (by decide +kernel) rfl (Nat.le_of_ble_eq_true rfl) ?_
  intro p e s m below meth c hx hb hr hml hts hown hlocks hin hP hK A hA hD ls hl
  have hS : va_S A s.heap s.heap [] := va_S.rf
  generalize hargs : ([.ref m0, .int (nI k)] : List Value).toArray = args at hts ⊢
  obtain ⟨Q, hQ⟩ : ∃ Q9, Q9 = MQ below (xMQ γ (List.map Prod.fst ([xO m0 3 [.int th, .int (nI n), .int (nI kc), .int td, .ref m1, .ref m2, .ref m3, .ref m4], xA γ m1 12 f])) A (fun r9 w9 => r9 = some (.int (xTlt n f k)) ∧ w9 = [xO m0 3 [.int 0, .int (nI n), .int (nI kc), .int td, .ref m1, .ref m2, .ref m3, .ref m4], xA γ m1 12 f])) args s 0 0 A := ⟨_, rfl⟩
  rw [← hQ]
  have hown : s.vm.findClass RX3 = some m.cls := hown
  have hl : lv_has ls 2 [(0, .ref m0), (1, .int (nI k))] := hl
  refine lv_aload_n hx hb dX3_tilt_0 rfl (lv_at hl 0 rfl) ?_
  refine lv_iconst (v := 0) hx hb dX3_tilt_1 (by decide) ?_
  refine va_put (D := γ.1) (ci := 3) (v := .int 0) (ty := .int) (C := RX3) (T := TX3) (N := 8) hx hb hts iwX3_tilt_3 tyX3 tyX3_ok nmX3 hown hK hP hD hS 0 rfl rfl 0 (by decide) (hts _ flX3_tilt_26) (fun _ h9 => h9) rfl (by decide +kernel) rfl rfl (Nat.le_of_ble_eq_true rfl) dX3_tilt_2 (fun H locs hP hD hS => ?_)
  have hP : xP γ ([xO m0 3 [.int 0, .int (nI n), .int (nI kc), .int td, .ref m1, .ref m2, .ref m3, .ref m4], xA γ m1 12 f]) H := hP
  have hD : va_D A ([xO m0 3 [.int 0, .int (nI n), .int (nI kc), .int td, .ref m1, .ref m2, .ref m3, .ref m4], xA γ m1 12 f]) := hD
  refine lv_aload_n hx hb dX3_tilt_5 rfl (lv_at hl 0 rfl) ?_
  refine lv_iload_n hx hb dX3_tilt_6 rfl (lv_at hl 1 rfl) ?_
  refine xVR (q0 := 0) (ci := 3) (As := [.int (nI k)]) (rest := []) (stk := [.int (if xInB (nI k) 0 (nI n - 1) = true then 1 else 0)]) ⟨hx, hb, hml, hown, hts⟩ (c_X3_isPlace γ l m0 m1 m2 m3 m4 n kc 0 td (nI k)) (cwV 1 hts gX3_tilt_X3_isPlace rfl rfl rfl hdv_X3_isPlace ⟨(Nat.le_of_ble_eq_true rfl), (Nat.le_of_ble_eq_true rfl)⟩) hK hP [0] rfl rfl rfl rfl hl.1 rfl (Nat.le_of_ble_eq_true rfl) dX3_tilt_7 ⟨(Nat.le_of_ble_eq_true rfl), (Nat.le_of_ble_eq_true rfl)⟩ rfl ?_
  refine lv_if_eq (tgt := 21) hx hb dX3_tilt_10 (by decide) (fun c => absurd c (xB_ne (xIn_pl hk hn1))) (fun _ => ?_)
  refine lv_aload_n hx hb dX3_tilt_13 rfl (lv_at hl 0 rfl) ?_
  refine lv_iload_n hx hb dX3_tilt_14 rfl (lv_at hl 1 rfl) ?_
  refine xVR (q0 := 0) (ci := 3) (As := [.int (nI k)]) (rest := []) (stk := [.int (xTlt n f k)]) ⟨hx, hb, hml, hown, hts⟩ (c_X3_tiltOn γ l m0 m1 m2 m3 m4 n kc 0 td f k (by omega) (by omega) (by omega)) (cwV 1 hts gX3_tilt_X3_tiltOn rfl rfl rfl hdv_X3_tiltOn ⟨(Nat.le_of_ble_eq_true rfl), (Nat.le_of_ble_eq_true rfl)⟩) hK hP [0, 1] rfl rfl rfl rfl hl.1 rfl (Nat.le_of_ble_eq_true rfl) dX3_tilt_15 ⟨(Nat.le_of_ble_eq_true rfl), (Nat.le_of_ble_eq_true rfl)⟩ rfl ?_
  refine lv_goto (tgt := 26) hx hb dX3_tilt_18 (by decide) ?_
  subst hQ
  exact xM_i hx hb hr hlocks dX3_tilt_26 hP rfl hS (Nat.le_of_ble_eq_true rfl) (Nat.le_of_ble_eq_true rfl) (⟨rfl, rfl⟩)

set_option maxHeartbeats 4000000 in
set_option maxRecDepth 100000 in
theorem c_X3_tilt_x (γ : xG) (l : Launch) (m0 m1 m2 m3 m4 n kc : Nat) (th td : Int32) (x : Int32) (hxb : xInB x 0 (nI n - 1) = false)  : xM γ l yX3_tilt wsX3_tilt ({ frames := 2, cells := 0, slots := 0, locals := 43 } : Room) [.ref m0, .int x] ([xO m0 3 [.int th, .int (nI n), .int (nI kc), .int td, .ref m1, .ref m2, .ref m3, .ref m4]]) (fun r9 w9 => r9 = some (.int 0) ∧ w9 = [xO m0 3 [.int 1, .int (nI n), .int (nI kc), .int td, .ref m1, .ref m2, .ref m3, .ref m4]]) 0 0 := by
  refine xM.of (cc := cX3_tilt) (maxL := 2) (ret := (some .int)) (by decide +kernel) rfl (Nat.le_of_ble_eq_true rfl) ?_
  intro p e s m below meth c hx hb hr hml hts hown hlocks hin hP hK A hA hD ls hl
  have hS : va_S A s.heap s.heap [] := va_S.rf
  generalize hargs : ([.ref m0, .int x] : List Value).toArray = args at hts ⊢
  obtain ⟨Q, hQ⟩ : ∃ Q9, Q9 = MQ below (xMQ γ (List.map Prod.fst ([xO m0 3 [.int th, .int (nI n), .int (nI kc), .int td, .ref m1, .ref m2, .ref m3, .ref m4]])) A (fun r9 w9 => r9 = some (.int 0) ∧ w9 = [xO m0 3 [.int 1, .int (nI n), .int (nI kc), .int td, .ref m1, .ref m2, .ref m3, .ref m4]])) args s 0 0 A := ⟨_, rfl⟩
  rw [← hQ]
  have hown : s.vm.findClass RX3 = some m.cls := hown
  have hl : lv_has ls 2 [(0, .ref m0), (1, .int x)] := hl
  refine lv_aload_n hx hb dX3_tilt_0 rfl (lv_at hl 0 rfl) ?_
  refine lv_iconst (v := 0) hx hb dX3_tilt_1 (by decide) ?_
  refine va_put (D := γ.1) (ci := 3) (v := .int 0) (ty := .int) (C := RX3) (T := TX3) (N := 8) hx hb hts iwX3_tilt_3 tyX3 tyX3_ok nmX3 hown hK hP hD hS 0 rfl rfl 0 (by decide) (hts _ flX3_tilt_26) (fun _ h9 => h9) rfl (by decide +kernel) rfl rfl (Nat.le_of_ble_eq_true rfl) dX3_tilt_2 (fun H locs hP hD hS => ?_)
  have hP : xP γ ([xO m0 3 [.int 0, .int (nI n), .int (nI kc), .int td, .ref m1, .ref m2, .ref m3, .ref m4]]) H := hP
  have hD : va_D A ([xO m0 3 [.int 0, .int (nI n), .int (nI kc), .int td, .ref m1, .ref m2, .ref m3, .ref m4]]) := hD
  refine lv_aload_n hx hb dX3_tilt_5 rfl (lv_at hl 0 rfl) ?_
  refine lv_iload_n hx hb dX3_tilt_6 rfl (lv_at hl 1 rfl) ?_
  refine xVR (q0 := 0) (ci := 3) (As := [.int x]) (rest := []) (stk := [.int (if xInB x 0 (nI n - 1) = true then 1 else 0)]) ⟨hx, hb, hml, hown, hts⟩ (c_X3_isPlace γ l m0 m1 m2 m3 m4 n kc 0 td x) (cwV 1 hts gX3_tilt_X3_isPlace rfl rfl rfl hdv_X3_isPlace ⟨(Nat.le_of_ble_eq_true rfl), (Nat.le_of_ble_eq_true rfl)⟩) hK hP [0] rfl rfl rfl rfl hl.1 rfl (Nat.le_of_ble_eq_true rfl) dX3_tilt_7 ⟨(Nat.le_of_ble_eq_true rfl), (Nat.le_of_ble_eq_true rfl)⟩ rfl ?_
  refine lv_if_eq (tgt := 21) hx hb dX3_tilt_10 (by decide) (fun _ => ?_) (fun c => absurd (xB_eq hxb) c)
  refine lv_aload_n hx hb dX3_tilt_21 rfl (lv_at hl 0 rfl) ?_
  refine lv_iconst (v := 1) hx hb dX3_tilt_22 (by decide) ?_
  refine xVM (q0 := 0) (ci := 3) (As := [.int 1]) (rest := []) ⟨hx, hb, hml, hown, hts⟩ (c_X3_no γ l m0 m1 m2 m3 m4 n kc 0 td 1) (cwV 1 hts gX3_tilt_X3_no rfl rfl rfl hdv_X3_no ⟨(Nat.le_of_ble_eq_true rfl), (Nat.le_of_ble_eq_true rfl)⟩) hK hP hD hS hA [0] rfl rfl rfl rfl rfl hl.1 rfl (Nat.le_of_ble_eq_true rfl) dX3_tilt_23 ⟨(Nat.le_of_ble_eq_true rfl), (Nat.le_of_ble_eq_true rfl)⟩ (fun r9 w9 H locs hw hP hD hS => ?_)
  obtain ⟨rfl, rfl⟩ := hw
  have hP : xP γ ([xO m0 3 [.int 1, .int (nI n), .int (nI kc), .int td, .ref m1, .ref m2, .ref m3, .ref m4]]) H := hP
  have hD : va_D A ([xO m0 3 [.int 1, .int (nI n), .int (nI kc), .int td, .ref m1, .ref m2, .ref m3, .ref m4]]) := hD
  refine W.eq (g2 := F0 m 26 ls [.int 0]) rfl ?_
  subst hQ
  exact xM_i hx hb hr hlocks dX3_tilt_26 hP rfl hS (Nat.le_of_ble_eq_true rfl) (Nat.le_of_ble_eq_true rfl) (⟨rfl, rfl⟩)

theorem hdv_X3_isTarget : yX3_isTarget.cls = RX3 ∧ yX3_isTarget.cls ≠ "java/lang/invoke/MethodHandle" ∧ yX3_isTarget.cls ≠ "java/lang/invoke/VarHandle" ∧ (parseMethodDescriptor yX3_isTarget.desc).map (fun d => d.parameters.length) = some 1 := by decide +kernel
theorem flX3_numberIn_26 : Cond.fieldLink RX3 26 "RingSeesawModel" "thrown" "I" ∈ wsX3_numberIn := by decide +kernel
theorem iwX3_numberIn_3 : ∀ w ∈ wsX30, w ∈ wsX3_numberIn := by decide +kernel
set_option maxHeartbeats 4000000 in
set_option maxRecDepth 100000 in
theorem c_X3_numberIn (γ : xG) (l : Launch) (m0 m1 m2 m3 m4 n kc : Nat) (th td : Int32) (tg : xRow) (t k : Nat) (hn0 : 3 ≤ n) (hn1 : n ≤ 12) (ht : t < kc) (hkc : kc ≤ 6) (hk : k < n) : xM γ l yX3_numberIn wsX3_numberIn ({ frames := 2, cells := 0, slots := 0, locals := 43 } : Room) [.ref m0, .int (nI t), .int (nI k)] ([xO m0 3 [.int th, .int (nI n), .int (nI kc), .int td, .ref m1, .ref m2, .ref m3, .ref m4], xA γ m3 72 tg]) (fun r9 w9 => r9 = some (.int (xGt tg t k)) ∧ w9 = [xO m0 3 [.int 0, .int (nI n), .int (nI kc), .int td, .ref m1, .ref m2, .ref m3, .ref m4], xA γ m3 72 tg]) 0 0 := by
  refine xM.of (cc := cX3_numberIn) (maxL := 3) (ret := (some .int)) (by decide +kernel) rfl (Nat.le_of_ble_eq_true rfl) ?_
  intro p e s m below meth c hx hb hr hml hts hown hlocks hin hP hK A hA hD ls hl
  have hS : va_S A s.heap s.heap [] := va_S.rf
  generalize hargs : ([.ref m0, .int (nI t), .int (nI k)] : List Value).toArray = args at hts ⊢
  obtain ⟨Q, hQ⟩ : ∃ Q9, Q9 = MQ below (xMQ γ (List.map Prod.fst ([xO m0 3 [.int th, .int (nI n), .int (nI kc), .int td, .ref m1, .ref m2, .ref m3, .ref m4], xA γ m3 72 tg])) A (fun r9 w9 => r9 = some (.int (xGt tg t k)) ∧ w9 = [xO m0 3 [.int 0, .int (nI n), .int (nI kc), .int td, .ref m1, .ref m2, .ref m3, .ref m4], xA γ m3 72 tg])) args s 0 0 A := ⟨_, rfl⟩
  rw [← hQ]
  have hown : s.vm.findClass RX3 = some m.cls := hown
  have hl : lv_has ls 3 [(0, .ref m0), (1, .int (nI t)), (2, .int (nI k))] := hl
  refine lv_aload_n hx hb dX3_numberIn_0 rfl (lv_at hl 0 rfl) ?_
  refine lv_iconst (v := 0) hx hb dX3_numberIn_1 (by decide) ?_
  refine va_put (D := γ.1) (ci := 3) (v := .int 0) (ty := .int) (C := RX3) (T := TX3) (N := 8) hx hb hts iwX3_numberIn_3 tyX3 tyX3_ok nmX3 hown hK hP hD hS 0 rfl rfl 0 (by decide) (hts _ flX3_numberIn_26) (fun _ h9 => h9) rfl (by decide +kernel) rfl rfl (Nat.le_of_ble_eq_true rfl) dX3_numberIn_2 (fun H locs hP hD hS => ?_)
  have hP : xP γ ([xO m0 3 [.int 0, .int (nI n), .int (nI kc), .int td, .ref m1, .ref m2, .ref m3, .ref m4], xA γ m3 72 tg]) H := hP
  have hD : va_D A ([xO m0 3 [.int 0, .int (nI n), .int (nI kc), .int td, .ref m1, .ref m2, .ref m3, .ref m4], xA γ m3 72 tg]) := hD
  refine lv_aload_n hx hb dX3_numberIn_5 rfl (lv_at hl 0 rfl) ?_
  refine lv_iload_n hx hb dX3_numberIn_6 rfl (lv_at hl 1 rfl) ?_
  refine xVR (q0 := 0) (ci := 3) (As := [.int (nI t)]) (rest := []) (stk := [.int (if xInB (nI t) 0 (nI kc - 1) = true then 1 else 0)]) ⟨hx, hb, hml, hown, hts⟩ (c_X3_isTarget γ l m0 m1 m2 m3 m4 n kc 0 td (nI t)) (cwV 1 hts gX3_numberIn_X3_isTarget rfl rfl rfl hdv_X3_isTarget ⟨(Nat.le_of_ble_eq_true rfl), (Nat.le_of_ble_eq_true rfl)⟩) hK hP [0] rfl rfl rfl rfl hl.1 rfl (Nat.le_of_ble_eq_true rfl) dX3_numberIn_7 ⟨(Nat.le_of_ble_eq_true rfl), (Nat.le_of_ble_eq_true rfl)⟩ rfl ?_
  refine lv_if_eq (tgt := 30) hx hb dX3_numberIn_10 (by decide) (fun c => absurd c (xB_ne (xIn_pl ht (by omega)))) (fun _ => ?_)
  refine lv_aload_n hx hb dX3_numberIn_13 rfl (lv_at hl 0 rfl) ?_
  refine lv_iload_n hx hb dX3_numberIn_14 rfl (lv_at hl 2 rfl) ?_
  refine xVR (q0 := 0) (ci := 3) (As := [.int (nI k)]) (rest := []) (stk := [.int (if xInB (nI k) 0 (nI n - 1) = true then 1 else 0)]) ⟨hx, hb, hml, hown, hts⟩ (c_X3_isPlace γ l m0 m1 m2 m3 m4 n kc 0 td (nI k)) (cwV 1 hts gX3_numberIn_X3_isPlace rfl rfl rfl hdv_X3_isPlace ⟨(Nat.le_of_ble_eq_true rfl), (Nat.le_of_ble_eq_true rfl)⟩) hK hP [0] rfl rfl rfl rfl hl.1 rfl (Nat.le_of_ble_eq_true rfl) dX3_numberIn_15 ⟨(Nat.le_of_ble_eq_true rfl), (Nat.le_of_ble_eq_true rfl)⟩ rfl ?_
  refine lv_if_eq (tgt := 30) hx hb dX3_numberIn_18 (by decide) (fun c => absurd c (xB_ne (xIn_pl hk hn1))) (fun _ => ?_)
  refine lv_aload_n hx hb dX3_numberIn_21 rfl (lv_at hl 0 rfl) ?_
  refine lv_iload_n hx hb dX3_numberIn_22 rfl (lv_at hl 1 rfl) ?_
  refine lv_iload_n hx hb dX3_numberIn_23 rfl (lv_at hl 2 rfl) ?_
  refine xVR (q0 := 0) (ci := 3) (As := [.int (nI t), .int (nI k)]) (rest := []) (stk := [.int (xGt tg t k)]) ⟨hx, hb, hml, hown, hts⟩ (c_X3_goal γ l m0 m1 m2 m3 m4 n kc 0 td tg t k (by omega) (by omega)) (cwV 2 hts gX3_numberIn_X3_goal rfl rfl rfl hdv_X3_goal ⟨(Nat.le_of_ble_eq_true rfl), (Nat.le_of_ble_eq_true rfl)⟩) hK hP [0, 1] rfl rfl rfl rfl hl.1 rfl (Nat.le_of_ble_eq_true rfl) dX3_numberIn_24 ⟨(Nat.le_of_ble_eq_true rfl), (Nat.le_of_ble_eq_true rfl)⟩ rfl ?_
  refine lv_goto (tgt := 35) hx hb dX3_numberIn_27 (by decide) ?_
  subst hQ
  exact xM_i hx hb hr hlocks dX3_numberIn_35 hP rfl hS (Nat.le_of_ble_eq_true rfl) (Nat.le_of_ble_eq_true rfl) (⟨rfl, rfl⟩)

set_option maxHeartbeats 4000000 in
set_option maxRecDepth 100000 in
theorem c_X3_numberIn_x1 (γ : xG) (l : Launch) (m0 m1 m2 m3 m4 n kc : Nat) (th td : Int32) (x y : Int32) (hxb : xInB x 0 (nI kc - 1) = false)  : xM γ l yX3_numberIn wsX3_numberIn ({ frames := 2, cells := 0, slots := 0, locals := 43 } : Room) [.ref m0, .int x, .int y] ([xO m0 3 [.int th, .int (nI n), .int (nI kc), .int td, .ref m1, .ref m2, .ref m3, .ref m4]]) (fun r9 w9 => r9 = some (.int 0) ∧ w9 = [xO m0 3 [.int 1, .int (nI n), .int (nI kc), .int td, .ref m1, .ref m2, .ref m3, .ref m4]]) 0 0 := by
  refine xM.of (cc := cX3_numberIn) (maxL := 3) (ret := (some .int)) (by decide +kernel) rfl (Nat.le_of_ble_eq_true rfl) ?_
  intro p e s m below meth c hx hb hr hml hts hown hlocks hin hP hK A hA hD ls hl
  have hS : va_S A s.heap s.heap [] := va_S.rf
  generalize hargs : ([.ref m0, .int x, .int y] : List Value).toArray = args at hts ⊢
  obtain ⟨Q, hQ⟩ : ∃ Q9, Q9 = MQ below (xMQ γ (List.map Prod.fst ([xO m0 3 [.int th, .int (nI n), .int (nI kc), .int td, .ref m1, .ref m2, .ref m3, .ref m4]])) A (fun r9 w9 => r9 = some (.int 0) ∧ w9 = [xO m0 3 [.int 1, .int (nI n), .int (nI kc), .int td, .ref m1, .ref m2, .ref m3, .ref m4]])) args s 0 0 A := ⟨_, rfl⟩
  rw [← hQ]
  have hown : s.vm.findClass RX3 = some m.cls := hown
  have hl : lv_has ls 3 [(0, .ref m0), (1, .int x), (2, .int y)] := hl
  refine lv_aload_n hx hb dX3_numberIn_0 rfl (lv_at hl 0 rfl) ?_
  refine lv_iconst (v := 0) hx hb dX3_numberIn_1 (by decide) ?_
  refine va_put (D := γ.1) (ci := 3) (v := .int 0) (ty := .int) (C := RX3) (T := TX3) (N := 8) hx hb hts iwX3_numberIn_3 tyX3 tyX3_ok nmX3 hown hK hP hD hS 0 rfl rfl 0 (by decide) (hts _ flX3_numberIn_26) (fun _ h9 => h9) rfl (by decide +kernel) rfl rfl (Nat.le_of_ble_eq_true rfl) dX3_numberIn_2 (fun H locs hP hD hS => ?_)
  have hP : xP γ ([xO m0 3 [.int 0, .int (nI n), .int (nI kc), .int td, .ref m1, .ref m2, .ref m3, .ref m4]]) H := hP
  have hD : va_D A ([xO m0 3 [.int 0, .int (nI n), .int (nI kc), .int td, .ref m1, .ref m2, .ref m3, .ref m4]]) := hD
  refine lv_aload_n hx hb dX3_numberIn_5 rfl (lv_at hl 0 rfl) ?_
  refine lv_iload_n hx hb dX3_numberIn_6 rfl (lv_at hl 1 rfl) ?_
  refine xVR (q0 := 0) (ci := 3) (As := [.int x]) (rest := []) (stk := [.int (if xInB x 0 (nI kc - 1) = true then 1 else 0)]) ⟨hx, hb, hml, hown, hts⟩ (c_X3_isTarget γ l m0 m1 m2 m3 m4 n kc 0 td x) (cwV 1 hts gX3_numberIn_X3_isTarget rfl rfl rfl hdv_X3_isTarget ⟨(Nat.le_of_ble_eq_true rfl), (Nat.le_of_ble_eq_true rfl)⟩) hK hP [0] rfl rfl rfl rfl hl.1 rfl (Nat.le_of_ble_eq_true rfl) dX3_numberIn_7 ⟨(Nat.le_of_ble_eq_true rfl), (Nat.le_of_ble_eq_true rfl)⟩ rfl ?_
  refine lv_if_eq (tgt := 30) hx hb dX3_numberIn_10 (by decide) (fun _ => ?_) (fun c => absurd (xB_eq hxb) c)
  refine lv_aload_n hx hb dX3_numberIn_30 rfl (lv_at hl 0 rfl) ?_
  refine lv_iconst (v := 1) hx hb dX3_numberIn_31 (by decide) ?_
  refine xVM (q0 := 0) (ci := 3) (As := [.int 1]) (rest := []) ⟨hx, hb, hml, hown, hts⟩ (c_X3_no γ l m0 m1 m2 m3 m4 n kc 0 td 1) (cwV 1 hts gX3_numberIn_X3_no rfl rfl rfl hdv_X3_no ⟨(Nat.le_of_ble_eq_true rfl), (Nat.le_of_ble_eq_true rfl)⟩) hK hP hD hS hA [0] rfl rfl rfl rfl rfl hl.1 rfl (Nat.le_of_ble_eq_true rfl) dX3_numberIn_32 ⟨(Nat.le_of_ble_eq_true rfl), (Nat.le_of_ble_eq_true rfl)⟩ (fun r9 w9 H locs hw hP hD hS => ?_)
  obtain ⟨rfl, rfl⟩ := hw
  have hP : xP γ ([xO m0 3 [.int 1, .int (nI n), .int (nI kc), .int td, .ref m1, .ref m2, .ref m3, .ref m4]]) H := hP
  have hD : va_D A ([xO m0 3 [.int 1, .int (nI n), .int (nI kc), .int td, .ref m1, .ref m2, .ref m3, .ref m4]]) := hD
  refine W.eq (g2 := F0 m 35 ls [.int 0]) rfl ?_
  subst hQ
  exact xM_i hx hb hr hlocks dX3_numberIn_35 hP rfl hS (Nat.le_of_ble_eq_true rfl) (Nat.le_of_ble_eq_true rfl) (⟨rfl, rfl⟩)

set_option maxHeartbeats 4000000 in
set_option maxRecDepth 100000 in
theorem c_X3_numberIn_x2 (γ : xG) (l : Launch) (m0 m1 m2 m3 m4 n kc : Nat) (th td : Int32) (t : Nat) (x : Int32) (ht : t < kc) (hkc : kc ≤ 6) (hxb : xInB x 0 (nI n - 1) = false)  : xM γ l yX3_numberIn wsX3_numberIn ({ frames := 2, cells := 0, slots := 0, locals := 43 } : Room) [.ref m0, .int (nI t), .int x] ([xO m0 3 [.int th, .int (nI n), .int (nI kc), .int td, .ref m1, .ref m2, .ref m3, .ref m4]]) (fun r9 w9 => r9 = some (.int 0) ∧ w9 = [xO m0 3 [.int 1, .int (nI n), .int (nI kc), .int td, .ref m1, .ref m2, .ref m3, .ref m4]]) 0 0 := by
  refine xM.of (cc := cX3_numberIn) (maxL := 3) (ret := (some .int)) (by decide +kernel) rfl (Nat.le_of_ble_eq_true rfl) ?_
  intro p e s m below meth c hx hb hr hml hts hown hlocks hin hP hK A hA hD ls hl
  have hS : va_S A s.heap s.heap [] := va_S.rf
  generalize hargs : ([.ref m0, .int (nI t), .int x] : List Value).toArray = args at hts ⊢
  obtain ⟨Q, hQ⟩ : ∃ Q9, Q9 = MQ below (xMQ γ (List.map Prod.fst ([xO m0 3 [.int th, .int (nI n), .int (nI kc), .int td, .ref m1, .ref m2, .ref m3, .ref m4]])) A (fun r9 w9 => r9 = some (.int 0) ∧ w9 = [xO m0 3 [.int 1, .int (nI n), .int (nI kc), .int td, .ref m1, .ref m2, .ref m3, .ref m4]])) args s 0 0 A := ⟨_, rfl⟩
  rw [← hQ]
  have hown : s.vm.findClass RX3 = some m.cls := hown
  have hl : lv_has ls 3 [(0, .ref m0), (1, .int (nI t)), (2, .int x)] := hl
  refine lv_aload_n hx hb dX3_numberIn_0 rfl (lv_at hl 0 rfl) ?_
  refine lv_iconst (v := 0) hx hb dX3_numberIn_1 (by decide) ?_
  refine va_put (D := γ.1) (ci := 3) (v := .int 0) (ty := .int) (C := RX3) (T := TX3) (N := 8) hx hb hts iwX3_numberIn_3 tyX3 tyX3_ok nmX3 hown hK hP hD hS 0 rfl rfl 0 (by decide) (hts _ flX3_numberIn_26) (fun _ h9 => h9) rfl (by decide +kernel) rfl rfl (Nat.le_of_ble_eq_true rfl) dX3_numberIn_2 (fun H locs hP hD hS => ?_)
  have hP : xP γ ([xO m0 3 [.int 0, .int (nI n), .int (nI kc), .int td, .ref m1, .ref m2, .ref m3, .ref m4]]) H := hP
  have hD : va_D A ([xO m0 3 [.int 0, .int (nI n), .int (nI kc), .int td, .ref m1, .ref m2, .ref m3, .ref m4]]) := hD
  refine lv_aload_n hx hb dX3_numberIn_5 rfl (lv_at hl 0 rfl) ?_
  refine lv_iload_n hx hb dX3_numberIn_6 rfl (lv_at hl 1 rfl) ?_
  refine xVR (q0 := 0) (ci := 3) (As := [.int (nI t)]) (rest := []) (stk := [.int (if xInB (nI t) 0 (nI kc - 1) = true then 1 else 0)]) ⟨hx, hb, hml, hown, hts⟩ (c_X3_isTarget γ l m0 m1 m2 m3 m4 n kc 0 td (nI t)) (cwV 1 hts gX3_numberIn_X3_isTarget rfl rfl rfl hdv_X3_isTarget ⟨(Nat.le_of_ble_eq_true rfl), (Nat.le_of_ble_eq_true rfl)⟩) hK hP [0] rfl rfl rfl rfl hl.1 rfl (Nat.le_of_ble_eq_true rfl) dX3_numberIn_7 ⟨(Nat.le_of_ble_eq_true rfl), (Nat.le_of_ble_eq_true rfl)⟩ rfl ?_
  refine lv_if_eq (tgt := 30) hx hb dX3_numberIn_10 (by decide) (fun c => absurd c (xB_ne (xIn_pl ht (by omega)))) (fun _ => ?_)
  refine lv_aload_n hx hb dX3_numberIn_13 rfl (lv_at hl 0 rfl) ?_
  refine lv_iload_n hx hb dX3_numberIn_14 rfl (lv_at hl 2 rfl) ?_
  refine xVR (q0 := 0) (ci := 3) (As := [.int x]) (rest := []) (stk := [.int (if xInB x 0 (nI n - 1) = true then 1 else 0)]) ⟨hx, hb, hml, hown, hts⟩ (c_X3_isPlace γ l m0 m1 m2 m3 m4 n kc 0 td x) (cwV 1 hts gX3_numberIn_X3_isPlace rfl rfl rfl hdv_X3_isPlace ⟨(Nat.le_of_ble_eq_true rfl), (Nat.le_of_ble_eq_true rfl)⟩) hK hP [0] rfl rfl rfl rfl hl.1 rfl (Nat.le_of_ble_eq_true rfl) dX3_numberIn_15 ⟨(Nat.le_of_ble_eq_true rfl), (Nat.le_of_ble_eq_true rfl)⟩ rfl ?_
  refine lv_if_eq (tgt := 30) hx hb dX3_numberIn_18 (by decide) (fun _ => ?_) (fun c => absurd (xB_eq hxb) c)
  refine lv_aload_n hx hb dX3_numberIn_30 rfl (lv_at hl 0 rfl) ?_
  refine lv_iconst (v := 1) hx hb dX3_numberIn_31 (by decide) ?_
  refine xVM (q0 := 0) (ci := 3) (As := [.int 1]) (rest := []) ⟨hx, hb, hml, hown, hts⟩ (c_X3_no γ l m0 m1 m2 m3 m4 n kc 0 td 1) (cwV 1 hts gX3_numberIn_X3_no rfl rfl rfl hdv_X3_no ⟨(Nat.le_of_ble_eq_true rfl), (Nat.le_of_ble_eq_true rfl)⟩) hK hP hD hS hA [0] rfl rfl rfl rfl rfl hl.1 rfl (Nat.le_of_ble_eq_true rfl) dX3_numberIn_32 ⟨(Nat.le_of_ble_eq_true rfl), (Nat.le_of_ble_eq_true rfl)⟩ (fun r9 w9 H locs hw hP hD hS => ?_)
  obtain ⟨rfl, rfl⟩ := hw
  have hP : xP γ ([xO m0 3 [.int 1, .int (nI n), .int (nI kc), .int td, .ref m1, .ref m2, .ref m3, .ref m4]]) H := hP
  have hD : va_D A ([xO m0 3 [.int 1, .int (nI n), .int (nI kc), .int td, .ref m1, .ref m2, .ref m3, .ref m4]]) := hD
  refine W.eq (g2 := F0 m 35 ls [.int 0]) rfl ?_
  subst hQ
  exact xM_i hx hb hr hlocks dX3_numberIn_35 hP rfl hS (Nat.le_of_ble_eq_true rfl) (Nat.le_of_ble_eq_true rfl) (⟨rfl, rfl⟩)

theorem hdv_X3_others : yX3_others.cls = RX3 ∧ yX3_others.cls ≠ "java/lang/invoke/MethodHandle" ∧ yX3_others.cls ≠ "java/lang/invoke/VarHandle" ∧ (parseMethodDescriptor yX3_others.desc).map (fun d => d.parameters.length) = some 1 := by decide +kernel
theorem flX3_differences_26 : Cond.fieldLink RX3 26 "RingSeesawModel" "thrown" "I" ∈ wsX3_differences := by decide +kernel
theorem iwX3_differences_3 : ∀ w ∈ wsX30, w ∈ wsX3_differences := by decide +kernel
set_option maxHeartbeats 4000000 in
set_option maxRecDepth 100000 in
theorem c_X3_differences (γ : xG) (l : Launch) (m0 m1 m2 m3 m4 n kc : Nat) (th td : Int32) (f tg : xRow) (t : Nat) (hn0 : 3 ≤ n) (hn1 : n ≤ 12) (ht : t < kc) (hkc : kc ≤ 6) : xM γ l yX3_differences wsX3_differences ({ frames := 2, cells := 0, slots := 0, locals := 45 } : Room) [.ref m0, .int (nI t)] ([xO m0 3 [.int th, .int (nI n), .int (nI kc), .int td, .ref m1, .ref m2, .ref m3, .ref m4], xA γ m1 12 f, xA γ m3 72 tg]) (fun r9 w9 => r9 = some (.int (nI (xCnt (xNe f (xGt tg t)) n))) ∧ w9 = [xO m0 3 [.int 0, .int (nI n), .int (nI kc), .int td, .ref m1, .ref m2, .ref m3, .ref m4], xA γ m1 12 f, xA γ m3 72 tg]) 0 0 := by
  refine xM.of (cc := cX3_differences) (maxL := 2) (ret := (some .int)) (by decide +kernel) rfl (Nat.le_of_ble_eq_true rfl) ?_
  intro p e s m below meth c hx hb hr hml hts hown hlocks hin hP hK A hA hD ls hl
  have hS : va_S A s.heap s.heap [] := va_S.rf
  generalize hargs : ([.ref m0, .int (nI t)] : List Value).toArray = args at hts ⊢
  obtain ⟨Q, hQ⟩ : ∃ Q9, Q9 = MQ below (xMQ γ (List.map Prod.fst ([xO m0 3 [.int th, .int (nI n), .int (nI kc), .int td, .ref m1, .ref m2, .ref m3, .ref m4], xA γ m1 12 f, xA γ m3 72 tg])) A (fun r9 w9 => r9 = some (.int (nI (xCnt (xNe f (xGt tg t)) n))) ∧ w9 = [xO m0 3 [.int 0, .int (nI n), .int (nI kc), .int td, .ref m1, .ref m2, .ref m3, .ref m4], xA γ m1 12 f, xA γ m3 72 tg])) args s 0 0 A := ⟨_, rfl⟩
  rw [← hQ]
  have hown : s.vm.findClass RX3 = some m.cls := hown
  have hl : lv_has ls 2 [(0, .ref m0), (1, .int (nI t))] := hl
  refine lv_aload_n hx hb dX3_differences_0 rfl (lv_at hl 0 rfl) ?_
  refine lv_iconst (v := 0) hx hb dX3_differences_1 (by decide) ?_
  refine va_put (D := γ.1) (ci := 3) (v := .int 0) (ty := .int) (C := RX3) (T := TX3) (N := 8) hx hb hts iwX3_differences_3 tyX3 tyX3_ok nmX3 hown hK hP hD hS 0 rfl rfl 0 (by decide) (hts _ flX3_differences_26) (fun _ h9 => h9) rfl (by decide +kernel) rfl rfl (Nat.le_of_ble_eq_true rfl) dX3_differences_2 (fun H locs hP hD hS => ?_)
  have hP : xP γ ([xO m0 3 [.int 0, .int (nI n), .int (nI kc), .int td, .ref m1, .ref m2, .ref m3, .ref m4], xA γ m1 12 f, xA γ m3 72 tg]) H := hP
  have hD : va_D A ([xO m0 3 [.int 0, .int (nI n), .int (nI kc), .int td, .ref m1, .ref m2, .ref m3, .ref m4], xA γ m1 12 f, xA γ m3 72 tg]) := hD
  refine lv_aload_n hx hb dX3_differences_5 rfl (lv_at hl 0 rfl) ?_
  refine lv_iload_n hx hb dX3_differences_6 rfl (lv_at hl 1 rfl) ?_
  refine xVR (q0 := 0) (ci := 3) (As := [.int (nI t)]) (rest := []) (stk := [.int (if xInB (nI t) 0 (nI kc - 1) = true then 1 else 0)]) ⟨hx, hb, hml, hown, hts⟩ (c_X3_isTarget γ l m0 m1 m2 m3 m4 n kc 0 td (nI t)) (cwV 1 hts gX3_differences_X3_isTarget rfl rfl rfl hdv_X3_isTarget ⟨(Nat.le_of_ble_eq_true rfl), (Nat.le_of_ble_eq_true rfl)⟩) hK hP [0] rfl rfl rfl rfl hl.1 rfl (Nat.le_of_ble_eq_true rfl) dX3_differences_7 ⟨(Nat.le_of_ble_eq_true rfl), (Nat.le_of_ble_eq_true rfl)⟩ rfl ?_
  refine lv_if_eq (tgt := 21) hx hb dX3_differences_10 (by decide) (fun c => absurd c (xB_ne (xIn_pl ht (by omega)))) (fun _ => ?_)
  refine lv_aload_n hx hb dX3_differences_13 rfl (lv_at hl 0 rfl) ?_
  refine lv_iload_n hx hb dX3_differences_14 rfl (lv_at hl 1 rfl) ?_
  refine xVR (q0 := 0) (ci := 3) (As := [.int (nI t)]) (rest := []) (stk := [.int (nI (xCnt (xNe f (xGt tg t)) n))]) ⟨hx, hb, hml, hown, hts⟩ (c_X3_others γ l m0 m1 m2 m3 m4 n kc 0 td f tg t (by omega) (by omega) (by omega)) (cwV 1 hts gX3_differences_X3_others rfl rfl rfl hdv_X3_others ⟨(Nat.le_of_ble_eq_true rfl), (Nat.le_of_ble_eq_true rfl)⟩) hK hP [0, 1, 2] rfl rfl rfl rfl hl.1 rfl (Nat.le_of_ble_eq_true rfl) dX3_differences_15 ⟨(Nat.le_of_ble_eq_true rfl), (Nat.le_of_ble_eq_true rfl)⟩ rfl ?_
  refine lv_goto (tgt := 26) hx hb dX3_differences_18 (by decide) ?_
  subst hQ
  exact xM_i hx hb hr hlocks dX3_differences_26 hP rfl hS (Nat.le_of_ble_eq_true rfl) (Nat.le_of_ble_eq_true rfl) (⟨rfl, rfl⟩)

set_option maxHeartbeats 4000000 in
set_option maxRecDepth 100000 in
theorem c_X3_differences_x (γ : xG) (l : Launch) (m0 m1 m2 m3 m4 n kc : Nat) (th td : Int32) (x : Int32) (hxb : xInB x 0 (nI kc - 1) = false)  : xM γ l yX3_differences wsX3_differences ({ frames := 2, cells := 0, slots := 0, locals := 43 } : Room) [.ref m0, .int x] ([xO m0 3 [.int th, .int (nI n), .int (nI kc), .int td, .ref m1, .ref m2, .ref m3, .ref m4]]) (fun r9 w9 => r9 = some (.int 0) ∧ w9 = [xO m0 3 [.int 1, .int (nI n), .int (nI kc), .int td, .ref m1, .ref m2, .ref m3, .ref m4]]) 0 0 := by
  refine xM.of (cc := cX3_differences) (maxL := 2) (ret := (some .int)) (by decide +kernel) rfl (Nat.le_of_ble_eq_true rfl) ?_
  intro p e s m below meth c hx hb hr hml hts hown hlocks hin hP hK A hA hD ls hl
  have hS : va_S A s.heap s.heap [] := va_S.rf
  generalize hargs : ([.ref m0, .int x] : List Value).toArray = args at hts ⊢
  obtain ⟨Q, hQ⟩ : ∃ Q9, Q9 = MQ below (xMQ γ (List.map Prod.fst ([xO m0 3 [.int th, .int (nI n), .int (nI kc), .int td, .ref m1, .ref m2, .ref m3, .ref m4]])) A (fun r9 w9 => r9 = some (.int 0) ∧ w9 = [xO m0 3 [.int 1, .int (nI n), .int (nI kc), .int td, .ref m1, .ref m2, .ref m3, .ref m4]])) args s 0 0 A := ⟨_, rfl⟩
  rw [← hQ]
  have hown : s.vm.findClass RX3 = some m.cls := hown
  have hl : lv_has ls 2 [(0, .ref m0), (1, .int x)] := hl
  refine lv_aload_n hx hb dX3_differences_0 rfl (lv_at hl 0 rfl) ?_
  refine lv_iconst (v := 0) hx hb dX3_differences_1 (by decide) ?_
  refine va_put (D := γ.1) (ci := 3) (v := .int 0) (ty := .int) (C := RX3) (T := TX3) (N := 8) hx hb hts iwX3_differences_3 tyX3 tyX3_ok nmX3 hown hK hP hD hS 0 rfl rfl 0 (by decide) (hts _ flX3_differences_26) (fun _ h9 => h9) rfl (by decide +kernel) rfl rfl (Nat.le_of_ble_eq_true rfl) dX3_differences_2 (fun H locs hP hD hS => ?_)
  have hP : xP γ ([xO m0 3 [.int 0, .int (nI n), .int (nI kc), .int td, .ref m1, .ref m2, .ref m3, .ref m4]]) H := hP
  have hD : va_D A ([xO m0 3 [.int 0, .int (nI n), .int (nI kc), .int td, .ref m1, .ref m2, .ref m3, .ref m4]]) := hD
  refine lv_aload_n hx hb dX3_differences_5 rfl (lv_at hl 0 rfl) ?_
  refine lv_iload_n hx hb dX3_differences_6 rfl (lv_at hl 1 rfl) ?_
  refine xVR (q0 := 0) (ci := 3) (As := [.int x]) (rest := []) (stk := [.int (if xInB x 0 (nI kc - 1) = true then 1 else 0)]) ⟨hx, hb, hml, hown, hts⟩ (c_X3_isTarget γ l m0 m1 m2 m3 m4 n kc 0 td x) (cwV 1 hts gX3_differences_X3_isTarget rfl rfl rfl hdv_X3_isTarget ⟨(Nat.le_of_ble_eq_true rfl), (Nat.le_of_ble_eq_true rfl)⟩) hK hP [0] rfl rfl rfl rfl hl.1 rfl (Nat.le_of_ble_eq_true rfl) dX3_differences_7 ⟨(Nat.le_of_ble_eq_true rfl), (Nat.le_of_ble_eq_true rfl)⟩ rfl ?_
  refine lv_if_eq (tgt := 21) hx hb dX3_differences_10 (by decide) (fun _ => ?_) (fun c => absurd (xB_eq hxb) c)
  refine lv_aload_n hx hb dX3_differences_21 rfl (lv_at hl 0 rfl) ?_
  refine lv_iconst (v := 1) hx hb dX3_differences_22 (by decide) ?_
  refine xVM (q0 := 0) (ci := 3) (As := [.int 1]) (rest := []) ⟨hx, hb, hml, hown, hts⟩ (c_X3_no γ l m0 m1 m2 m3 m4 n kc 0 td 1) (cwV 1 hts gX3_differences_X3_no rfl rfl rfl hdv_X3_no ⟨(Nat.le_of_ble_eq_true rfl), (Nat.le_of_ble_eq_true rfl)⟩) hK hP hD hS hA [0] rfl rfl rfl rfl rfl hl.1 rfl (Nat.le_of_ble_eq_true rfl) dX3_differences_23 ⟨(Nat.le_of_ble_eq_true rfl), (Nat.le_of_ble_eq_true rfl)⟩ (fun r9 w9 H locs hw hP hD hS => ?_)
  obtain ⟨rfl, rfl⟩ := hw
  have hP : xP γ ([xO m0 3 [.int 1, .int (nI n), .int (nI kc), .int td, .ref m1, .ref m2, .ref m3, .ref m4]]) H := hP
  have hD : va_D A ([xO m0 3 [.int 1, .int (nI n), .int (nI kc), .int td, .ref m1, .ref m2, .ref m3, .ref m4]]) := hD
  refine W.eq (g2 := F0 m 26 ls [.int 0]) rfl ?_
  subst hQ
  exact xM_i hx hb hr hlocks dX3_differences_26 hP rfl hS (Nat.le_of_ble_eq_true rfl) (Nat.le_of_ble_eq_true rfl) (⟨rfl, rfl⟩)

theorem flX3_canReach_26 : Cond.fieldLink RX3 26 "RingSeesawModel" "thrown" "I" ∈ wsX3_canReach := by decide +kernel
theorem iwX3_canReach_3 : ∀ w ∈ wsX30, w ∈ wsX3_canReach := by decide +kernel
set_option maxHeartbeats 4000000 in
set_option maxRecDepth 100000 in
theorem c_X3_canReach (γ : xG) (l : Launch) (m0 m1 m2 m3 m4 n kc : Nat) (th td : Int32) (f tg tp : xRow) (t : Nat) (hn0 : 3 ≤ n) (hn1 : n ≤ 12) (ht : t < kc) (hkc : kc ≤ 6) : xM γ l yX3_canReach wsX3_canReach ({ frames := 3, cells := 0, slots := 0, locals := 68 } : Room) [.ref m0, .int (nI t)] ([xO m0 3 [.int th, .int (nI n), .int (nI kc), .int td, .ref m1, .ref m2, .ref m3, .ref m4], xA γ m1 12 f, xA γ m3 72 tg, xA γ m4 14 tp]) (fun r9 w9 => r9 = some (.int (if xSv n f (xGt tg t) = true then 1 else 0)) ∧ ∃ h9 : xRow, w9 = [xO m0 3 [.int 0, .int (nI n), .int (nI kc), .int td, .ref m1, .ref m2, .ref m3, .ref m4], xA γ m1 12 f, xA γ m3 72 tg, xA γ m4 14 h9]) 0 0 := by
  refine xM.of (cc := cX3_canReach) (maxL := 2) (ret := (some .boolean)) (by decide +kernel) rfl (Nat.le_of_ble_eq_true rfl) ?_
  intro p e s m below meth c hx hb hr hml hts hown hlocks hin hP hK A hA hD ls hl
  have hS : va_S A s.heap s.heap [] := va_S.rf
  generalize hargs : ([.ref m0, .int (nI t)] : List Value).toArray = args at hts ⊢
  obtain ⟨Q, hQ⟩ : ∃ Q9, Q9 = MQ below (xMQ γ (List.map Prod.fst ([xO m0 3 [.int th, .int (nI n), .int (nI kc), .int td, .ref m1, .ref m2, .ref m3, .ref m4], xA γ m1 12 f, xA γ m3 72 tg, xA γ m4 14 tp])) A (fun r9 w9 => r9 = some (.int (if xSv n f (xGt tg t) = true then 1 else 0)) ∧ ∃ h9 : xRow, w9 = [xO m0 3 [.int 0, .int (nI n), .int (nI kc), .int td, .ref m1, .ref m2, .ref m3, .ref m4], xA γ m1 12 f, xA γ m3 72 tg, xA γ m4 14 h9])) args s 0 0 A := ⟨_, rfl⟩
  rw [← hQ]
  have hown : s.vm.findClass RX3 = some m.cls := hown
  have hl : lv_has ls 2 [(0, .ref m0), (1, .int (nI t))] := hl
  refine lv_aload_n hx hb dX3_canReach_0 rfl (lv_at hl 0 rfl) ?_
  refine lv_iload_n hx hb dX3_canReach_1 rfl (lv_at hl 1 rfl) ?_
  refine xVR (q0 := 0) (ci := 3) (As := [.int (nI t)]) (rest := []) (stk := [.int (if xInB (nI t) 0 (nI kc - 1) = true then 1 else 0)]) ⟨hx, hb, hml, hown, hts⟩ (c_X3_isTarget γ l m0 m1 m2 m3 m4 n kc th td (nI t)) (cwV 1 hts gX3_canReach_X3_isTarget rfl rfl rfl hdv_X3_isTarget ⟨(Nat.le_of_ble_eq_true rfl), (Nat.le_of_ble_eq_true rfl)⟩) hK hP [0] rfl rfl rfl rfl hl.1 rfl (Nat.le_of_ble_eq_true rfl) dX3_canReach_2 ⟨(Nat.le_of_ble_eq_true rfl), (Nat.le_of_ble_eq_true rfl)⟩ rfl ?_
  refine lv_if_ne (tgt := 14) hx hb dX3_canReach_5 (by decide) (fun _ => ?_) (fun c => absurd c (xB_ne (xIn_pl ht (by omega))))
  refine lv_aload_n hx hb dX3_canReach_14 rfl (lv_at hl 0 rfl) ?_
  refine lv_iconst (v := 0) hx hb dX3_canReach_15 (by decide) ?_
  refine va_put (D := γ.1) (ci := 3) (v := .int 0) (ty := .int) (C := RX3) (T := TX3) (N := 8) hx hb hts iwX3_canReach_3 tyX3 tyX3_ok nmX3 hown hK hP hD hS 0 rfl rfl 0 (by decide) (hts _ flX3_canReach_26) (fun _ h9 => h9) rfl (by decide +kernel) rfl rfl (Nat.le_of_ble_eq_true rfl) dX3_canReach_16 (fun H locs hP hD hS => ?_)
  have hP : xP γ ([xO m0 3 [.int 0, .int (nI n), .int (nI kc), .int td, .ref m1, .ref m2, .ref m3, .ref m4], xA γ m1 12 f, xA γ m3 72 tg, xA γ m4 14 tp]) H := hP
  have hD : va_D A ([xO m0 3 [.int 0, .int (nI n), .int (nI kc), .int td, .ref m1, .ref m2, .ref m3, .ref m4], xA γ m1 12 f, xA γ m3 72 tg, xA γ m4 14 tp]) := hD
  refine lv_aload_n hx hb dX3_canReach_19 rfl (lv_at hl 0 rfl) ?_
  refine lv_iload_n hx hb dX3_canReach_20 rfl (lv_at hl 1 rfl) ?_
  refine xVM (q0 := 0) (ci := 3) (As := [.int (nI t)]) (rest := []) ⟨hx, hb, hml, hown, hts⟩ (c_X3_solves γ l m0 m1 m2 m3 m4 n kc 0 td f tg tp t (by omega) (by omega) (by omega)) (cwV 1 hts gX3_canReach_X3_solves rfl rfl rfl hdv_X3_solves ⟨(Nat.le_of_ble_eq_true rfl), (Nat.le_of_ble_eq_true rfl)⟩) hK hP hD hS hA [0, 1, 2, 3] rfl rfl rfl rfl rfl hl.1 rfl (Nat.le_of_ble_eq_true rfl) dX3_canReach_21 ⟨(Nat.le_of_ble_eq_true rfl), (Nat.le_of_ble_eq_true rfl)⟩ (fun r9 w9 H locs hw hP hD hS => ?_)
  obtain ⟨rfl, h68x, eh68x, rfl⟩ := hw
  have hP : xP γ ([xO m0 3 [.int 0, .int (nI n), .int (nI kc), .int td, .ref m1, .ref m2, .ref m3, .ref m4], xA γ m1 12 f, xA γ m3 72 tg, xA γ m4 14 h68x]) H := hP
  have hD : va_D A ([xO m0 3 [.int 0, .int (nI n), .int (nI kc), .int td, .ref m1, .ref m2, .ref m3, .ref m4], xA γ m1 12 f, xA γ m3 72 tg, xA γ m4 14 h68x]) := hD
  refine W.eq (g2 := F0 m 24 ls [.int (if xSv n f (xGt tg t) = true then 1 else 0)]) rfl ?_
  subst hQ
  exact xM_z hx hb hr hlocks dX3_canReach_24 (xB_z _) hP rfl hS (Nat.le_of_ble_eq_true rfl) (Nat.le_of_ble_eq_true rfl) (⟨rfl, _, rfl⟩)

set_option maxHeartbeats 4000000 in
set_option maxRecDepth 100000 in
theorem c_X3_canReach_x (γ : xG) (l : Launch) (m0 m1 m2 m3 m4 n kc : Nat) (th td : Int32) (x : Int32) (hxb : xInB x 0 (nI kc - 1) = false)  : xM γ l yX3_canReach wsX3_canReach ({ frames := 2, cells := 0, slots := 0, locals := 43 } : Room) [.ref m0, .int x] ([xO m0 3 [.int th, .int (nI n), .int (nI kc), .int td, .ref m1, .ref m2, .ref m3, .ref m4]]) (fun r9 w9 => r9 = some (.int 0) ∧ w9 = [xO m0 3 [.int 1, .int (nI n), .int (nI kc), .int td, .ref m1, .ref m2, .ref m3, .ref m4]]) 0 0 := by
  refine xM.of (cc := cX3_canReach) (maxL := 2) (ret := (some .boolean)) (by decide +kernel) rfl (Nat.le_of_ble_eq_true rfl) ?_
  intro p e s m below meth c hx hb hr hml hts hown hlocks hin hP hK A hA hD ls hl
  have hS : va_S A s.heap s.heap [] := va_S.rf
  generalize hargs : ([.ref m0, .int x] : List Value).toArray = args at hts ⊢
  obtain ⟨Q, hQ⟩ : ∃ Q9, Q9 = MQ below (xMQ γ (List.map Prod.fst ([xO m0 3 [.int th, .int (nI n), .int (nI kc), .int td, .ref m1, .ref m2, .ref m3, .ref m4]])) A (fun r9 w9 => r9 = some (.int 0) ∧ w9 = [xO m0 3 [.int 1, .int (nI n), .int (nI kc), .int td, .ref m1, .ref m2, .ref m3, .ref m4]])) args s 0 0 A := ⟨_, rfl⟩
  rw [← hQ]
  have hown : s.vm.findClass RX3 = some m.cls := hown
  have hl : lv_has ls 2 [(0, .ref m0), (1, .int x)] := hl
  refine lv_aload_n hx hb dX3_canReach_0 rfl (lv_at hl 0 rfl) ?_
  refine lv_iload_n hx hb dX3_canReach_1 rfl (lv_at hl 1 rfl) ?_
  refine xVR (q0 := 0) (ci := 3) (As := [.int x]) (rest := []) (stk := [.int (if xInB x 0 (nI kc - 1) = true then 1 else 0)]) ⟨hx, hb, hml, hown, hts⟩ (c_X3_isTarget γ l m0 m1 m2 m3 m4 n kc th td x) (cwV 1 hts gX3_canReach_X3_isTarget rfl rfl rfl hdv_X3_isTarget ⟨(Nat.le_of_ble_eq_true rfl), (Nat.le_of_ble_eq_true rfl)⟩) hK hP [0] rfl rfl rfl rfl hl.1 rfl (Nat.le_of_ble_eq_true rfl) dX3_canReach_2 ⟨(Nat.le_of_ble_eq_true rfl), (Nat.le_of_ble_eq_true rfl)⟩ rfl ?_
  refine lv_if_ne (tgt := 14) hx hb dX3_canReach_5 (by decide) (fun c => absurd (xB_eq hxb) c) (fun _ => ?_)
  refine lv_aload_n hx hb dX3_canReach_8 rfl (lv_at hl 0 rfl) ?_
  refine lv_iconst (v := 1) hx hb dX3_canReach_9 (by decide) ?_
  refine xVM (q0 := 0) (ci := 3) (As := [.int 1]) (rest := []) ⟨hx, hb, hml, hown, hts⟩ (c_X3_isNot γ l m0 m1 m2 m3 m4 n kc th td 1) (cwV 1 hts gX3_canReach_X3_isNot rfl rfl rfl hdv_X3_isNot ⟨(Nat.le_of_ble_eq_true rfl), (Nat.le_of_ble_eq_true rfl)⟩) hK hP hD hS hA [0] rfl rfl rfl rfl rfl hl.1 rfl (Nat.le_of_ble_eq_true rfl) dX3_canReach_10 ⟨(Nat.le_of_ble_eq_true rfl), (Nat.le_of_ble_eq_true rfl)⟩ (fun r9 w9 H locs hw hP hD hS => ?_)
  obtain ⟨rfl, rfl⟩ := hw
  have hP : xP γ ([xO m0 3 [.int 1, .int (nI n), .int (nI kc), .int td, .ref m1, .ref m2, .ref m3, .ref m4]]) H := hP
  have hD : va_D A ([xO m0 3 [.int 1, .int (nI n), .int (nI kc), .int td, .ref m1, .ref m2, .ref m3, .ref m4]]) := hD
  refine W.eq (g2 := F0 m 13 ls [.int 0]) rfl ?_
  subst hQ
  exact xM_z hx hb hr hlocks dX3_canReach_13 (Or.inl rfl) hP rfl hS (Nat.le_of_ble_eq_true rfl) (Nat.le_of_ble_eq_true rfl) (⟨rfl, rfl⟩)

theorem flX3_tipsTo_26 : Cond.fieldLink RX3 26 "RingSeesawModel" "thrown" "I" ∈ wsX3_tipsTo := by decide +kernel
theorem iwX3_tipsTo_3 : ∀ w ∈ wsX30, w ∈ wsX3_tipsTo := by decide +kernel
theorem flX3_tipsTo_23 : Cond.fieldLink RX3 23 "RingSeesawModel" "tip" "[I" ∈ wsX3_tipsTo := by decide +kernel
set_option maxHeartbeats 4000000 in
set_option maxRecDepth 100000 in
theorem c_X3_tipsTo (γ : xG) (l : Launch) (m0 m1 m2 m3 m4 n kc : Nat) (th td : Int32) (f tg tp : xRow) (t k : Nat) (hn0 : 3 ≤ n) (hn1 : n ≤ 12) (ht : t < kc) (hkc : kc ≤ 6) (hk : k < n) (hs : xSv n f (xGt tg t) = true) : xM γ l yX3_tipsTo wsX3_tipsTo ({ frames := 3, cells := 0, slots := 0, locals := 68 } : Room) [.ref m0, .int (nI t), .int (nI k)] ([xO m0 3 [.int th, .int (nI n), .int (nI kc), .int td, .ref m1, .ref m2, .ref m3, .ref m4], xA γ m1 12 f, xA γ m3 72 tg, xA γ m4 14 tp]) (fun r9 w9 => r9 = some (.int (xAr n f (xGt tg t) (xFst1 n f (xGt tg t)) k)) ∧ ∃ h9 : xRow, w9 = [xO m0 3 [.int 0, .int (nI n), .int (nI kc), .int td, .ref m1, .ref m2, .ref m3, .ref m4], xA γ m1 12 f, xA γ m3 72 tg, xA γ m4 14 h9]) 0 0 := by
  refine xM.of (cc := cX3_tipsTo) (maxL := 3) (ret := (some .int)) (by decide +kernel) rfl (Nat.le_of_ble_eq_true rfl) ?_
  intro p e s m below meth c hx hb hr hml hts hown hlocks hin hP hK A hA hD ls hl
  have hS : va_S A s.heap s.heap [] := va_S.rf
  generalize hargs : ([.ref m0, .int (nI t), .int (nI k)] : List Value).toArray = args at hts ⊢
  obtain ⟨Q, hQ⟩ : ∃ Q9, Q9 = MQ below (xMQ γ (List.map Prod.fst ([xO m0 3 [.int th, .int (nI n), .int (nI kc), .int td, .ref m1, .ref m2, .ref m3, .ref m4], xA γ m1 12 f, xA γ m3 72 tg, xA γ m4 14 tp])) A (fun r9 w9 => r9 = some (.int (xAr n f (xGt tg t) (xFst1 n f (xGt tg t)) k)) ∧ ∃ h9 : xRow, w9 = [xO m0 3 [.int 0, .int (nI n), .int (nI kc), .int td, .ref m1, .ref m2, .ref m3, .ref m4], xA γ m1 12 f, xA γ m3 72 tg, xA γ m4 14 h9])) args s 0 0 A := ⟨_, rfl⟩
  rw [← hQ]
  have hown : s.vm.findClass RX3 = some m.cls := hown
  have hl : lv_has ls 3 [(0, .ref m0), (1, .int (nI t)), (2, .int (nI k))] := hl
  refine lv_aload_n hx hb dX3_tipsTo_0 rfl (lv_at hl 0 rfl) ?_
  refine lv_iconst (v := 0) hx hb dX3_tipsTo_1 (by decide) ?_
  refine va_put (D := γ.1) (ci := 3) (v := .int 0) (ty := .int) (C := RX3) (T := TX3) (N := 8) hx hb hts iwX3_tipsTo_3 tyX3 tyX3_ok nmX3 hown hK hP hD hS 0 rfl rfl 0 (by decide) (hts _ flX3_tipsTo_26) (fun _ h9 => h9) rfl (by decide +kernel) rfl rfl (Nat.le_of_ble_eq_true rfl) dX3_tipsTo_2 (fun H locs hP hD hS => ?_)
  have hP : xP γ ([xO m0 3 [.int 0, .int (nI n), .int (nI kc), .int td, .ref m1, .ref m2, .ref m3, .ref m4], xA γ m1 12 f, xA γ m3 72 tg, xA γ m4 14 tp]) H := hP
  have hD : va_D A ([xO m0 3 [.int 0, .int (nI n), .int (nI kc), .int td, .ref m1, .ref m2, .ref m3, .ref m4], xA γ m1 12 f, xA γ m3 72 tg, xA γ m4 14 tp]) := hD
  refine lv_aload_n hx hb dX3_tipsTo_5 rfl (lv_at hl 0 rfl) ?_
  refine lv_iload_n hx hb dX3_tipsTo_6 rfl (lv_at hl 1 rfl) ?_
  refine xVR (q0 := 0) (ci := 3) (As := [.int (nI t)]) (rest := []) (stk := [.int (if xInB (nI t) 0 (nI kc - 1) = true then 1 else 0)]) ⟨hx, hb, hml, hown, hts⟩ (c_X3_isTarget γ l m0 m1 m2 m3 m4 n kc 0 td (nI t)) (cwV 1 hts gX3_tipsTo_X3_isTarget rfl rfl rfl hdv_X3_isTarget ⟨(Nat.le_of_ble_eq_true rfl), (Nat.le_of_ble_eq_true rfl)⟩) hK hP [0] rfl rfl rfl rfl hl.1 rfl (Nat.le_of_ble_eq_true rfl) dX3_tipsTo_7 ⟨(Nat.le_of_ble_eq_true rfl), (Nat.le_of_ble_eq_true rfl)⟩ rfl ?_
  refine lv_if_eq (tgt := 21) hx hb dX3_tipsTo_10 (by decide) (fun c => absurd c (xB_ne (xIn_pl ht (by omega)))) (fun _ => ?_)
  refine lv_aload_n hx hb dX3_tipsTo_13 rfl (lv_at hl 0 rfl) ?_
  refine lv_iload_n hx hb dX3_tipsTo_14 rfl (lv_at hl 2 rfl) ?_
  refine xVR (q0 := 0) (ci := 3) (As := [.int (nI k)]) (rest := []) (stk := [.int (if xInB (nI k) 0 (nI n - 1) = true then 1 else 0)]) ⟨hx, hb, hml, hown, hts⟩ (c_X3_isPlace γ l m0 m1 m2 m3 m4 n kc 0 td (nI k)) (cwV 1 hts gX3_tipsTo_X3_isPlace rfl rfl rfl hdv_X3_isPlace ⟨(Nat.le_of_ble_eq_true rfl), (Nat.le_of_ble_eq_true rfl)⟩) hK hP [0] rfl rfl rfl rfl hl.1 rfl (Nat.le_of_ble_eq_true rfl) dX3_tipsTo_15 ⟨(Nat.le_of_ble_eq_true rfl), (Nat.le_of_ble_eq_true rfl)⟩ rfl ?_
  refine lv_if_ne (tgt := 27) hx hb dX3_tipsTo_18 (by decide) (fun _ => ?_) (fun c => absurd c (xB_ne (xIn_pl hk hn1)))
  refine lv_aload_n hx hb dX3_tipsTo_27 rfl (lv_at hl 0 rfl) ?_
  refine lv_iload_n hx hb dX3_tipsTo_28 rfl (lv_at hl 1 rfl) ?_
  refine xVM (q0 := 0) (ci := 3) (As := [.int (nI t)]) (rest := []) ⟨hx, hb, hml, hown, hts⟩ (c_X3_solves γ l m0 m1 m2 m3 m4 n kc 0 td f tg tp t (by omega) (by omega) (by omega)) (cwV 1 hts gX3_tipsTo_X3_solves rfl rfl rfl hdv_X3_solves ⟨(Nat.le_of_ble_eq_true rfl), (Nat.le_of_ble_eq_true rfl)⟩) hK hP hD hS hA [0, 1, 2, 3] rfl rfl rfl rfl rfl hl.1 rfl (Nat.le_of_ble_eq_true rfl) dX3_tipsTo_29 ⟨(Nat.le_of_ble_eq_true rfl), (Nat.le_of_ble_eq_true rfl)⟩ (fun r9 w9 H locs hw hP hD hS => ?_)
  obtain ⟨rfl, h70x, eh70x, rfl⟩ := hw
  have hP : xP γ ([xO m0 3 [.int 0, .int (nI n), .int (nI kc), .int td, .ref m1, .ref m2, .ref m3, .ref m4], xA γ m1 12 f, xA γ m3 72 tg, xA γ m4 14 h70x]) H := hP
  have hD : va_D A ([xO m0 3 [.int 0, .int (nI n), .int (nI kc), .int td, .ref m1, .ref m2, .ref m3, .ref m4], xA γ m1 12 f, xA γ m3 72 tg, xA γ m4 14 h70x]) := hD
  refine W.eq (g2 := F0 m 32 ls [.int (if xSv n f (xGt tg t) = true then 1 else 0)]) rfl ?_
  refine lv_if_eq (tgt := 44) hx hb dX3_tipsTo_32 (by decide) (fun c => absurd c (xB_ne hs)) (fun _ => ?_)
  refine lv_aload_n hx hb dX3_tipsTo_35 rfl (lv_at hl 0 rfl) ?_
  refine va_get (D := γ.1) (ci := 3) (v := .ref m4) (C := RX3) (T := TX3) (N := 8) hx hb hts iwX3_tipsTo_3 hown hK hP 0 rfl rfl 7 (by decide) (hts _ flX3_tipsTo_23) (fun _ h9 => h9) rfl dX3_tipsTo_36 ?_
  refine lv_iload_n hx hb dX3_tipsTo_39 rfl (lv_at hl 2 rfl) ?_
  refine x_iald (f := h70x) hx hb hK hP 3 rfl k rfl (by omega) (by omega) dX3_tipsTo_40 ?_
  refine x_top (y := xAr n f (xGt tg t) (xFst1 n f (xGt tg t)) k) (eh70x hs k (by omega)) ?_
  refine lv_goto (tgt := 49) hx hb dX3_tipsTo_41 (by decide) ?_
  subst hQ
  exact xM_i hx hb hr hlocks dX3_tipsTo_49 hP rfl hS (Nat.le_of_ble_eq_true rfl) (Nat.le_of_ble_eq_true rfl) (⟨rfl, _, rfl⟩)

set_option maxHeartbeats 4000000 in
set_option maxRecDepth 100000 in
theorem c_X3_tipsTo_x1 (γ : xG) (l : Launch) (m0 m1 m2 m3 m4 n kc : Nat) (th td : Int32) (x y : Int32) (hxb : xInB x 0 (nI kc - 1) = false)  : xM γ l yX3_tipsTo wsX3_tipsTo ({ frames := 2, cells := 0, slots := 0, locals := 43 } : Room) [.ref m0, .int x, .int y] ([xO m0 3 [.int th, .int (nI n), .int (nI kc), .int td, .ref m1, .ref m2, .ref m3, .ref m4]]) (fun r9 w9 => r9 = some (.int 0) ∧ w9 = [xO m0 3 [.int 1, .int (nI n), .int (nI kc), .int td, .ref m1, .ref m2, .ref m3, .ref m4]]) 0 0 := by
  refine xM.of (cc := cX3_tipsTo) (maxL := 3) (ret := (some .int)) (by decide +kernel) rfl (Nat.le_of_ble_eq_true rfl) ?_
  intro p e s m below meth c hx hb hr hml hts hown hlocks hin hP hK A hA hD ls hl
  have hS : va_S A s.heap s.heap [] := va_S.rf
  generalize hargs : ([.ref m0, .int x, .int y] : List Value).toArray = args at hts ⊢
  obtain ⟨Q, hQ⟩ : ∃ Q9, Q9 = MQ below (xMQ γ (List.map Prod.fst ([xO m0 3 [.int th, .int (nI n), .int (nI kc), .int td, .ref m1, .ref m2, .ref m3, .ref m4]])) A (fun r9 w9 => r9 = some (.int 0) ∧ w9 = [xO m0 3 [.int 1, .int (nI n), .int (nI kc), .int td, .ref m1, .ref m2, .ref m3, .ref m4]])) args s 0 0 A := ⟨_, rfl⟩
  rw [← hQ]
  have hown : s.vm.findClass RX3 = some m.cls := hown
  have hl : lv_has ls 3 [(0, .ref m0), (1, .int x), (2, .int y)] := hl
  refine lv_aload_n hx hb dX3_tipsTo_0 rfl (lv_at hl 0 rfl) ?_
  refine lv_iconst (v := 0) hx hb dX3_tipsTo_1 (by decide) ?_
  refine va_put (D := γ.1) (ci := 3) (v := .int 0) (ty := .int) (C := RX3) (T := TX3) (N := 8) hx hb hts iwX3_tipsTo_3 tyX3 tyX3_ok nmX3 hown hK hP hD hS 0 rfl rfl 0 (by decide) (hts _ flX3_tipsTo_26) (fun _ h9 => h9) rfl (by decide +kernel) rfl rfl (Nat.le_of_ble_eq_true rfl) dX3_tipsTo_2 (fun H locs hP hD hS => ?_)
  have hP : xP γ ([xO m0 3 [.int 0, .int (nI n), .int (nI kc), .int td, .ref m1, .ref m2, .ref m3, .ref m4]]) H := hP
  have hD : va_D A ([xO m0 3 [.int 0, .int (nI n), .int (nI kc), .int td, .ref m1, .ref m2, .ref m3, .ref m4]]) := hD
  refine lv_aload_n hx hb dX3_tipsTo_5 rfl (lv_at hl 0 rfl) ?_
  refine lv_iload_n hx hb dX3_tipsTo_6 rfl (lv_at hl 1 rfl) ?_
  refine xVR (q0 := 0) (ci := 3) (As := [.int x]) (rest := []) (stk := [.int (if xInB x 0 (nI kc - 1) = true then 1 else 0)]) ⟨hx, hb, hml, hown, hts⟩ (c_X3_isTarget γ l m0 m1 m2 m3 m4 n kc 0 td x) (cwV 1 hts gX3_tipsTo_X3_isTarget rfl rfl rfl hdv_X3_isTarget ⟨(Nat.le_of_ble_eq_true rfl), (Nat.le_of_ble_eq_true rfl)⟩) hK hP [0] rfl rfl rfl rfl hl.1 rfl (Nat.le_of_ble_eq_true rfl) dX3_tipsTo_7 ⟨(Nat.le_of_ble_eq_true rfl), (Nat.le_of_ble_eq_true rfl)⟩ rfl ?_
  refine lv_if_eq (tgt := 21) hx hb dX3_tipsTo_10 (by decide) (fun _ => ?_) (fun c => absurd (xB_eq hxb) c)
  refine lv_aload_n hx hb dX3_tipsTo_21 rfl (lv_at hl 0 rfl) ?_
  refine lv_iconst (v := 1) hx hb dX3_tipsTo_22 (by decide) ?_
  refine xVM (q0 := 0) (ci := 3) (As := [.int 1]) (rest := []) ⟨hx, hb, hml, hown, hts⟩ (c_X3_no γ l m0 m1 m2 m3 m4 n kc 0 td 1) (cwV 1 hts gX3_tipsTo_X3_no rfl rfl rfl hdv_X3_no ⟨(Nat.le_of_ble_eq_true rfl), (Nat.le_of_ble_eq_true rfl)⟩) hK hP hD hS hA [0] rfl rfl rfl rfl rfl hl.1 rfl (Nat.le_of_ble_eq_true rfl) dX3_tipsTo_23 ⟨(Nat.le_of_ble_eq_true rfl), (Nat.le_of_ble_eq_true rfl)⟩ (fun r9 w9 H locs hw hP hD hS => ?_)
  obtain ⟨rfl, rfl⟩ := hw
  have hP : xP γ ([xO m0 3 [.int 1, .int (nI n), .int (nI kc), .int td, .ref m1, .ref m2, .ref m3, .ref m4]]) H := hP
  have hD : va_D A ([xO m0 3 [.int 1, .int (nI n), .int (nI kc), .int td, .ref m1, .ref m2, .ref m3, .ref m4]]) := hD
  refine W.eq (g2 := F0 m 26 ls [.int 0]) rfl ?_
  subst hQ
  exact xM_i hx hb hr hlocks dX3_tipsTo_26 hP rfl hS (Nat.le_of_ble_eq_true rfl) (Nat.le_of_ble_eq_true rfl) (⟨rfl, rfl⟩)

set_option maxHeartbeats 4000000 in
set_option maxRecDepth 100000 in
theorem c_X3_tipsTo_x2 (γ : xG) (l : Launch) (m0 m1 m2 m3 m4 n kc : Nat) (th td : Int32) (t : Nat) (x : Int32) (ht : t < kc) (hkc : kc ≤ 6) (hxb : xInB x 0 (nI n - 1) = false)  : xM γ l yX3_tipsTo wsX3_tipsTo ({ frames := 2, cells := 0, slots := 0, locals := 43 } : Room) [.ref m0, .int (nI t), .int x] ([xO m0 3 [.int th, .int (nI n), .int (nI kc), .int td, .ref m1, .ref m2, .ref m3, .ref m4]]) (fun r9 w9 => r9 = some (.int 0) ∧ w9 = [xO m0 3 [.int 1, .int (nI n), .int (nI kc), .int td, .ref m1, .ref m2, .ref m3, .ref m4]]) 0 0 := by
  refine xM.of (cc := cX3_tipsTo) (maxL := 3) (ret := (some .int)) (by decide +kernel) rfl (Nat.le_of_ble_eq_true rfl) ?_
  intro p e s m below meth c hx hb hr hml hts hown hlocks hin hP hK A hA hD ls hl
  have hS : va_S A s.heap s.heap [] := va_S.rf
  generalize hargs : ([.ref m0, .int (nI t), .int x] : List Value).toArray = args at hts ⊢
  obtain ⟨Q, hQ⟩ : ∃ Q9, Q9 = MQ below (xMQ γ (List.map Prod.fst ([xO m0 3 [.int th, .int (nI n), .int (nI kc), .int td, .ref m1, .ref m2, .ref m3, .ref m4]])) A (fun r9 w9 => r9 = some (.int 0) ∧ w9 = [xO m0 3 [.int 1, .int (nI n), .int (nI kc), .int td, .ref m1, .ref m2, .ref m3, .ref m4]])) args s 0 0 A := ⟨_, rfl⟩
  rw [← hQ]
  have hown : s.vm.findClass RX3 = some m.cls := hown
  have hl : lv_has ls 3 [(0, .ref m0), (1, .int (nI t)), (2, .int x)] := hl
  refine lv_aload_n hx hb dX3_tipsTo_0 rfl (lv_at hl 0 rfl) ?_
  refine lv_iconst (v := 0) hx hb dX3_tipsTo_1 (by decide) ?_
  refine va_put (D := γ.1) (ci := 3) (v := .int 0) (ty := .int) (C := RX3) (T := TX3) (N := 8) hx hb hts iwX3_tipsTo_3 tyX3 tyX3_ok nmX3 hown hK hP hD hS 0 rfl rfl 0 (by decide) (hts _ flX3_tipsTo_26) (fun _ h9 => h9) rfl (by decide +kernel) rfl rfl (Nat.le_of_ble_eq_true rfl) dX3_tipsTo_2 (fun H locs hP hD hS => ?_)
  have hP : xP γ ([xO m0 3 [.int 0, .int (nI n), .int (nI kc), .int td, .ref m1, .ref m2, .ref m3, .ref m4]]) H := hP
  have hD : va_D A ([xO m0 3 [.int 0, .int (nI n), .int (nI kc), .int td, .ref m1, .ref m2, .ref m3, .ref m4]]) := hD
  refine lv_aload_n hx hb dX3_tipsTo_5 rfl (lv_at hl 0 rfl) ?_
  refine lv_iload_n hx hb dX3_tipsTo_6 rfl (lv_at hl 1 rfl) ?_
  refine xVR (q0 := 0) (ci := 3) (As := [.int (nI t)]) (rest := []) (stk := [.int (if xInB (nI t) 0 (nI kc - 1) = true then 1 else 0)]) ⟨hx, hb, hml, hown, hts⟩ (c_X3_isTarget γ l m0 m1 m2 m3 m4 n kc 0 td (nI t)) (cwV 1 hts gX3_tipsTo_X3_isTarget rfl rfl rfl hdv_X3_isTarget ⟨(Nat.le_of_ble_eq_true rfl), (Nat.le_of_ble_eq_true rfl)⟩) hK hP [0] rfl rfl rfl rfl hl.1 rfl (Nat.le_of_ble_eq_true rfl) dX3_tipsTo_7 ⟨(Nat.le_of_ble_eq_true rfl), (Nat.le_of_ble_eq_true rfl)⟩ rfl ?_
  refine lv_if_eq (tgt := 21) hx hb dX3_tipsTo_10 (by decide) (fun c => absurd c (xB_ne (xIn_pl ht (by omega)))) (fun _ => ?_)
  refine lv_aload_n hx hb dX3_tipsTo_13 rfl (lv_at hl 0 rfl) ?_
  refine lv_iload_n hx hb dX3_tipsTo_14 rfl (lv_at hl 2 rfl) ?_
  refine xVR (q0 := 0) (ci := 3) (As := [.int x]) (rest := []) (stk := [.int (if xInB x 0 (nI n - 1) = true then 1 else 0)]) ⟨hx, hb, hml, hown, hts⟩ (c_X3_isPlace γ l m0 m1 m2 m3 m4 n kc 0 td x) (cwV 1 hts gX3_tipsTo_X3_isPlace rfl rfl rfl hdv_X3_isPlace ⟨(Nat.le_of_ble_eq_true rfl), (Nat.le_of_ble_eq_true rfl)⟩) hK hP [0] rfl rfl rfl rfl hl.1 rfl (Nat.le_of_ble_eq_true rfl) dX3_tipsTo_15 ⟨(Nat.le_of_ble_eq_true rfl), (Nat.le_of_ble_eq_true rfl)⟩ rfl ?_
  refine lv_if_ne (tgt := 27) hx hb dX3_tipsTo_18 (by decide) (fun c => absurd (xB_eq hxb) c) (fun _ => ?_)
  refine lv_aload_n hx hb dX3_tipsTo_21 rfl (lv_at hl 0 rfl) ?_
  refine lv_iconst (v := 1) hx hb dX3_tipsTo_22 (by decide) ?_
  refine xVM (q0 := 0) (ci := 3) (As := [.int 1]) (rest := []) ⟨hx, hb, hml, hown, hts⟩ (c_X3_no γ l m0 m1 m2 m3 m4 n kc 0 td 1) (cwV 1 hts gX3_tipsTo_X3_no rfl rfl rfl hdv_X3_no ⟨(Nat.le_of_ble_eq_true rfl), (Nat.le_of_ble_eq_true rfl)⟩) hK hP hD hS hA [0] rfl rfl rfl rfl rfl hl.1 rfl (Nat.le_of_ble_eq_true rfl) dX3_tipsTo_23 ⟨(Nat.le_of_ble_eq_true rfl), (Nat.le_of_ble_eq_true rfl)⟩ (fun r9 w9 H locs hw hP hD hS => ?_)
  obtain ⟨rfl, rfl⟩ := hw
  have hP : xP γ ([xO m0 3 [.int 1, .int (nI n), .int (nI kc), .int td, .ref m1, .ref m2, .ref m3, .ref m4]]) H := hP
  have hD : va_D A ([xO m0 3 [.int 1, .int (nI n), .int (nI kc), .int td, .ref m1, .ref m2, .ref m3, .ref m4]]) := hD
  refine W.eq (g2 := F0 m 26 ls [.int 0]) rfl ?_
  subst hQ
  exact xM_i hx hb hr hlocks dX3_tipsTo_26 hP rfl hS (Nat.le_of_ble_eq_true rfl) (Nat.le_of_ble_eq_true rfl) (⟨rfl, rfl⟩)

set_option maxHeartbeats 4000000 in
set_option maxRecDepth 100000 in
theorem c_X3_tipsTo_x3 (γ : xG) (l : Launch) (m0 m1 m2 m3 m4 n kc : Nat) (th td : Int32) (f tg tp : xRow) (t k : Nat) (hn0 : 3 ≤ n) (hn1 : n ≤ 12) (ht : t < kc) (hkc : kc ≤ 6) (hk : k < n) (hs : xSv n f (xGt tg t) = false)  : xM γ l yX3_tipsTo wsX3_tipsTo ({ frames := 3, cells := 0, slots := 0, locals := 68 } : Room) [.ref m0, .int (nI t), .int (nI k)] ([xO m0 3 [.int th, .int (nI n), .int (nI kc), .int td, .ref m1, .ref m2, .ref m3, .ref m4], xA γ m1 12 f, xA γ m3 72 tg, xA γ m4 14 tp]) (fun r9 w9 => r9 = some (.int 0) ∧ ∃ h9 : xRow, w9 = [xO m0 3 [.int 2, .int (nI n), .int (nI kc), .int td, .ref m1, .ref m2, .ref m3, .ref m4], xA γ m1 12 f, xA γ m3 72 tg, xA γ m4 14 h9]) 0 0 := by
  refine xM.of (cc := cX3_tipsTo) (maxL := 3) (ret := (some .int)) (by decide +kernel) rfl (Nat.le_of_ble_eq_true rfl) ?_
  intro p e s m below meth c hx hb hr hml hts hown hlocks hin hP hK A hA hD ls hl
  have hS : va_S A s.heap s.heap [] := va_S.rf
  generalize hargs : ([.ref m0, .int (nI t), .int (nI k)] : List Value).toArray = args at hts ⊢
  obtain ⟨Q, hQ⟩ : ∃ Q9, Q9 = MQ below (xMQ γ (List.map Prod.fst ([xO m0 3 [.int th, .int (nI n), .int (nI kc), .int td, .ref m1, .ref m2, .ref m3, .ref m4], xA γ m1 12 f, xA γ m3 72 tg, xA γ m4 14 tp])) A (fun r9 w9 => r9 = some (.int 0) ∧ ∃ h9 : xRow, w9 = [xO m0 3 [.int 2, .int (nI n), .int (nI kc), .int td, .ref m1, .ref m2, .ref m3, .ref m4], xA γ m1 12 f, xA γ m3 72 tg, xA γ m4 14 h9])) args s 0 0 A := ⟨_, rfl⟩
  rw [← hQ]
  have hown : s.vm.findClass RX3 = some m.cls := hown
  have hl : lv_has ls 3 [(0, .ref m0), (1, .int (nI t)), (2, .int (nI k))] := hl
  refine lv_aload_n hx hb dX3_tipsTo_0 rfl (lv_at hl 0 rfl) ?_
  refine lv_iconst (v := 0) hx hb dX3_tipsTo_1 (by decide) ?_
  refine va_put (D := γ.1) (ci := 3) (v := .int 0) (ty := .int) (C := RX3) (T := TX3) (N := 8) hx hb hts iwX3_tipsTo_3 tyX3 tyX3_ok nmX3 hown hK hP hD hS 0 rfl rfl 0 (by decide) (hts _ flX3_tipsTo_26) (fun _ h9 => h9) rfl (by decide +kernel) rfl rfl (Nat.le_of_ble_eq_true rfl) dX3_tipsTo_2 (fun H locs hP hD hS => ?_)
  have hP : xP γ ([xO m0 3 [.int 0, .int (nI n), .int (nI kc), .int td, .ref m1, .ref m2, .ref m3, .ref m4], xA γ m1 12 f, xA γ m3 72 tg, xA γ m4 14 tp]) H := hP
  have hD : va_D A ([xO m0 3 [.int 0, .int (nI n), .int (nI kc), .int td, .ref m1, .ref m2, .ref m3, .ref m4], xA γ m1 12 f, xA γ m3 72 tg, xA γ m4 14 tp]) := hD
  refine lv_aload_n hx hb dX3_tipsTo_5 rfl (lv_at hl 0 rfl) ?_
  refine lv_iload_n hx hb dX3_tipsTo_6 rfl (lv_at hl 1 rfl) ?_
  refine xVR (q0 := 0) (ci := 3) (As := [.int (nI t)]) (rest := []) (stk := [.int (if xInB (nI t) 0 (nI kc - 1) = true then 1 else 0)]) ⟨hx, hb, hml, hown, hts⟩ (c_X3_isTarget γ l m0 m1 m2 m3 m4 n kc 0 td (nI t)) (cwV 1 hts gX3_tipsTo_X3_isTarget rfl rfl rfl hdv_X3_isTarget ⟨(Nat.le_of_ble_eq_true rfl), (Nat.le_of_ble_eq_true rfl)⟩) hK hP [0] rfl rfl rfl rfl hl.1 rfl (Nat.le_of_ble_eq_true rfl) dX3_tipsTo_7 ⟨(Nat.le_of_ble_eq_true rfl), (Nat.le_of_ble_eq_true rfl)⟩ rfl ?_
  refine lv_if_eq (tgt := 21) hx hb dX3_tipsTo_10 (by decide) (fun c => absurd c (xB_ne (xIn_pl ht (by omega)))) (fun _ => ?_)
  refine lv_aload_n hx hb dX3_tipsTo_13 rfl (lv_at hl 0 rfl) ?_
  refine lv_iload_n hx hb dX3_tipsTo_14 rfl (lv_at hl 2 rfl) ?_
  refine xVR (q0 := 0) (ci := 3) (As := [.int (nI k)]) (rest := []) (stk := [.int (if xInB (nI k) 0 (nI n - 1) = true then 1 else 0)]) ⟨hx, hb, hml, hown, hts⟩ (c_X3_isPlace γ l m0 m1 m2 m3 m4 n kc 0 td (nI k)) (cwV 1 hts gX3_tipsTo_X3_isPlace rfl rfl rfl hdv_X3_isPlace ⟨(Nat.le_of_ble_eq_true rfl), (Nat.le_of_ble_eq_true rfl)⟩) hK hP [0] rfl rfl rfl rfl hl.1 rfl (Nat.le_of_ble_eq_true rfl) dX3_tipsTo_15 ⟨(Nat.le_of_ble_eq_true rfl), (Nat.le_of_ble_eq_true rfl)⟩ rfl ?_
  refine lv_if_ne (tgt := 27) hx hb dX3_tipsTo_18 (by decide) (fun _ => ?_) (fun c => absurd c (xB_ne (xIn_pl hk hn1)))
  refine lv_aload_n hx hb dX3_tipsTo_27 rfl (lv_at hl 0 rfl) ?_
  refine lv_iload_n hx hb dX3_tipsTo_28 rfl (lv_at hl 1 rfl) ?_
  refine xVM (q0 := 0) (ci := 3) (As := [.int (nI t)]) (rest := []) ⟨hx, hb, hml, hown, hts⟩ (c_X3_solves γ l m0 m1 m2 m3 m4 n kc 0 td f tg tp t (by omega) (by omega) (by omega)) (cwV 1 hts gX3_tipsTo_X3_solves rfl rfl rfl hdv_X3_solves ⟨(Nat.le_of_ble_eq_true rfl), (Nat.le_of_ble_eq_true rfl)⟩) hK hP hD hS hA [0, 1, 2, 3] rfl rfl rfl rfl rfl hl.1 rfl (Nat.le_of_ble_eq_true rfl) dX3_tipsTo_29 ⟨(Nat.le_of_ble_eq_true rfl), (Nat.le_of_ble_eq_true rfl)⟩ (fun r9 w9 H locs hw hP hD hS => ?_)
  obtain ⟨rfl, h72x, eh72x, rfl⟩ := hw
  have hP : xP γ ([xO m0 3 [.int 0, .int (nI n), .int (nI kc), .int td, .ref m1, .ref m2, .ref m3, .ref m4], xA γ m1 12 f, xA γ m3 72 tg, xA γ m4 14 h72x]) H := hP
  have hD : va_D A ([xO m0 3 [.int 0, .int (nI n), .int (nI kc), .int td, .ref m1, .ref m2, .ref m3, .ref m4], xA γ m1 12 f, xA γ m3 72 tg, xA γ m4 14 h72x]) := hD
  refine W.eq (g2 := F0 m 32 ls [.int (if xSv n f (xGt tg t) = true then 1 else 0)]) rfl ?_
  refine lv_if_eq (tgt := 44) hx hb dX3_tipsTo_32 (by decide) (fun _ => ?_) (fun c => absurd (xB_eq hs) c)
  refine lv_aload_n hx hb dX3_tipsTo_44 rfl (lv_at hl 0 rfl) ?_
  refine lv_iconst (v := 2) hx hb dX3_tipsTo_45 (by decide) ?_
  refine xVM (q0 := 0) (ci := 3) (As := [.int 2]) (rest := []) ⟨hx, hb, hml, hown, hts⟩ (c_X3_no γ l m0 m1 m2 m3 m4 n kc 0 td 2) (cwV 1 hts gX3_tipsTo_X3_no rfl rfl rfl hdv_X3_no ⟨(Nat.le_of_ble_eq_true rfl), (Nat.le_of_ble_eq_true rfl)⟩) hK hP hD hS hA [0] rfl rfl rfl rfl rfl hl.1 rfl (Nat.le_of_ble_eq_true rfl) dX3_tipsTo_46 ⟨(Nat.le_of_ble_eq_true rfl), (Nat.le_of_ble_eq_true rfl)⟩ (fun r9 w9 H locs hw hP hD hS => ?_)
  obtain ⟨rfl, rfl⟩ := hw
  have hP : xP γ ([xO m0 3 [.int 2, .int (nI n), .int (nI kc), .int td, .ref m1, .ref m2, .ref m3, .ref m4], xA γ m1 12 f, xA γ m3 72 tg, xA γ m4 14 h72x]) H := hP
  have hD : va_D A ([xO m0 3 [.int 2, .int (nI n), .int (nI kc), .int td, .ref m1, .ref m2, .ref m3, .ref m4], xA γ m1 12 f, xA γ m3 72 tg, xA γ m4 14 h72x]) := hD
  refine W.eq (g2 := F0 m 49 ls [.int 0]) rfl ?_
  subst hQ
  exact xM_i hx hb hr hlocks dX3_tipsTo_49 hP rfl hS (Nat.le_of_ble_eq_true rfl) (Nat.le_of_ble_eq_true rfl) (⟨rfl, _, rfl⟩)

theorem flX3_fewestTips_26 : Cond.fieldLink RX3 26 "RingSeesawModel" "thrown" "I" ∈ wsX3_fewestTips := by decide +kernel
theorem iwX3_fewestTips_3 : ∀ w ∈ wsX30, w ∈ wsX3_fewestTips := by decide +kernel
set_option maxHeartbeats 4000000 in
set_option maxRecDepth 100000 in
theorem c_X3_fewestTips (γ : xG) (l : Launch) (m0 m1 m2 m3 m4 n kc : Nat) (th td : Int32) (f tg tp : xRow) (t : Nat) (hn0 : 3 ≤ n) (hn1 : n ≤ 12) (ht : t < kc) (hkc : kc ≤ 6) : xM γ l yX3_fewestTips wsX3_fewestTips ({ frames := 4, cells := 0, slots := 0, locals := 93 } : Room) [.ref m0, .int (nI t)] ([xO m0 3 [.int th, .int (nI n), .int (nI kc), .int td, .ref m1, .ref m2, .ref m3, .ref m4], xA γ m1 12 f, xA γ m3 72 tg, xA γ m4 14 tp]) (fun r9 w9 => r9 = some (.int (xFewM n f (xGt tg t))) ∧ ∃ h9 : xRow, w9 = [xO m0 3 [.int 0, .int (nI n), .int (nI kc), .int td, .ref m1, .ref m2, .ref m3, .ref m4], xA γ m1 12 f, xA γ m3 72 tg, xA γ m4 14 h9]) 0 0 := by
  refine xM.of (cc := cX3_fewestTips) (maxL := 2) (ret := (some .int)) (by decide +kernel) rfl (Nat.le_of_ble_eq_true rfl) ?_
  intro p e s m below meth c hx hb hr hml hts hown hlocks hin hP hK A hA hD ls hl
  have hS : va_S A s.heap s.heap [] := va_S.rf
  generalize hargs : ([.ref m0, .int (nI t)] : List Value).toArray = args at hts ⊢
  obtain ⟨Q, hQ⟩ : ∃ Q9, Q9 = MQ below (xMQ γ (List.map Prod.fst ([xO m0 3 [.int th, .int (nI n), .int (nI kc), .int td, .ref m1, .ref m2, .ref m3, .ref m4], xA γ m1 12 f, xA γ m3 72 tg, xA γ m4 14 tp])) A (fun r9 w9 => r9 = some (.int (xFewM n f (xGt tg t))) ∧ ∃ h9 : xRow, w9 = [xO m0 3 [.int 0, .int (nI n), .int (nI kc), .int td, .ref m1, .ref m2, .ref m3, .ref m4], xA γ m1 12 f, xA γ m3 72 tg, xA γ m4 14 h9])) args s 0 0 A := ⟨_, rfl⟩
  rw [← hQ]
  have hown : s.vm.findClass RX3 = some m.cls := hown
  have hl : lv_has ls 2 [(0, .ref m0), (1, .int (nI t))] := hl
  refine lv_aload_n hx hb dX3_fewestTips_0 rfl (lv_at hl 0 rfl) ?_
  refine lv_iconst (v := 0) hx hb dX3_fewestTips_1 (by decide) ?_
  refine va_put (D := γ.1) (ci := 3) (v := .int 0) (ty := .int) (C := RX3) (T := TX3) (N := 8) hx hb hts iwX3_fewestTips_3 tyX3 tyX3_ok nmX3 hown hK hP hD hS 0 rfl rfl 0 (by decide) (hts _ flX3_fewestTips_26) (fun _ h9 => h9) rfl (by decide +kernel) rfl rfl (Nat.le_of_ble_eq_true rfl) dX3_fewestTips_2 (fun H locs hP hD hS => ?_)
  have hP : xP γ ([xO m0 3 [.int 0, .int (nI n), .int (nI kc), .int td, .ref m1, .ref m2, .ref m3, .ref m4], xA γ m1 12 f, xA γ m3 72 tg, xA γ m4 14 tp]) H := hP
  have hD : va_D A ([xO m0 3 [.int 0, .int (nI n), .int (nI kc), .int td, .ref m1, .ref m2, .ref m3, .ref m4], xA γ m1 12 f, xA γ m3 72 tg, xA γ m4 14 tp]) := hD
  refine lv_aload_n hx hb dX3_fewestTips_5 rfl (lv_at hl 0 rfl) ?_
  refine lv_iload_n hx hb dX3_fewestTips_6 rfl (lv_at hl 1 rfl) ?_
  refine xVR (q0 := 0) (ci := 3) (As := [.int (nI t)]) (rest := []) (stk := [.int (if xInB (nI t) 0 (nI kc - 1) = true then 1 else 0)]) ⟨hx, hb, hml, hown, hts⟩ (c_X3_isTarget γ l m0 m1 m2 m3 m4 n kc 0 td (nI t)) (cwV 1 hts gX3_fewestTips_X3_isTarget rfl rfl rfl hdv_X3_isTarget ⟨(Nat.le_of_ble_eq_true rfl), (Nat.le_of_ble_eq_true rfl)⟩) hK hP [0] rfl rfl rfl rfl hl.1 rfl (Nat.le_of_ble_eq_true rfl) dX3_fewestTips_7 ⟨(Nat.le_of_ble_eq_true rfl), (Nat.le_of_ble_eq_true rfl)⟩ rfl ?_
  refine lv_if_eq (tgt := 21) hx hb dX3_fewestTips_10 (by decide) (fun c => absurd c (xB_ne (xIn_pl ht (by omega)))) (fun _ => ?_)
  refine lv_aload_n hx hb dX3_fewestTips_13 rfl (lv_at hl 0 rfl) ?_
  refine lv_iload_n hx hb dX3_fewestTips_14 rfl (lv_at hl 1 rfl) ?_
  refine xVM (q0 := 0) (ci := 3) (As := [.int (nI t)]) (rest := []) ⟨hx, hb, hml, hown, hts⟩ (c_X3_fewest γ l m0 m1 m2 m3 m4 n kc 0 td f tg tp t (by omega) (by omega) (by omega)) (cwV 1 hts gX3_fewestTips_X3_fewest rfl rfl rfl hdv_X3_fewest ⟨(Nat.le_of_ble_eq_true rfl), (Nat.le_of_ble_eq_true rfl)⟩) hK hP hD hS hA [0, 1, 2, 3] rfl rfl rfl rfl rfl hl.1 rfl (Nat.le_of_ble_eq_true rfl) dX3_fewestTips_15 ⟨(Nat.le_of_ble_eq_true rfl), (Nat.le_of_ble_eq_true rfl)⟩ (fun r9 w9 H locs hw hP hD hS => ?_)
  obtain ⟨rfl, h74x, rfl⟩ := hw
  have hP : xP γ ([xO m0 3 [.int 0, .int (nI n), .int (nI kc), .int td, .ref m1, .ref m2, .ref m3, .ref m4], xA γ m1 12 f, xA γ m3 72 tg, xA γ m4 14 h74x]) H := hP
  have hD : va_D A ([xO m0 3 [.int 0, .int (nI n), .int (nI kc), .int td, .ref m1, .ref m2, .ref m3, .ref m4], xA γ m1 12 f, xA γ m3 72 tg, xA γ m4 14 h74x]) := hD
  refine W.eq (g2 := F0 m 18 ls [.int (xFewM n f (xGt tg t))]) rfl ?_
  refine lv_goto (tgt := 26) hx hb dX3_fewestTips_18 (by decide) ?_
  subst hQ
  exact xM_i hx hb hr hlocks dX3_fewestTips_26 hP rfl hS (Nat.le_of_ble_eq_true rfl) (Nat.le_of_ble_eq_true rfl) (⟨rfl, _, rfl⟩)

set_option maxHeartbeats 4000000 in
set_option maxRecDepth 100000 in
theorem c_X3_fewestTips_x (γ : xG) (l : Launch) (m0 m1 m2 m3 m4 n kc : Nat) (th td : Int32) (x : Int32) (hxb : xInB x 0 (nI kc - 1) = false)  : xM γ l yX3_fewestTips wsX3_fewestTips ({ frames := 2, cells := 0, slots := 0, locals := 43 } : Room) [.ref m0, .int x] ([xO m0 3 [.int th, .int (nI n), .int (nI kc), .int td, .ref m1, .ref m2, .ref m3, .ref m4]]) (fun r9 w9 => r9 = some (.int 0) ∧ w9 = [xO m0 3 [.int 1, .int (nI n), .int (nI kc), .int td, .ref m1, .ref m2, .ref m3, .ref m4]]) 0 0 := by
  refine xM.of (cc := cX3_fewestTips) (maxL := 2) (ret := (some .int)) (by decide +kernel) rfl (Nat.le_of_ble_eq_true rfl) ?_
  intro p e s m below meth c hx hb hr hml hts hown hlocks hin hP hK A hA hD ls hl
  have hS : va_S A s.heap s.heap [] := va_S.rf
  generalize hargs : ([.ref m0, .int x] : List Value).toArray = args at hts ⊢
  obtain ⟨Q, hQ⟩ : ∃ Q9, Q9 = MQ below (xMQ γ (List.map Prod.fst ([xO m0 3 [.int th, .int (nI n), .int (nI kc), .int td, .ref m1, .ref m2, .ref m3, .ref m4]])) A (fun r9 w9 => r9 = some (.int 0) ∧ w9 = [xO m0 3 [.int 1, .int (nI n), .int (nI kc), .int td, .ref m1, .ref m2, .ref m3, .ref m4]])) args s 0 0 A := ⟨_, rfl⟩
  rw [← hQ]
  have hown : s.vm.findClass RX3 = some m.cls := hown
  have hl : lv_has ls 2 [(0, .ref m0), (1, .int x)] := hl
  refine lv_aload_n hx hb dX3_fewestTips_0 rfl (lv_at hl 0 rfl) ?_
  refine lv_iconst (v := 0) hx hb dX3_fewestTips_1 (by decide) ?_
  refine va_put (D := γ.1) (ci := 3) (v := .int 0) (ty := .int) (C := RX3) (T := TX3) (N := 8) hx hb hts iwX3_fewestTips_3 tyX3 tyX3_ok nmX3 hown hK hP hD hS 0 rfl rfl 0 (by decide) (hts _ flX3_fewestTips_26) (fun _ h9 => h9) rfl (by decide +kernel) rfl rfl (Nat.le_of_ble_eq_true rfl) dX3_fewestTips_2 (fun H locs hP hD hS => ?_)
  have hP : xP γ ([xO m0 3 [.int 0, .int (nI n), .int (nI kc), .int td, .ref m1, .ref m2, .ref m3, .ref m4]]) H := hP
  have hD : va_D A ([xO m0 3 [.int 0, .int (nI n), .int (nI kc), .int td, .ref m1, .ref m2, .ref m3, .ref m4]]) := hD
  refine lv_aload_n hx hb dX3_fewestTips_5 rfl (lv_at hl 0 rfl) ?_
  refine lv_iload_n hx hb dX3_fewestTips_6 rfl (lv_at hl 1 rfl) ?_
  refine xVR (q0 := 0) (ci := 3) (As := [.int x]) (rest := []) (stk := [.int (if xInB x 0 (nI kc - 1) = true then 1 else 0)]) ⟨hx, hb, hml, hown, hts⟩ (c_X3_isTarget γ l m0 m1 m2 m3 m4 n kc 0 td x) (cwV 1 hts gX3_fewestTips_X3_isTarget rfl rfl rfl hdv_X3_isTarget ⟨(Nat.le_of_ble_eq_true rfl), (Nat.le_of_ble_eq_true rfl)⟩) hK hP [0] rfl rfl rfl rfl hl.1 rfl (Nat.le_of_ble_eq_true rfl) dX3_fewestTips_7 ⟨(Nat.le_of_ble_eq_true rfl), (Nat.le_of_ble_eq_true rfl)⟩ rfl ?_
  refine lv_if_eq (tgt := 21) hx hb dX3_fewestTips_10 (by decide) (fun _ => ?_) (fun c => absurd (xB_eq hxb) c)
  refine lv_aload_n hx hb dX3_fewestTips_21 rfl (lv_at hl 0 rfl) ?_
  refine lv_iconst (v := 1) hx hb dX3_fewestTips_22 (by decide) ?_
  refine xVM (q0 := 0) (ci := 3) (As := [.int 1]) (rest := []) ⟨hx, hb, hml, hown, hts⟩ (c_X3_no γ l m0 m1 m2 m3 m4 n kc 0 td 1) (cwV 1 hts gX3_fewestTips_X3_no rfl rfl rfl hdv_X3_no ⟨(Nat.le_of_ble_eq_true rfl), (Nat.le_of_ble_eq_true rfl)⟩) hK hP hD hS hA [0] rfl rfl rfl rfl rfl hl.1 rfl (Nat.le_of_ble_eq_true rfl) dX3_fewestTips_23 ⟨(Nat.le_of_ble_eq_true rfl), (Nat.le_of_ble_eq_true rfl)⟩ (fun r9 w9 H locs hw hP hD hS => ?_)
  obtain ⟨rfl, rfl⟩ := hw
  have hP : xP γ ([xO m0 3 [.int 1, .int (nI n), .int (nI kc), .int td, .ref m1, .ref m2, .ref m3, .ref m4]]) H := hP
  have hD : va_D A ([xO m0 3 [.int 1, .int (nI n), .int (nI kc), .int td, .ref m1, .ref m2, .ref m3, .ref m4]]) := hD
  refine W.eq (g2 := F0 m 26 ls [.int 0]) rfl ?_
  subst hQ
  exact xM_i hx hb hr hlocks dX3_fewestTips_26 hP rfl hS (Nat.le_of_ble_eq_true rfl) (Nat.le_of_ble_eq_true rfl) (⟨rfl, rfl⟩)

theorem flX3_reach_26 : Cond.fieldLink RX3 26 "RingSeesawModel" "thrown" "I" ∈ wsX3_reach := by decide +kernel
theorem iwX3_reach_3 : ∀ w ∈ wsX30, w ∈ wsX3_reach := by decide +kernel
theorem flX3_reach_7 : Cond.fieldLink RX3 7 "RingSeesawModel" "n" "I" ∈ wsX3_reach := by decide +kernel
theorem flX3_reach_74 : Cond.fieldLink RX3 74 "RingSeesawModel" "tips" "I" ∈ wsX3_reach := by decide +kernel
theorem flX3_reach_13 : Cond.fieldLink RX3 13 "RingSeesawModel" "x" "[I" ∈ wsX3_reach := by decide +kernel
set_option maxHeartbeats 4000000 in
set_option maxRecDepth 100000 in
theorem c_X3_reach (γ : xG) (l : Launch) (m0 m1 m2 m3 m4 n kc : Nat) (th td : Int32) (f tg tp : xRow) (t : Nat) (hn0 : 3 ≤ n) (hn1 : n ≤ 12) (ht : t < kc) (hkc : kc ≤ 6) (hs : ¬ xFewM n f (xGt tg t) = -1) : xM γ l yX3_reach wsX3_reach ({ frames := 4, cells := 0, slots := 0, locals := 93 } : Room) [.ref m0, .int (nI t)] ([xO m0 3 [.int th, .int (nI n), .int (nI kc), .int td, .ref m1, .ref m2, .ref m3, .ref m4], xA γ m1 12 f, xA γ m3 72 tg, xA γ m4 14 tp]) (fun r9 w9 => r9 = some (.int (xFewM n f (xGt tg t))) ∧ ∃ h9 : xRow, w9 = [xO m0 3 [.int 0, .int (nI n), .int (nI kc), .int (td + xFewM n f (xGt tg t)), .ref m1, .ref m2, .ref m3, .ref m4], xA γ m1 12 (xCp f (xGt tg t) n), xA γ m3 72 tg, xA γ m4 14 h9]) 0 0 := by
  refine xM.of (cc := cX3_reach) (maxL := 4) (ret := (some .int)) (by decide +kernel) rfl (Nat.le_of_ble_eq_true rfl) ?_
  intro p e s m below meth c hx hb hr hml hts hown hlocks hin hP hK A hA hD ls hl
  have hS : va_S A s.heap s.heap [] := va_S.rf
  generalize hargs : ([.ref m0, .int (nI t)] : List Value).toArray = args at hts ⊢
  obtain ⟨Q, hQ⟩ : ∃ Q9, Q9 = MQ below (xMQ γ (List.map Prod.fst ([xO m0 3 [.int th, .int (nI n), .int (nI kc), .int td, .ref m1, .ref m2, .ref m3, .ref m4], xA γ m1 12 f, xA γ m3 72 tg, xA γ m4 14 tp])) A (fun r9 w9 => r9 = some (.int (xFewM n f (xGt tg t))) ∧ ∃ h9 : xRow, w9 = [xO m0 3 [.int 0, .int (nI n), .int (nI kc), .int (td + xFewM n f (xGt tg t)), .ref m1, .ref m2, .ref m3, .ref m4], xA γ m1 12 (xCp f (xGt tg t) n), xA γ m3 72 tg, xA γ m4 14 h9])) args s 0 0 A := ⟨_, rfl⟩
  rw [← hQ]
  have hown : s.vm.findClass RX3 = some m.cls := hown
  have hl : lv_has ls 4 [(0, .ref m0), (1, .int (nI t))] := hl
  refine lv_aload_n hx hb dX3_reach_0 rfl (lv_at hl 0 rfl) ?_
  refine lv_iconst (v := 0) hx hb dX3_reach_1 (by decide) ?_
  refine va_put (D := γ.1) (ci := 3) (v := .int 0) (ty := .int) (C := RX3) (T := TX3) (N := 8) hx hb hts iwX3_reach_3 tyX3 tyX3_ok nmX3 hown hK hP hD hS 0 rfl rfl 0 (by decide) (hts _ flX3_reach_26) (fun _ h9 => h9) rfl (by decide +kernel) rfl rfl (Nat.le_of_ble_eq_true rfl) dX3_reach_2 (fun H locs hP hD hS => ?_)
  have hP : xP γ ([xO m0 3 [.int 0, .int (nI n), .int (nI kc), .int td, .ref m1, .ref m2, .ref m3, .ref m4], xA γ m1 12 f, xA γ m3 72 tg, xA γ m4 14 tp]) H := hP
  have hD : va_D A ([xO m0 3 [.int 0, .int (nI n), .int (nI kc), .int td, .ref m1, .ref m2, .ref m3, .ref m4], xA γ m1 12 f, xA γ m3 72 tg, xA γ m4 14 tp]) := hD
  refine lv_aload_n hx hb dX3_reach_5 rfl (lv_at hl 0 rfl) ?_
  refine lv_iload_n hx hb dX3_reach_6 rfl (lv_at hl 1 rfl) ?_
  refine xVR (q0 := 0) (ci := 3) (As := [.int (nI t)]) (rest := []) (stk := [.int (if xInB (nI t) 0 (nI kc - 1) = true then 1 else 0)]) ⟨hx, hb, hml, hown, hts⟩ (c_X3_isTarget γ l m0 m1 m2 m3 m4 n kc 0 td (nI t)) (cwV 1 hts gX3_reach_X3_isTarget rfl rfl rfl hdv_X3_isTarget ⟨(Nat.le_of_ble_eq_true rfl), (Nat.le_of_ble_eq_true rfl)⟩) hK hP [0] rfl rfl rfl rfl hl.1 rfl (Nat.le_of_ble_eq_true rfl) dX3_reach_7 ⟨(Nat.le_of_ble_eq_true rfl), (Nat.le_of_ble_eq_true rfl)⟩ rfl ?_
  refine lv_if_ne (tgt := 19) hx hb dX3_reach_10 (by decide) (fun _ => ?_) (fun c => absurd c (xB_ne (xIn_pl ht (by omega))))
  refine lv_aload_n hx hb dX3_reach_19 rfl (lv_at hl 0 rfl) ?_
  refine lv_iload_n hx hb dX3_reach_20 rfl (lv_at hl 1 rfl) ?_
  refine xVM (q0 := 0) (ci := 3) (As := [.int (nI t)]) (rest := []) ⟨hx, hb, hml, hown, hts⟩ (c_X3_fewest γ l m0 m1 m2 m3 m4 n kc 0 td f tg tp t (by omega) (by omega) (by omega)) (cwV 1 hts gX3_reach_X3_fewest rfl rfl rfl hdv_X3_fewest ⟨(Nat.le_of_ble_eq_true rfl), (Nat.le_of_ble_eq_true rfl)⟩) hK hP hD hS hA [0, 1, 2, 3] rfl rfl rfl rfl rfl hl.1 rfl (Nat.le_of_ble_eq_true rfl) dX3_reach_21 ⟨(Nat.le_of_ble_eq_true rfl), (Nat.le_of_ble_eq_true rfl)⟩ (fun r9 w9 H locs hw hP hD hS => ?_)
  obtain ⟨rfl, h76x, rfl⟩ := hw
  have hP : xP γ ([xO m0 3 [.int 0, .int (nI n), .int (nI kc), .int td, .ref m1, .ref m2, .ref m3, .ref m4], xA γ m1 12 f, xA γ m3 72 tg, xA γ m4 14 h76x]) H := hP
  have hD : va_D A ([xO m0 3 [.int 0, .int (nI n), .int (nI kc), .int td, .ref m1, .ref m2, .ref m3, .ref m4], xA γ m1 12 f, xA γ m3 72 tg, xA γ m4 14 h76x]) := hD
  refine W.eq (g2 := F0 m 24 ls [.int (xFewM n f (xGt tg t))]) rfl ?_
  refine lv_istore_n (lv' := [(2, .int (xFewM n f (xGt tg t))), (0, .ref m0), (1, .int (nI t))]) hx hb dX3_reach_24 rfl hl (by decide) rfl (fun ls hl => ?_)
  refine lv_iload_n hx hb dX3_reach_25 rfl (lv_at hl 0 rfl) ?_
  refine lv_iconst (v := (-1)) hx hb dX3_reach_26 (by decide) ?_
  refine lv_icmp_ne (tgt := 36) hx hb dX3_reach_27 (by decide) (fun _ => ?_) (fun c => absurd c (hs))
  refine lv_iconst (v := 0) hx hb dX3_reach_36 (by decide) ?_
  refine lv_istore_n (lv' := [(3, .int 0), (2, .int (xFewM n f (xGt tg t))), (0, .ref m0), (1, .int (nI t))]) hx hb dX3_reach_37 rfl hl (by decide) rfl (fun ls hl => ?_)
  have hP : xP γ [xO m0 3 [.int 0, .int (nI n), .int (nI kc), .int td, .ref m1, .ref m2, .ref m3, .ref m4], xA γ m1 12 (xCp f (xGt tg t) 0), xA γ m3 72 tg, xA γ m4 14 h76x] H := by simpa only [xCp_0] using hP
  have hD : va_D A [xO m0 3 [.int 0, .int (nI n), .int (nI kc), .int td, .ref m1, .ref m2, .ref m3, .ref m4], xA γ m1 12 (xCp f (xGt tg t) 0), xA γ m3 72 tg, xA γ m4 14 h76x] := by simpa only [xCp_0] using hD
  have loop38 : ∀ j : Nat, ∀ (k : Nat), k + j = n → ∀ (H : Heap) (locs : List Loc), xP γ ([xO m0 3 [.int 0, .int (nI n), .int (nI kc), .int td, .ref m1, .ref m2, .ref m3, .ref m4], xA γ m1 12 (xCp f (xGt tg t) k), xA γ m3 72 tg, xA γ m4 14 h76x]) H → va_D A ([xO m0 3 [.int 0, .int (nI n), .int (nI kc), .int td, .ref m1, .ref m2, .ref m3, .ref m4], xA γ m1 12 (xCp f (xGt tg t) k), xA γ m3 72 tg, xA γ m4 14 h76x]) → va_S A s.heap H locs → ∀ ls : Array Slot, lv_has ls 4 [(0, .ref m0), (1, .int (nI t)), (2, .int (xFewM n f (xGt tg t))), (3, .int (nI k))] → W p l e ({ frames := 4, cells := 0, slots := 0, locals := 93 } : Room) s m args below meth c H locs 0 0 Q (F0 m 38 ls []) := by
    intro j
    induction j with
    | zero =>
      intro k hj H locs hP hD hS ls hl
      refine lv_iload_n hx hb dX3_reach_38 rfl (lv_at hl 3 rfl) ?_
      refine lv_aload_n hx hb dX3_reach_39 rfl (lv_at hl 0 rfl) ?_
      refine va_get (D := γ.1) (ci := 3) (v := .int (nI n)) (C := RX3) (T := TX3) (N := 8) hx hb hts iwX3_reach_3 hown hK hP 0 rfl rfl 1 (by decide) (hts _ flX3_reach_7) (fun _ h9 => h9) rfl dX3_reach_40 ?_
      refine lv_icmp_ge (tgt := 64) hx hb dX3_reach_43 (by decide) (fun _ => ?_) (fun c => absurd (nI_le (a := n) (b := k) (by omega) (by omega)) c)
      refine lv_aload_n hx hb dX3_reach_64 rfl (lv_at hl 0 rfl) ?_
      refine lv_dup hx hb dX3_reach_65 rfl ?_
      refine va_get (D := γ.1) (ci := 3) (v := .int td) (C := RX3) (T := TX3) (N := 8) hx hb hts iwX3_reach_3 hown hK hP 0 rfl rfl 3 (by decide) (hts _ flX3_reach_74) (fun _ h9 => h9) rfl dX3_reach_66 ?_
      refine lv_iload_n hx hb dX3_reach_69 rfl (lv_at hl 2 rfl) ?_
      refine lv_iadd hx hb dX3_reach_70 ?_
      refine va_put (D := γ.1) (ci := 3) (v := .int (td + (xFewM n f (xGt tg t)))) (ty := .int) (C := RX3) (T := TX3) (N := 8) hx hb hts iwX3_reach_3 tyX3 tyX3_ok nmX3 hown hK hP hD hS 0 rfl rfl 3 (by decide) (hts _ flX3_reach_74) (fun _ h9 => h9) rfl (by decide +kernel) rfl rfl (Nat.le_of_ble_eq_true rfl) dX3_reach_71 (fun H locs hP hD hS => ?_)
      have hP : xP γ ([xO m0 3 [.int 0, .int (nI n), .int (nI kc), .int (td + (xFewM n f (xGt tg t))), .ref m1, .ref m2, .ref m3, .ref m4], xA γ m1 12 (xCp f (xGt tg t) k), xA γ m3 72 tg, xA γ m4 14 h76x]) H := hP
      have hD : va_D A ([xO m0 3 [.int 0, .int (nI n), .int (nI kc), .int (td + (xFewM n f (xGt tg t))), .ref m1, .ref m2, .ref m3, .ref m4], xA γ m1 12 (xCp f (xGt tg t) k), xA γ m3 72 tg, xA γ m4 14 h76x]) := hD
      refine lv_iload_n hx hb dX3_reach_74 rfl (lv_at hl 2 rfl) ?_
      subst hQ
      exact xM_i hx hb hr hlocks dX3_reach_75 hP rfl hS (Nat.le_of_ble_eq_true rfl) (Nat.le_of_ble_eq_true rfl) (⟨rfl, _, by rw [show k = n by omega]⟩)
    | succ j ih38 =>
      intro k hj H locs hP hD hS ls hl
      refine lv_iload_n hx hb dX3_reach_38 rfl (lv_at hl 3 rfl) ?_
      refine lv_aload_n hx hb dX3_reach_39 rfl (lv_at hl 0 rfl) ?_
      refine va_get (D := γ.1) (ci := 3) (v := .int (nI n)) (C := RX3) (T := TX3) (N := 8) hx hb hts iwX3_reach_3 hown hK hP 0 rfl rfl 1 (by decide) (hts _ flX3_reach_7) (fun _ h9 => h9) rfl dX3_reach_40 ?_
      refine lv_icmp_ge (tgt := 64) hx hb dX3_reach_43 (by decide) (fun c => absurd c (nI_ge (a := k) (b := n) (by omega) (by omega))) (fun _ => ?_)
      refine lv_aload_n hx hb dX3_reach_46 rfl (lv_at hl 0 rfl) ?_
      refine va_get (D := γ.1) (ci := 3) (v := .ref m1) (C := RX3) (T := TX3) (N := 8) hx hb hts iwX3_reach_3 hown hK hP 0 rfl rfl 4 (by decide) (hts _ flX3_reach_13) (fun _ h9 => h9) rfl dX3_reach_47 ?_
      refine lv_iload_n hx hb dX3_reach_50 rfl (lv_at hl 3 rfl) ?_
      refine lv_aload_n hx hb dX3_reach_51 rfl (lv_at hl 0 rfl) ?_
      refine lv_iload_n hx hb dX3_reach_52 rfl (lv_at hl 1 rfl) ?_
      refine lv_iload_n hx hb dX3_reach_53 rfl (lv_at hl 3 rfl) ?_
      refine xVR (q0 := 0) (ci := 3) (As := [.int (nI t), .int (nI k)]) (rest := [.int (nI k), .ref m1]) (stk := [.int (xGt tg t k), .int (nI k), .ref m1]) ⟨hx, hb, hml, hown, hts⟩ (c_X3_goal γ l m0 m1 m2 m3 m4 n kc 0 td tg t k (by omega) (by omega)) (cwV 2 hts gX3_reach_X3_goal rfl rfl rfl hdv_X3_goal ⟨(Nat.le_of_ble_eq_true rfl), (Nat.le_of_ble_eq_true rfl)⟩) hK hP [0, 2] rfl rfl rfl rfl hl.1 rfl (Nat.le_of_ble_eq_true rfl) dX3_reach_54 ⟨(Nat.le_of_ble_eq_true rfl), (Nat.le_of_ble_eq_true rfl)⟩ rfl ?_
      refine x_iast (f := xCp f (xGt tg t) k) hx hb hK hP hD hS 1 rfl k rfl (by omega) (by omega) dX3_reach_57 (fun H locs hP hD hS => ?_)
      rw [xCp_s f (xGt tg t) k] at hP hD
      have hP : xP γ ([xO m0 3 [.int 0, .int (nI n), .int (nI kc), .int td, .ref m1, .ref m2, .ref m3, .ref m4], xA γ m1 12 (xCp f (xGt tg t) (k + 1)), xA γ m3 72 tg, xA γ m4 14 h76x]) H := hP
      have hD : va_D A ([xO m0 3 [.int 0, .int (nI n), .int (nI kc), .int td, .ref m1, .ref m2, .ref m3, .ref m4], xA γ m1 12 (xCp f (xGt tg t) (k + 1)), xA γ m3 72 tg, xA γ m4 14 h76x]) := hD
      refine lv_iinc (v := nI (k + 1)) (lv' := [(3, .int (nI (k + 1))), (0, .ref m0), (1, .int (nI t)), (2, .int (xFewM n f (xGt tg t)))]) hx hb dX3_reach_58 hl (k := 3) rfl (nI_add k 1) (by decide) rfl (fun ls hl => ?_)
      refine lv_goto (tgt := 38) hx hb dX3_reach_61 (by decide) ?_
      exact ih38 (k + 1) (by omega) _ _ hP hD hS ls (lv_sub hl [1, 2, 3, 0] rfl)
  exact loop38 n 0 (by omega) _ _ hP hD hS ls (lv_sub hl [2, 3, 1, 0] rfl)

set_option maxHeartbeats 4000000 in
set_option maxRecDepth 100000 in
theorem c_X3_reach_x1 (γ : xG) (l : Launch) (m0 m1 m2 m3 m4 n kc : Nat) (th td : Int32) (x : Int32) (hxb : xInB x 0 (nI kc - 1) = false)  : xM γ l yX3_reach wsX3_reach ({ frames := 2, cells := 0, slots := 0, locals := 43 } : Room) [.ref m0, .int x] ([xO m0 3 [.int th, .int (nI n), .int (nI kc), .int td, .ref m1, .ref m2, .ref m3, .ref m4]]) (fun r9 w9 => r9 = some (.int 0) ∧ w9 = [xO m0 3 [.int 1, .int (nI n), .int (nI kc), .int td, .ref m1, .ref m2, .ref m3, .ref m4]]) 0 0 := by
  refine xM.of (cc := cX3_reach) (maxL := 4) (ret := (some .int)) (by decide +kernel) rfl (Nat.le_of_ble_eq_true rfl) ?_
  intro p e s m below meth c hx hb hr hml hts hown hlocks hin hP hK A hA hD ls hl
  have hS : va_S A s.heap s.heap [] := va_S.rf
  generalize hargs : ([.ref m0, .int x] : List Value).toArray = args at hts ⊢
  obtain ⟨Q, hQ⟩ : ∃ Q9, Q9 = MQ below (xMQ γ (List.map Prod.fst ([xO m0 3 [.int th, .int (nI n), .int (nI kc), .int td, .ref m1, .ref m2, .ref m3, .ref m4]])) A (fun r9 w9 => r9 = some (.int 0) ∧ w9 = [xO m0 3 [.int 1, .int (nI n), .int (nI kc), .int td, .ref m1, .ref m2, .ref m3, .ref m4]])) args s 0 0 A := ⟨_, rfl⟩
  rw [← hQ]
  have hown : s.vm.findClass RX3 = some m.cls := hown
  have hl : lv_has ls 4 [(0, .ref m0), (1, .int x)] := hl
  refine lv_aload_n hx hb dX3_reach_0 rfl (lv_at hl 0 rfl) ?_
  refine lv_iconst (v := 0) hx hb dX3_reach_1 (by decide) ?_
  refine va_put (D := γ.1) (ci := 3) (v := .int 0) (ty := .int) (C := RX3) (T := TX3) (N := 8) hx hb hts iwX3_reach_3 tyX3 tyX3_ok nmX3 hown hK hP hD hS 0 rfl rfl 0 (by decide) (hts _ flX3_reach_26) (fun _ h9 => h9) rfl (by decide +kernel) rfl rfl (Nat.le_of_ble_eq_true rfl) dX3_reach_2 (fun H locs hP hD hS => ?_)
  have hP : xP γ ([xO m0 3 [.int 0, .int (nI n), .int (nI kc), .int td, .ref m1, .ref m2, .ref m3, .ref m4]]) H := hP
  have hD : va_D A ([xO m0 3 [.int 0, .int (nI n), .int (nI kc), .int td, .ref m1, .ref m2, .ref m3, .ref m4]]) := hD
  refine lv_aload_n hx hb dX3_reach_5 rfl (lv_at hl 0 rfl) ?_
  refine lv_iload_n hx hb dX3_reach_6 rfl (lv_at hl 1 rfl) ?_
  refine xVR (q0 := 0) (ci := 3) (As := [.int x]) (rest := []) (stk := [.int (if xInB x 0 (nI kc - 1) = true then 1 else 0)]) ⟨hx, hb, hml, hown, hts⟩ (c_X3_isTarget γ l m0 m1 m2 m3 m4 n kc 0 td x) (cwV 1 hts gX3_reach_X3_isTarget rfl rfl rfl hdv_X3_isTarget ⟨(Nat.le_of_ble_eq_true rfl), (Nat.le_of_ble_eq_true rfl)⟩) hK hP [0] rfl rfl rfl rfl hl.1 rfl (Nat.le_of_ble_eq_true rfl) dX3_reach_7 ⟨(Nat.le_of_ble_eq_true rfl), (Nat.le_of_ble_eq_true rfl)⟩ rfl ?_
  refine lv_if_ne (tgt := 19) hx hb dX3_reach_10 (by decide) (fun c => absurd (xB_eq hxb) c) (fun _ => ?_)
  refine lv_aload_n hx hb dX3_reach_13 rfl (lv_at hl 0 rfl) ?_
  refine lv_iconst (v := 1) hx hb dX3_reach_14 (by decide) ?_
  refine xVM (q0 := 0) (ci := 3) (As := [.int 1]) (rest := []) ⟨hx, hb, hml, hown, hts⟩ (c_X3_no γ l m0 m1 m2 m3 m4 n kc 0 td 1) (cwV 1 hts gX3_reach_X3_no rfl rfl rfl hdv_X3_no ⟨(Nat.le_of_ble_eq_true rfl), (Nat.le_of_ble_eq_true rfl)⟩) hK hP hD hS hA [0] rfl rfl rfl rfl rfl hl.1 rfl (Nat.le_of_ble_eq_true rfl) dX3_reach_15 ⟨(Nat.le_of_ble_eq_true rfl), (Nat.le_of_ble_eq_true rfl)⟩ (fun r9 w9 H locs hw hP hD hS => ?_)
  obtain ⟨rfl, rfl⟩ := hw
  have hP : xP γ ([xO m0 3 [.int 1, .int (nI n), .int (nI kc), .int td, .ref m1, .ref m2, .ref m3, .ref m4]]) H := hP
  have hD : va_D A ([xO m0 3 [.int 1, .int (nI n), .int (nI kc), .int td, .ref m1, .ref m2, .ref m3, .ref m4]]) := hD
  refine W.eq (g2 := F0 m 18 ls [.int 0]) rfl ?_
  subst hQ
  exact xM_i hx hb hr hlocks dX3_reach_18 hP rfl hS (Nat.le_of_ble_eq_true rfl) (Nat.le_of_ble_eq_true rfl) (⟨rfl, rfl⟩)

set_option maxHeartbeats 4000000 in
set_option maxRecDepth 100000 in
theorem c_X3_reach_x2 (γ : xG) (l : Launch) (m0 m1 m2 m3 m4 n kc : Nat) (th td : Int32) (f tg tp : xRow) (t : Nat) (hn0 : 3 ≤ n) (hn1 : n ≤ 12) (ht : t < kc) (hkc : kc ≤ 6) (hs : xFewM n f (xGt tg t) = -1)  : xM γ l yX3_reach wsX3_reach ({ frames := 4, cells := 0, slots := 0, locals := 93 } : Room) [.ref m0, .int (nI t)] ([xO m0 3 [.int th, .int (nI n), .int (nI kc), .int td, .ref m1, .ref m2, .ref m3, .ref m4], xA γ m1 12 f, xA γ m3 72 tg, xA γ m4 14 tp]) (fun r9 w9 => r9 = some (.int 0) ∧ ∃ h9 : xRow, w9 = [xO m0 3 [.int 2, .int (nI n), .int (nI kc), .int td, .ref m1, .ref m2, .ref m3, .ref m4], xA γ m1 12 f, xA γ m3 72 tg, xA γ m4 14 h9]) 0 0 := by
  refine xM.of (cc := cX3_reach) (maxL := 4) (ret := (some .int)) (by decide +kernel) rfl (Nat.le_of_ble_eq_true rfl) ?_
  intro p e s m below meth c hx hb hr hml hts hown hlocks hin hP hK A hA hD ls hl
  have hS : va_S A s.heap s.heap [] := va_S.rf
  generalize hargs : ([.ref m0, .int (nI t)] : List Value).toArray = args at hts ⊢
  obtain ⟨Q, hQ⟩ : ∃ Q9, Q9 = MQ below (xMQ γ (List.map Prod.fst ([xO m0 3 [.int th, .int (nI n), .int (nI kc), .int td, .ref m1, .ref m2, .ref m3, .ref m4], xA γ m1 12 f, xA γ m3 72 tg, xA γ m4 14 tp])) A (fun r9 w9 => r9 = some (.int 0) ∧ ∃ h9 : xRow, w9 = [xO m0 3 [.int 2, .int (nI n), .int (nI kc), .int td, .ref m1, .ref m2, .ref m3, .ref m4], xA γ m1 12 f, xA γ m3 72 tg, xA γ m4 14 h9])) args s 0 0 A := ⟨_, rfl⟩
  rw [← hQ]
  have hown : s.vm.findClass RX3 = some m.cls := hown
  have hl : lv_has ls 4 [(0, .ref m0), (1, .int (nI t))] := hl
  refine lv_aload_n hx hb dX3_reach_0 rfl (lv_at hl 0 rfl) ?_
  refine lv_iconst (v := 0) hx hb dX3_reach_1 (by decide) ?_
  refine va_put (D := γ.1) (ci := 3) (v := .int 0) (ty := .int) (C := RX3) (T := TX3) (N := 8) hx hb hts iwX3_reach_3 tyX3 tyX3_ok nmX3 hown hK hP hD hS 0 rfl rfl 0 (by decide) (hts _ flX3_reach_26) (fun _ h9 => h9) rfl (by decide +kernel) rfl rfl (Nat.le_of_ble_eq_true rfl) dX3_reach_2 (fun H locs hP hD hS => ?_)
  have hP : xP γ ([xO m0 3 [.int 0, .int (nI n), .int (nI kc), .int td, .ref m1, .ref m2, .ref m3, .ref m4], xA γ m1 12 f, xA γ m3 72 tg, xA γ m4 14 tp]) H := hP
  have hD : va_D A ([xO m0 3 [.int 0, .int (nI n), .int (nI kc), .int td, .ref m1, .ref m2, .ref m3, .ref m4], xA γ m1 12 f, xA γ m3 72 tg, xA γ m4 14 tp]) := hD
  refine lv_aload_n hx hb dX3_reach_5 rfl (lv_at hl 0 rfl) ?_
  refine lv_iload_n hx hb dX3_reach_6 rfl (lv_at hl 1 rfl) ?_
  refine xVR (q0 := 0) (ci := 3) (As := [.int (nI t)]) (rest := []) (stk := [.int (if xInB (nI t) 0 (nI kc - 1) = true then 1 else 0)]) ⟨hx, hb, hml, hown, hts⟩ (c_X3_isTarget γ l m0 m1 m2 m3 m4 n kc 0 td (nI t)) (cwV 1 hts gX3_reach_X3_isTarget rfl rfl rfl hdv_X3_isTarget ⟨(Nat.le_of_ble_eq_true rfl), (Nat.le_of_ble_eq_true rfl)⟩) hK hP [0] rfl rfl rfl rfl hl.1 rfl (Nat.le_of_ble_eq_true rfl) dX3_reach_7 ⟨(Nat.le_of_ble_eq_true rfl), (Nat.le_of_ble_eq_true rfl)⟩ rfl ?_
  refine lv_if_ne (tgt := 19) hx hb dX3_reach_10 (by decide) (fun _ => ?_) (fun c => absurd c (xB_ne (xIn_pl ht (by omega))))
  refine lv_aload_n hx hb dX3_reach_19 rfl (lv_at hl 0 rfl) ?_
  refine lv_iload_n hx hb dX3_reach_20 rfl (lv_at hl 1 rfl) ?_
  refine xVM (q0 := 0) (ci := 3) (As := [.int (nI t)]) (rest := []) ⟨hx, hb, hml, hown, hts⟩ (c_X3_fewest γ l m0 m1 m2 m3 m4 n kc 0 td f tg tp t (by omega) (by omega) (by omega)) (cwV 1 hts gX3_reach_X3_fewest rfl rfl rfl hdv_X3_fewest ⟨(Nat.le_of_ble_eq_true rfl), (Nat.le_of_ble_eq_true rfl)⟩) hK hP hD hS hA [0, 1, 2, 3] rfl rfl rfl rfl rfl hl.1 rfl (Nat.le_of_ble_eq_true rfl) dX3_reach_21 ⟨(Nat.le_of_ble_eq_true rfl), (Nat.le_of_ble_eq_true rfl)⟩ (fun r9 w9 H locs hw hP hD hS => ?_)
  obtain ⟨rfl, h78x, rfl⟩ := hw
  have hP : xP γ ([xO m0 3 [.int 0, .int (nI n), .int (nI kc), .int td, .ref m1, .ref m2, .ref m3, .ref m4], xA γ m1 12 f, xA γ m3 72 tg, xA γ m4 14 h78x]) H := hP
  have hD : va_D A ([xO m0 3 [.int 0, .int (nI n), .int (nI kc), .int td, .ref m1, .ref m2, .ref m3, .ref m4], xA γ m1 12 f, xA γ m3 72 tg, xA γ m4 14 h78x]) := hD
  refine W.eq (g2 := F0 m 24 ls [.int (xFewM n f (xGt tg t))]) rfl ?_
  refine lv_istore_n (lv' := [(2, .int (xFewM n f (xGt tg t))), (0, .ref m0), (1, .int (nI t))]) hx hb dX3_reach_24 rfl hl (by decide) rfl (fun ls hl => ?_)
  refine lv_iload_n hx hb dX3_reach_25 rfl (lv_at hl 0 rfl) ?_
  refine lv_iconst (v := (-1)) hx hb dX3_reach_26 (by decide) ?_
  refine lv_icmp_ne (tgt := 36) hx hb dX3_reach_27 (by decide) (fun c => absurd (hs) c) (fun _ => ?_)
  refine lv_aload_n hx hb dX3_reach_30 rfl (lv_at hl 1 rfl) ?_
  refine lv_iconst (v := 2) hx hb dX3_reach_31 (by decide) ?_
  refine xVM (q0 := 0) (ci := 3) (As := [.int 2]) (rest := []) ⟨hx, hb, hml, hown, hts⟩ (c_X3_no γ l m0 m1 m2 m3 m4 n kc 0 td 2) (cwV 1 hts gX3_reach_X3_no rfl rfl rfl hdv_X3_no ⟨(Nat.le_of_ble_eq_true rfl), (Nat.le_of_ble_eq_true rfl)⟩) hK hP hD hS hA [0] rfl rfl rfl rfl rfl hl.1 rfl (Nat.le_of_ble_eq_true rfl) dX3_reach_32 ⟨(Nat.le_of_ble_eq_true rfl), (Nat.le_of_ble_eq_true rfl)⟩ (fun r9 w9 H locs hw hP hD hS => ?_)
  obtain ⟨rfl, rfl⟩ := hw
  have hP : xP γ ([xO m0 3 [.int 2, .int (nI n), .int (nI kc), .int td, .ref m1, .ref m2, .ref m3, .ref m4], xA γ m1 12 f, xA γ m3 72 tg, xA γ m4 14 h78x]) H := hP
  have hD : va_D A ([xO m0 3 [.int 2, .int (nI n), .int (nI kc), .int td, .ref m1, .ref m2, .ref m3, .ref m4], xA γ m1 12 f, xA γ m3 72 tg, xA γ m4 14 h78x]) := hD
  refine W.eq (g2 := F0 m 35 ls [.int 0]) rfl ?_
  subst hQ
  exact xM_i hx hb hr hlocks dX3_reach_35 hP rfl hS (Nat.le_of_ble_eq_true rfl) (Nat.le_of_ble_eq_true rfl) (⟨rfl, _, rfl⟩)

theorem flX3_spreadWith_26 : Cond.fieldLink RX3 26 "RingSeesawModel" "thrown" "I" ∈ wsX3_spreadWith := by decide +kernel
theorem iwX3_spreadWith_3 : ∀ w ∈ wsX30, w ∈ wsX3_spreadWith := by decide +kernel
set_option maxHeartbeats 4000000 in
set_option maxRecDepth 100000 in
theorem c_X3_spreadWith (γ : xG) (l : Launch) (m0 m1 m2 m3 m4 n kc : Nat) (th td : Int32) (f tf : xRow) (k : Nat) (x : Int32) (hn0 : 3 ≤ n) (hn1 : n ≤ 12) (hk : k < n) (h1 : ¬ x < (-50)) (h2 : x ≤ 50) : xM γ l yX3_spreadWith wsX3_spreadWith ({ frames := 3, cells := 0, slots := 0, locals := 102 } : Room) [.ref m0, .int (nI k), .int x] ([xO m0 3 [.int th, .int (nI n), .int (nI kc), .int td, .ref m1, .ref m2, .ref m3, .ref m4], xA γ m1 12 f, xA γ m2 12 tf]) (fun r9 w9 => r9 = some (.int (xSpn n (xTip n f k x))) ∧ ∃ h9 : xRow, w9 = [xO m0 3 [.int 0, .int (nI n), .int (nI kc), .int td, .ref m1, .ref m2, .ref m3, .ref m4], xA γ m1 12 f, xA γ m2 12 h9]) 0 0 := by
  refine xM.of (cc := cX3_spreadWith) (maxL := 3) (ret := (some .int)) (by decide +kernel) rfl (Nat.le_of_ble_eq_true rfl) ?_
  intro p e s m below meth c hx hb hr hml hts hown hlocks hin hP hK A hA hD ls hl
  have hS : va_S A s.heap s.heap [] := va_S.rf
  generalize hargs : ([.ref m0, .int (nI k), .int x] : List Value).toArray = args at hts ⊢
  obtain ⟨Q, hQ⟩ : ∃ Q9, Q9 = MQ below (xMQ γ (List.map Prod.fst ([xO m0 3 [.int th, .int (nI n), .int (nI kc), .int td, .ref m1, .ref m2, .ref m3, .ref m4], xA γ m1 12 f, xA γ m2 12 tf])) A (fun r9 w9 => r9 = some (.int (xSpn n (xTip n f k x))) ∧ ∃ h9 : xRow, w9 = [xO m0 3 [.int 0, .int (nI n), .int (nI kc), .int td, .ref m1, .ref m2, .ref m3, .ref m4], xA γ m1 12 f, xA γ m2 12 h9])) args s 0 0 A := ⟨_, rfl⟩
  rw [← hQ]
  have hown : s.vm.findClass RX3 = some m.cls := hown
  have hl : lv_has ls 3 [(0, .ref m0), (1, .int (nI k)), (2, .int x)] := hl
  refine lv_aload_n hx hb dX3_spreadWith_0 rfl (lv_at hl 0 rfl) ?_
  refine lv_iconst (v := 0) hx hb dX3_spreadWith_1 (by decide) ?_
  refine va_put (D := γ.1) (ci := 3) (v := .int 0) (ty := .int) (C := RX3) (T := TX3) (N := 8) hx hb hts iwX3_spreadWith_3 tyX3 tyX3_ok nmX3 hown hK hP hD hS 0 rfl rfl 0 (by decide) (hts _ flX3_spreadWith_26) (fun _ h9 => h9) rfl (by decide +kernel) rfl rfl (Nat.le_of_ble_eq_true rfl) dX3_spreadWith_2 (fun H locs hP hD hS => ?_)
  have hP : xP γ ([xO m0 3 [.int 0, .int (nI n), .int (nI kc), .int td, .ref m1, .ref m2, .ref m3, .ref m4], xA γ m1 12 f, xA γ m2 12 tf]) H := hP
  have hD : va_D A ([xO m0 3 [.int 0, .int (nI n), .int (nI kc), .int td, .ref m1, .ref m2, .ref m3, .ref m4], xA γ m1 12 f, xA γ m2 12 tf]) := hD
  refine lv_aload_n hx hb dX3_spreadWith_5 rfl (lv_at hl 0 rfl) ?_
  refine lv_iload_n hx hb dX3_spreadWith_6 rfl (lv_at hl 1 rfl) ?_
  refine xVR (q0 := 0) (ci := 3) (As := [.int (nI k)]) (rest := []) (stk := [.int (if xInB (nI k) 0 (nI n - 1) = true then 1 else 0)]) ⟨hx, hb, hml, hown, hts⟩ (c_X3_isPlace γ l m0 m1 m2 m3 m4 n kc 0 td (nI k)) (cwV 1 hts gX3_spreadWith_X3_isPlace rfl rfl rfl hdv_X3_isPlace ⟨(Nat.le_of_ble_eq_true rfl), (Nat.le_of_ble_eq_true rfl)⟩) hK hP [0] rfl rfl rfl rfl hl.1 rfl (Nat.le_of_ble_eq_true rfl) dX3_spreadWith_7 ⟨(Nat.le_of_ble_eq_true rfl), (Nat.le_of_ble_eq_true rfl)⟩ rfl ?_
  refine lv_if_ne (tgt := 19) hx hb dX3_spreadWith_10 (by decide) (fun _ => ?_) (fun c => absurd c (xB_ne (xIn_pl hk hn1)))
  refine lv_iload_n hx hb dX3_spreadWith_19 rfl (lv_at hl 2 rfl) ?_
  refine lv_bipush (v := (-50)) hx hb dX3_spreadWith_20 (by decide) ?_
  refine lv_bipush (v := 50) hx hb dX3_spreadWith_22 (by decide) ?_
  refine xSR (As := [.int x, .int (-50), .int 50]) (rest := []) (stk := [.int (if xInB x (-50) 50 = true then 1 else 0)]) ⟨hx, hb, hml, hown, hts⟩ (c_X3_isIn γ l x (-50) 50) (va_cwS 3 hts gX3_spreadWith_X3_isIn rfl rfl rfl hds_X3_isIn ⟨(Nat.le_of_ble_eq_true rfl), (Nat.le_of_ble_eq_true rfl)⟩) hK hP [] rfl rfl hl.1 rfl (Nat.le_of_ble_eq_true rfl) dX3_spreadWith_24 ⟨(Nat.le_of_ble_eq_true rfl), (Nat.le_of_ble_eq_true rfl)⟩ rfl ?_
  refine lv_if_eq (tgt := 39) hx hb dX3_spreadWith_27 (by decide) (fun c => absurd c (xB_ne (xInB_le h1 h2))) (fun _ => ?_)
  refine lv_aload_n hx hb dX3_spreadWith_30 rfl (lv_at hl 0 rfl) ?_
  refine lv_iload_n hx hb dX3_spreadWith_31 rfl (lv_at hl 1 rfl) ?_
  refine lv_iload_n hx hb dX3_spreadWith_32 rfl (lv_at hl 2 rfl) ?_
  refine xVM (q0 := 0) (ci := 3) (As := [.int (nI k), .int x]) (rest := []) ⟨hx, hb, hml, hown, hts⟩ (c_X3_wideWith γ l m0 m1 m2 m3 m4 n kc 0 td f tf k x (by omega) (by omega) (by omega)) (cwV 2 hts gX3_spreadWith_X3_wideWith rfl rfl rfl hdv_X3_wideWith ⟨(Nat.le_of_ble_eq_true rfl), (Nat.le_of_ble_eq_true rfl)⟩) hK hP hD hS hA [0, 1, 2] rfl rfl rfl rfl rfl hl.1 rfl (Nat.le_of_ble_eq_true rfl) dX3_spreadWith_33 ⟨(Nat.le_of_ble_eq_true rfl), (Nat.le_of_ble_eq_true rfl)⟩ (fun r9 w9 H locs hw hP hD hS => ?_)
  obtain ⟨rfl, h80x, rfl⟩ := hw
  have hP : xP γ ([xO m0 3 [.int 0, .int (nI n), .int (nI kc), .int td, .ref m1, .ref m2, .ref m3, .ref m4], xA γ m1 12 f, xA γ m2 12 h80x]) H := hP
  have hD : va_D A ([xO m0 3 [.int 0, .int (nI n), .int (nI kc), .int td, .ref m1, .ref m2, .ref m3, .ref m4], xA γ m1 12 f, xA γ m2 12 h80x]) := hD
  refine W.eq (g2 := F0 m 36 ls [.int (xSpn n (xTip n f k x))]) rfl ?_
  refine lv_goto (tgt := 44) hx hb dX3_spreadWith_36 (by decide) ?_
  subst hQ
  exact xM_i hx hb hr hlocks dX3_spreadWith_44 hP rfl hS (Nat.le_of_ble_eq_true rfl) (Nat.le_of_ble_eq_true rfl) (⟨rfl, _, rfl⟩)

set_option maxHeartbeats 4000000 in
set_option maxRecDepth 100000 in
theorem c_X3_spreadWith_x1 (γ : xG) (l : Launch) (m0 m1 m2 m3 m4 n kc : Nat) (th td : Int32) (x y : Int32) (hxb : xInB x 0 (nI n - 1) = false)  : xM γ l yX3_spreadWith wsX3_spreadWith ({ frames := 2, cells := 0, slots := 0, locals := 43 } : Room) [.ref m0, .int x, .int y] ([xO m0 3 [.int th, .int (nI n), .int (nI kc), .int td, .ref m1, .ref m2, .ref m3, .ref m4]]) (fun r9 w9 => r9 = some (.int 0) ∧ w9 = [xO m0 3 [.int 1, .int (nI n), .int (nI kc), .int td, .ref m1, .ref m2, .ref m3, .ref m4]]) 0 0 := by
  refine xM.of (cc := cX3_spreadWith) (maxL := 3) (ret := (some .int)) (by decide +kernel) rfl (Nat.le_of_ble_eq_true rfl) ?_
  intro p e s m below meth c hx hb hr hml hts hown hlocks hin hP hK A hA hD ls hl
  have hS : va_S A s.heap s.heap [] := va_S.rf
  generalize hargs : ([.ref m0, .int x, .int y] : List Value).toArray = args at hts ⊢
  obtain ⟨Q, hQ⟩ : ∃ Q9, Q9 = MQ below (xMQ γ (List.map Prod.fst ([xO m0 3 [.int th, .int (nI n), .int (nI kc), .int td, .ref m1, .ref m2, .ref m3, .ref m4]])) A (fun r9 w9 => r9 = some (.int 0) ∧ w9 = [xO m0 3 [.int 1, .int (nI n), .int (nI kc), .int td, .ref m1, .ref m2, .ref m3, .ref m4]])) args s 0 0 A := ⟨_, rfl⟩
  rw [← hQ]
  have hown : s.vm.findClass RX3 = some m.cls := hown
  have hl : lv_has ls 3 [(0, .ref m0), (1, .int x), (2, .int y)] := hl
  refine lv_aload_n hx hb dX3_spreadWith_0 rfl (lv_at hl 0 rfl) ?_
  refine lv_iconst (v := 0) hx hb dX3_spreadWith_1 (by decide) ?_
  refine va_put (D := γ.1) (ci := 3) (v := .int 0) (ty := .int) (C := RX3) (T := TX3) (N := 8) hx hb hts iwX3_spreadWith_3 tyX3 tyX3_ok nmX3 hown hK hP hD hS 0 rfl rfl 0 (by decide) (hts _ flX3_spreadWith_26) (fun _ h9 => h9) rfl (by decide +kernel) rfl rfl (Nat.le_of_ble_eq_true rfl) dX3_spreadWith_2 (fun H locs hP hD hS => ?_)
  have hP : xP γ ([xO m0 3 [.int 0, .int (nI n), .int (nI kc), .int td, .ref m1, .ref m2, .ref m3, .ref m4]]) H := hP
  have hD : va_D A ([xO m0 3 [.int 0, .int (nI n), .int (nI kc), .int td, .ref m1, .ref m2, .ref m3, .ref m4]]) := hD
  refine lv_aload_n hx hb dX3_spreadWith_5 rfl (lv_at hl 0 rfl) ?_
  refine lv_iload_n hx hb dX3_spreadWith_6 rfl (lv_at hl 1 rfl) ?_
  refine xVR (q0 := 0) (ci := 3) (As := [.int x]) (rest := []) (stk := [.int (if xInB x 0 (nI n - 1) = true then 1 else 0)]) ⟨hx, hb, hml, hown, hts⟩ (c_X3_isPlace γ l m0 m1 m2 m3 m4 n kc 0 td x) (cwV 1 hts gX3_spreadWith_X3_isPlace rfl rfl rfl hdv_X3_isPlace ⟨(Nat.le_of_ble_eq_true rfl), (Nat.le_of_ble_eq_true rfl)⟩) hK hP [0] rfl rfl rfl rfl hl.1 rfl (Nat.le_of_ble_eq_true rfl) dX3_spreadWith_7 ⟨(Nat.le_of_ble_eq_true rfl), (Nat.le_of_ble_eq_true rfl)⟩ rfl ?_
  refine lv_if_ne (tgt := 19) hx hb dX3_spreadWith_10 (by decide) (fun c => absurd (xB_eq hxb) c) (fun _ => ?_)
  refine lv_aload_n hx hb dX3_spreadWith_13 rfl (lv_at hl 0 rfl) ?_
  refine lv_iconst (v := 1) hx hb dX3_spreadWith_14 (by decide) ?_
  refine xVM (q0 := 0) (ci := 3) (As := [.int 1]) (rest := []) ⟨hx, hb, hml, hown, hts⟩ (c_X3_no γ l m0 m1 m2 m3 m4 n kc 0 td 1) (cwV 1 hts gX3_spreadWith_X3_no rfl rfl rfl hdv_X3_no ⟨(Nat.le_of_ble_eq_true rfl), (Nat.le_of_ble_eq_true rfl)⟩) hK hP hD hS hA [0] rfl rfl rfl rfl rfl hl.1 rfl (Nat.le_of_ble_eq_true rfl) dX3_spreadWith_15 ⟨(Nat.le_of_ble_eq_true rfl), (Nat.le_of_ble_eq_true rfl)⟩ (fun r9 w9 H locs hw hP hD hS => ?_)
  obtain ⟨rfl, rfl⟩ := hw
  have hP : xP γ ([xO m0 3 [.int 1, .int (nI n), .int (nI kc), .int td, .ref m1, .ref m2, .ref m3, .ref m4]]) H := hP
  have hD : va_D A ([xO m0 3 [.int 1, .int (nI n), .int (nI kc), .int td, .ref m1, .ref m2, .ref m3, .ref m4]]) := hD
  refine W.eq (g2 := F0 m 18 ls [.int 0]) rfl ?_
  subst hQ
  exact xM_i hx hb hr hlocks dX3_spreadWith_18 hP rfl hS (Nat.le_of_ble_eq_true rfl) (Nat.le_of_ble_eq_true rfl) (⟨rfl, rfl⟩)

set_option maxHeartbeats 4000000 in
set_option maxRecDepth 100000 in
theorem c_X3_spreadWith_x2 (γ : xG) (l : Launch) (m0 m1 m2 m3 m4 n kc : Nat) (th td : Int32) (k : Nat) (x : Int32) (hn0 : 3 ≤ n) (hn1 : n ≤ 12) (hk : k < n) (hxb : xInB x (-50) 50 = false)  : xM γ l yX3_spreadWith wsX3_spreadWith ({ frames := 2, cells := 0, slots := 0, locals := 43 } : Room) [.ref m0, .int (nI k), .int x] ([xO m0 3 [.int th, .int (nI n), .int (nI kc), .int td, .ref m1, .ref m2, .ref m3, .ref m4]]) (fun r9 w9 => r9 = some (.int 0) ∧ w9 = [xO m0 3 [.int 2, .int (nI n), .int (nI kc), .int td, .ref m1, .ref m2, .ref m3, .ref m4]]) 0 0 := by
  refine xM.of (cc := cX3_spreadWith) (maxL := 3) (ret := (some .int)) (by decide +kernel) rfl (Nat.le_of_ble_eq_true rfl) ?_
  intro p e s m below meth c hx hb hr hml hts hown hlocks hin hP hK A hA hD ls hl
  have hS : va_S A s.heap s.heap [] := va_S.rf
  generalize hargs : ([.ref m0, .int (nI k), .int x] : List Value).toArray = args at hts ⊢
  obtain ⟨Q, hQ⟩ : ∃ Q9, Q9 = MQ below (xMQ γ (List.map Prod.fst ([xO m0 3 [.int th, .int (nI n), .int (nI kc), .int td, .ref m1, .ref m2, .ref m3, .ref m4]])) A (fun r9 w9 => r9 = some (.int 0) ∧ w9 = [xO m0 3 [.int 2, .int (nI n), .int (nI kc), .int td, .ref m1, .ref m2, .ref m3, .ref m4]])) args s 0 0 A := ⟨_, rfl⟩
  rw [← hQ]
  have hown : s.vm.findClass RX3 = some m.cls := hown
  have hl : lv_has ls 3 [(0, .ref m0), (1, .int (nI k)), (2, .int x)] := hl
  refine lv_aload_n hx hb dX3_spreadWith_0 rfl (lv_at hl 0 rfl) ?_
  refine lv_iconst (v := 0) hx hb dX3_spreadWith_1 (by decide) ?_
  refine va_put (D := γ.1) (ci := 3) (v := .int 0) (ty := .int) (C := RX3) (T := TX3) (N := 8) hx hb hts iwX3_spreadWith_3 tyX3 tyX3_ok nmX3 hown hK hP hD hS 0 rfl rfl 0 (by decide) (hts _ flX3_spreadWith_26) (fun _ h9 => h9) rfl (by decide +kernel) rfl rfl (Nat.le_of_ble_eq_true rfl) dX3_spreadWith_2 (fun H locs hP hD hS => ?_)
  have hP : xP γ ([xO m0 3 [.int 0, .int (nI n), .int (nI kc), .int td, .ref m1, .ref m2, .ref m3, .ref m4]]) H := hP
  have hD : va_D A ([xO m0 3 [.int 0, .int (nI n), .int (nI kc), .int td, .ref m1, .ref m2, .ref m3, .ref m4]]) := hD
  refine lv_aload_n hx hb dX3_spreadWith_5 rfl (lv_at hl 0 rfl) ?_
  refine lv_iload_n hx hb dX3_spreadWith_6 rfl (lv_at hl 1 rfl) ?_
  refine xVR (q0 := 0) (ci := 3) (As := [.int (nI k)]) (rest := []) (stk := [.int (if xInB (nI k) 0 (nI n - 1) = true then 1 else 0)]) ⟨hx, hb, hml, hown, hts⟩ (c_X3_isPlace γ l m0 m1 m2 m3 m4 n kc 0 td (nI k)) (cwV 1 hts gX3_spreadWith_X3_isPlace rfl rfl rfl hdv_X3_isPlace ⟨(Nat.le_of_ble_eq_true rfl), (Nat.le_of_ble_eq_true rfl)⟩) hK hP [0] rfl rfl rfl rfl hl.1 rfl (Nat.le_of_ble_eq_true rfl) dX3_spreadWith_7 ⟨(Nat.le_of_ble_eq_true rfl), (Nat.le_of_ble_eq_true rfl)⟩ rfl ?_
  refine lv_if_ne (tgt := 19) hx hb dX3_spreadWith_10 (by decide) (fun _ => ?_) (fun c => absurd c (xB_ne (xIn_pl hk hn1)))
  refine lv_iload_n hx hb dX3_spreadWith_19 rfl (lv_at hl 2 rfl) ?_
  refine lv_bipush (v := (-50)) hx hb dX3_spreadWith_20 (by decide) ?_
  refine lv_bipush (v := 50) hx hb dX3_spreadWith_22 (by decide) ?_
  refine xSR (As := [.int x, .int (-50), .int 50]) (rest := []) (stk := [.int (if xInB x (-50) 50 = true then 1 else 0)]) ⟨hx, hb, hml, hown, hts⟩ (c_X3_isIn γ l x (-50) 50) (va_cwS 3 hts gX3_spreadWith_X3_isIn rfl rfl rfl hds_X3_isIn ⟨(Nat.le_of_ble_eq_true rfl), (Nat.le_of_ble_eq_true rfl)⟩) hK hP [] rfl rfl hl.1 rfl (Nat.le_of_ble_eq_true rfl) dX3_spreadWith_24 ⟨(Nat.le_of_ble_eq_true rfl), (Nat.le_of_ble_eq_true rfl)⟩ rfl ?_
  refine lv_if_eq (tgt := 39) hx hb dX3_spreadWith_27 (by decide) (fun _ => ?_) (fun c => absurd (xB_eq hxb) c)
  refine lv_aload_n hx hb dX3_spreadWith_39 rfl (lv_at hl 0 rfl) ?_
  refine lv_iconst (v := 2) hx hb dX3_spreadWith_40 (by decide) ?_
  refine xVM (q0 := 0) (ci := 3) (As := [.int 2]) (rest := []) ⟨hx, hb, hml, hown, hts⟩ (c_X3_no γ l m0 m1 m2 m3 m4 n kc 0 td 2) (cwV 1 hts gX3_spreadWith_X3_no rfl rfl rfl hdv_X3_no ⟨(Nat.le_of_ble_eq_true rfl), (Nat.le_of_ble_eq_true rfl)⟩) hK hP hD hS hA [0] rfl rfl rfl rfl rfl hl.1 rfl (Nat.le_of_ble_eq_true rfl) dX3_spreadWith_41 ⟨(Nat.le_of_ble_eq_true rfl), (Nat.le_of_ble_eq_true rfl)⟩ (fun r9 w9 H locs hw hP hD hS => ?_)
  obtain ⟨rfl, rfl⟩ := hw
  have hP : xP γ ([xO m0 3 [.int 2, .int (nI n), .int (nI kc), .int td, .ref m1, .ref m2, .ref m3, .ref m4]]) H := hP
  have hD : va_D A ([xO m0 3 [.int 2, .int (nI n), .int (nI kc), .int td, .ref m1, .ref m2, .ref m3, .ref m4]]) := hD
  refine W.eq (g2 := F0 m 44 ls [.int 0]) rfl ?_
  subst hQ
  exact xM_i hx hb hr hlocks dX3_spreadWith_44 hP rfl hS (Nat.le_of_ble_eq_true rfl) (Nat.le_of_ble_eq_true rfl) (⟨rfl, rfl⟩)

theorem flX3_fits_7 : Cond.fieldLink RX3 7 "RingSeesawModel" "n" "I" ∈ wsX3_fits := by decide +kernel
theorem iwX3_fits_3 : ∀ w ∈ wsX30, w ∈ wsX3_fits := by decide +kernel
theorem flX3_fits_33 : Cond.fieldLink RX3 33 "RingSeesawModel" "targets" "I" ∈ wsX3_fits := by decide +kernel
theorem flX3_fits_13 : Cond.fieldLink RX3 13 "RingSeesawModel" "x" "[I" ∈ wsX3_fits := by decide +kernel
set_option maxHeartbeats 4000000 in
set_option maxRecDepth 100000 in
theorem c_X3_fits (γ : xG) (l : Launch) (m0 m1 m2 m3 m4 n kc : Nat) (th td : Int32) (f tg tp : xRow) (x : Int32) (hn0 : 3 ≤ n) (hn1 : n ≤ 12) (hk0 : 0 < kc) (hkc : kc ≤ 6) : xM γ l yX3_fits wsX3_fits ({ frames := 3, cells := 0, slots := 0, locals := 68 } : Room) [.ref m0, .int x] ([xO m0 3 [.int th, .int (nI n), .int (nI kc), .int td, .ref m1, .ref m2, .ref m3, .ref m4], xA γ m1 12 f, xA γ m3 72 tg, xA γ m4 14 tp]) (fun r9 w9 => r9 = some (.int (xPlM n kc f tg x)) ∧ ∃ h9 : xRow, w9 = [xO m0 3 [.int th, .int (nI n), .int (nI kc), .int td, .ref m1, .ref m2, .ref m3, .ref m4], xA γ m1 12 f, xA γ m3 72 tg, xA γ m4 14 h9]) 0 0 := by
  refine xM.of (cc := cX3_fits) (maxL := 5) (ret := (some .int)) (by decide +kernel) rfl (Nat.le_of_ble_eq_true rfl) ?_
  intro p e s m below meth c hx hb hr hml hts hown hlocks hin hP hK A hA hD ls hl
  have hS : va_S A s.heap s.heap [] := va_S.rf
  generalize hargs : ([.ref m0, .int x] : List Value).toArray = args at hts ⊢
  obtain ⟨Q, hQ⟩ : ∃ Q9, Q9 = MQ below (xMQ γ (List.map Prod.fst ([xO m0 3 [.int th, .int (nI n), .int (nI kc), .int td, .ref m1, .ref m2, .ref m3, .ref m4], xA γ m1 12 f, xA γ m3 72 tg, xA γ m4 14 tp])) A (fun r9 w9 => r9 = some (.int (xPlM n kc f tg x)) ∧ ∃ h9 : xRow, w9 = [xO m0 3 [.int th, .int (nI n), .int (nI kc), .int td, .ref m1, .ref m2, .ref m3, .ref m4], xA γ m1 12 f, xA γ m3 72 tg, xA γ m4 14 h9])) args s 0 0 A := ⟨_, rfl⟩
  rw [← hQ]
  have hown : s.vm.findClass RX3 = some m.cls := hown
  have hl : lv_has ls 5 [(0, .ref m0), (1, .int x)] := hl
  refine lv_iconst (v := (-1)) hx hb dX3_fits_0 (by decide) ?_
  refine lv_istore_n (lv' := [(2, .int (-1)), (0, .ref m0), (1, .int x)]) hx hb dX3_fits_1 rfl hl (by decide) rfl (fun ls hl => ?_)
  refine lv_iconst (v := 0) hx hb dX3_fits_2 (by decide) ?_
  refine lv_istore_n (lv' := [(3, .int 0), (2, .int (-1)), (0, .ref m0), (1, .int x)]) hx hb dX3_fits_3 rfl hl (by decide) rfl (fun ls hl => ?_)
  have loop4 : ∀ j : Nat, ∀ (k : Nat) (tp : xRow), k + j = n → ∀ (H : Heap) (locs : List Loc), xP γ ([xO m0 3 [.int th, .int (nI n), .int (nI kc), .int td, .ref m1, .ref m2, .ref m3, .ref m4], xA γ m1 12 f, xA γ m3 72 tg, xA γ m4 14 tp]) H → va_D A ([xO m0 3 [.int th, .int (nI n), .int (nI kc), .int td, .ref m1, .ref m2, .ref m3, .ref m4], xA γ m1 12 f, xA γ m3 72 tg, xA γ m4 14 tp]) → va_S A s.heap H locs → ∀ ls : Array Slot, lv_has ls 5 [(0, .ref m0), (1, .int x), (2, .int (if xFirst (xPfM n f (xGt tg 0) x) k < k then nI (xFirst (xPfM n f (xGt tg 0) x) k) else -1)), (3, .int (nI k))] → W p l e ({ frames := 3, cells := 0, slots := 0, locals := 68 } : Room) s m args below meth c H locs 0 0 Q (F0 m 4 ls []) := by
    intro j
    induction j with
    | zero =>
      intro k tp hj H locs hP hD hS ls hl
      refine lv_iload_n hx hb dX3_fits_4 rfl (lv_at hl 3 rfl) ?_
      refine lv_aload_n hx hb dX3_fits_5 rfl (lv_at hl 0 rfl) ?_
      refine va_get (D := γ.1) (ci := 3) (v := .int (nI n)) (C := RX3) (T := TX3) (N := 8) hx hb hts iwX3_fits_3 hown hK hP 0 rfl rfl 1 (by decide) (hts _ flX3_fits_7) (fun _ h9 => h9) rfl dX3_fits_6 ?_
      refine lv_icmp_ge (tgt := 63) hx hb dX3_fits_9 (by decide) (fun _ => ?_) (fun c => absurd (nI_le (a := n) (b := k) (by omega) (by omega)) c)
      refine lv_iload_n hx hb dX3_fits_63 rfl (lv_at hl 2 rfl) ?_
      subst hQ
      exact xM_i hx hb hr hlocks dX3_fits_64 hP rfl hS (Nat.le_of_ble_eq_true rfl) (Nat.le_of_ble_eq_true rfl) (⟨by rw [xPlM_p hk0, show k = n by omega], _, rfl⟩)
    | succ j ih4 =>
      intro k tp hj H locs hP hD hS ls hl
      refine lv_iload_n hx hb dX3_fits_4 rfl (lv_at hl 3 rfl) ?_
      refine lv_aload_n hx hb dX3_fits_5 rfl (lv_at hl 0 rfl) ?_
      refine va_get (D := γ.1) (ci := 3) (v := .int (nI n)) (C := RX3) (T := TX3) (N := 8) hx hb hts iwX3_fits_3 hown hK hP 0 rfl rfl 1 (by decide) (hts _ flX3_fits_7) (fun _ h9 => h9) rfl dX3_fits_6 ?_
      refine lv_icmp_ge (tgt := 63) hx hb dX3_fits_9 (by decide) (fun c => absurd c (nI_ge (a := k) (b := n) (by omega) (by omega))) (fun _ => ?_)
      refine lv_aload_n hx hb dX3_fits_12 rfl (lv_at hl 0 rfl) ?_
      refine va_get (D := γ.1) (ci := 3) (v := .int (nI kc)) (C := RX3) (T := TX3) (N := 8) hx hb hts iwX3_fits_3 hown hK hP 0 rfl rfl 2 (by decide) (hts _ flX3_fits_33) (fun _ h9 => h9) rfl dX3_fits_13 ?_
      refine lv_if_le (tgt := 63) hx hb dX3_fits_16 (by decide) (fun c => absurd c (nI_nle (by omega) (by omega))) (fun _ => ?_)
      refine lv_iload_n hx hb dX3_fits_19 rfl (lv_at hl 2 rfl) ?_
      refine lv_iconst (v := (-1)) hx hb dX3_fits_20 (by decide) ?_
      refine lv_icmp_ne (tgt := 63) hx hb dX3_fits_21 (by decide) (fun c21 => ?_) (fun c21 => ?_)
      · refine lv_iload_n hx hb dX3_fits_63 rfl (lv_at hl 2 rfl) ?_
        subst hQ
        exact xM_i hx hb hr hlocks dX3_fits_64 hP rfl hS (Nat.le_of_ble_eq_true rfl) (Nat.le_of_ble_eq_true rfl) (⟨by rw [xPlM_p hk0, xFit_e (xPfM n f (xGt tg 0) x) (k := k) (n := n) (by omega) c21], _, rfl⟩)
      · refine lv_aload_n hx hb dX3_fits_24 rfl (lv_at hl 0 rfl) ?_
        refine va_get (D := γ.1) (ci := 3) (v := .ref m1) (C := RX3) (T := TX3) (N := 8) hx hb hts iwX3_fits_3 hown hK hP 0 rfl rfl 4 (by decide) (hts _ flX3_fits_13) (fun _ h9 => h9) rfl dX3_fits_25 ?_
        refine lv_iload_n hx hb dX3_fits_28 rfl (lv_at hl 3 rfl) ?_
        refine x_iald (f := f) hx hb hK hP 1 rfl k rfl (by omega) (by omega) dX3_fits_29 ?_
        refine lv_istore (lv' := [(4, .int (f k)), (0, .ref m0), (1, .int x), (2, .int (if xFirst (xPfM n f (xGt tg 0) x) k < k then nI (xFirst (xPfM n f (xGt tg 0) x) k) else -1)), (3, .int (nI k))]) hx hb dX3_fits_30 hl (by decide) rfl (fun ls hl => ?_)
        refine lv_aload_n hx hb dX3_fits_32 rfl (lv_at hl 1 rfl) ?_
        refine va_get (D := γ.1) (ci := 3) (v := .ref m1) (C := RX3) (T := TX3) (N := 8) hx hb hts iwX3_fits_3 hown hK hP 0 rfl rfl 4 (by decide) (hts _ flX3_fits_13) (fun _ h9 => h9) rfl dX3_fits_33 ?_
        refine lv_iload_n hx hb dX3_fits_36 rfl (lv_at hl 4 rfl) ?_
        refine lv_iload_n hx hb dX3_fits_37 rfl (lv_at hl 2 rfl) ?_
        refine x_iast (f := f) hx hb hK hP hD hS 1 rfl k rfl (by omega) (by omega) dX3_fits_38 (fun H locs hP hD hS => ?_)
        have hP : xP γ ([xO m0 3 [.int th, .int (nI n), .int (nI kc), .int td, .ref m1, .ref m2, .ref m3, .ref m4], xA γ m1 12 (upd f k x), xA γ m3 72 tg, xA γ m4 14 tp]) H := hP
        have hD : va_D A ([xO m0 3 [.int th, .int (nI n), .int (nI kc), .int td, .ref m1, .ref m2, .ref m3, .ref m4], xA γ m1 12 (upd f k x), xA γ m3 72 tg, xA γ m4 14 tp]) := hD
        refine lv_aload_n hx hb dX3_fits_39 rfl (lv_at hl 1 rfl) ?_
        refine lv_iconst (v := 0) hx hb dX3_fits_40 (by decide) ?_
        refine xVM (q0 := 0) (ci := 3) (As := [.int 0]) (rest := []) ⟨hx, hb, hml, hown, hts⟩ (c_X3_solves γ l m0 m1 m2 m3 m4 n kc th td (upd f k x) tg tp 0 (by omega) (by omega) (by omega)) (cwV 1 hts gX3_fits_X3_solves rfl rfl rfl hdv_X3_solves ⟨(Nat.le_of_ble_eq_true rfl), (Nat.le_of_ble_eq_true rfl)⟩) hK hP hD hS hA [0, 1, 2, 3] rfl rfl rfl rfl rfl hl.1 rfl (Nat.le_of_ble_eq_true rfl) dX3_fits_41 ⟨(Nat.le_of_ble_eq_true rfl), (Nat.le_of_ble_eq_true rfl)⟩ (fun r9 w9 H locs hw hP hD hS => ?_)
        obtain ⟨rfl, h82x, eh82x, rfl⟩ := hw
        have hP : xP γ ([xO m0 3 [.int th, .int (nI n), .int (nI kc), .int td, .ref m1, .ref m2, .ref m3, .ref m4], xA γ m1 12 (upd f k x), xA γ m3 72 tg, xA γ m4 14 h82x]) H := hP
        have hD : va_D A ([xO m0 3 [.int th, .int (nI n), .int (nI kc), .int td, .ref m1, .ref m2, .ref m3, .ref m4], xA γ m1 12 (upd f k x), xA γ m3 72 tg, xA γ m4 14 h82x]) := hD
        refine W.eq (g2 := F0 m 44 ls [.int (if xSv n (upd f k x) (xGt tg 0) = true then 1 else 0)]) rfl ?_
        refine lv_if_eq (tgt := 49) hx hb dX3_fits_44 (by decide) (fun c44 => ?_) (fun c44 => ?_)
        · refine lv_aload_n hx hb dX3_fits_49 rfl (lv_at hl 1 rfl) ?_
          refine va_get (D := γ.1) (ci := 3) (v := .ref m1) (C := RX3) (T := TX3) (N := 8) hx hb hts iwX3_fits_3 hown hK hP 0 rfl rfl 4 (by decide) (hts _ flX3_fits_13) (fun _ h9 => h9) rfl dX3_fits_50 ?_
          refine lv_iload_n hx hb dX3_fits_53 rfl (lv_at hl 4 rfl) ?_
          refine lv_iload hx hb dX3_fits_54 (lv_at hl 0 rfl) ?_
          refine x_iast (f := upd f k x) hx hb hK hP hD hS 1 rfl k rfl (by omega) (by omega) dX3_fits_56 (fun H locs hP hD hS => ?_)
          rw [xupd_back] at hP hD
          have hP : xP γ ([xO m0 3 [.int th, .int (nI n), .int (nI kc), .int td, .ref m1, .ref m2, .ref m3, .ref m4], xA γ m1 12 f, xA γ m3 72 tg, xA γ m4 14 h82x]) H := hP
          have hD : va_D A ([xO m0 3 [.int th, .int (nI n), .int (nI kc), .int td, .ref m1, .ref m2, .ref m3, .ref m4], xA γ m1 12 f, xA γ m3 72 tg, xA γ m4 14 h82x]) := hD
          have e9 := xFit_n (xPfM n f (xGt tg 0) x) (k := k) (by omega) c21 (xB_f c44)
          rw [← e9] at hl
          refine lv_iinc (v := nI (k + 1)) (lv' := [(3, .int (nI (k + 1))), (4, .int (f k)), (0, .ref m0), (1, .int x), (2, .int (if xFirst (xPfM n f (xGt tg 0) x) (k + 1) < k + 1 then nI (xFirst (xPfM n f (xGt tg 0) x) (k + 1)) else -1))]) hx hb dX3_fits_57 hl (k := 4) rfl (nI_add k 1) (by decide) rfl (fun ls hl => ?_)
          refine lv_goto (tgt := 4) hx hb dX3_fits_60 (by decide) ?_
          exact ih4 (k + 1) h82x (by omega) _ _ hP hD hS ls (lv_sub hl [2, 3, 4, 0] rfl)
        · refine lv_iload_n hx hb dX3_fits_47 rfl (lv_at hl 4 rfl) ?_
          refine x_top (y := if xFirst (xPfM n f (xGt tg 0) x) (k + 1) < k + 1 then nI (xFirst (xPfM n f (xGt tg 0) x) (k + 1)) else -1) (xFit_y (xPfM n f (xGt tg 0) x) (k := k) (by omega) c21 (xB_t c44)) ?_
          refine lv_istore_n (lv' := [(2, .int (if xFirst (xPfM n f (xGt tg 0) x) (k + 1) < k + 1 then nI (xFirst (xPfM n f (xGt tg 0) x) (k + 1)) else -1)), (4, .int (f k)), (0, .ref m0), (1, .int x), (3, .int (nI k))]) hx hb dX3_fits_48 rfl hl (by decide) rfl (fun ls hl => ?_)
          refine lv_aload_n hx hb dX3_fits_49 rfl (lv_at hl 2 rfl) ?_
          refine va_get (D := γ.1) (ci := 3) (v := .ref m1) (C := RX3) (T := TX3) (N := 8) hx hb hts iwX3_fits_3 hown hK hP 0 rfl rfl 4 (by decide) (hts _ flX3_fits_13) (fun _ h9 => h9) rfl dX3_fits_50 ?_
          refine lv_iload_n hx hb dX3_fits_53 rfl (lv_at hl 4 rfl) ?_
          refine lv_iload hx hb dX3_fits_54 (lv_at hl 1 rfl) ?_
          refine x_iast (f := upd f k x) hx hb hK hP hD hS 1 rfl k rfl (by omega) (by omega) dX3_fits_56 (fun H locs hP hD hS => ?_)
          rw [xupd_back] at hP hD
          have hP : xP γ ([xO m0 3 [.int th, .int (nI n), .int (nI kc), .int td, .ref m1, .ref m2, .ref m3, .ref m4], xA γ m1 12 f, xA γ m3 72 tg, xA γ m4 14 h82x]) H := hP
          have hD : va_D A ([xO m0 3 [.int th, .int (nI n), .int (nI kc), .int td, .ref m1, .ref m2, .ref m3, .ref m4], xA γ m1 12 f, xA γ m3 72 tg, xA γ m4 14 h82x]) := hD
          refine lv_iinc (v := nI (k + 1)) (lv' := [(3, .int (nI (k + 1))), (2, .int (if xFirst (xPfM n f (xGt tg 0) x) (k + 1) < k + 1 then nI (xFirst (xPfM n f (xGt tg 0) x) (k + 1)) else -1)), (4, .int (f k)), (0, .ref m0), (1, .int x)]) hx hb dX3_fits_57 hl (k := 4) rfl (nI_add k 1) (by decide) rfl (fun ls hl => ?_)
          refine lv_goto (tgt := 4) hx hb dX3_fits_60 (by decide) ?_
          exact ih4 (k + 1) h82x (by omega) _ _ hP hD hS ls (lv_sub hl [3, 4, 1, 0] rfl)
  exact loop4 n 0 tp (by omega) _ _ hP hD hS ls (lv_sub hl [2, 3, 1, 0] rfl)

set_option maxHeartbeats 4000000 in
set_option maxRecDepth 100000 in
theorem c_X3_fits0 (γ : xG) (l : Launch) (m0 m1 m2 m3 m4 n kc : Nat) (th td : Int32) (f tg tp : xRow) (x : Int32) (hn0 : 3 ≤ n) (hn1 : n ≤ 12) (hk0 : kc = 0) : xR γ l yX3_fits wsX3_fits ({ frames := 0, cells := 0, slots := 0, locals := 0 } : Room) [.ref m0, .int x] ([xO m0 3 [.int th, .int (nI n), .int (nI kc), .int td, .ref m1, .ref m2, .ref m3, .ref m4]]) (some (.int (xPlM n kc f tg x))) := by
  refine xR.of (cc := cX3_fits) (maxL := 5) (ret := (some .int)) (by decide +kernel) rfl (Nat.le_of_ble_eq_true rfl) ?_
  intro p e s m below meth c hx hb hr hml hts hown hlocks hP hK ls hl
  generalize hargs : ([.ref m0, .int x] : List Value).toArray = args at hts ⊢
  obtain ⟨Q, hQ⟩ : ∃ Q9, Q9 = MQ below (xRQ (some (.int (xPlM n kc f tg x)))) args s 0 0 (fun _ => False) := ⟨_, rfl⟩
  rw [← hQ]
  have hown : s.vm.findClass RX3 = some m.cls := hown
  have hl : lv_has ls 5 [(0, .ref m0), (1, .int x)] := hl
  refine lv_iconst (v := (-1)) hx hb dX3_fits_0 (by decide) ?_
  refine lv_istore_n (lv' := [(2, .int (-1)), (0, .ref m0), (1, .int x)]) hx hb dX3_fits_1 rfl hl (by decide) rfl (fun ls hl => ?_)
  refine lv_iconst (v := 0) hx hb dX3_fits_2 (by decide) ?_
  refine lv_istore_n (lv' := [(3, .int 0), (2, .int (-1)), (0, .ref m0), (1, .int x)]) hx hb dX3_fits_3 rfl hl (by decide) rfl (fun ls hl => ?_)
  refine lv_iload_n hx hb dX3_fits_4 rfl (lv_at hl 0 rfl) ?_
  refine lv_aload_n hx hb dX3_fits_5 rfl (lv_at hl 2 rfl) ?_
  refine va_get (D := γ.1) (ci := 3) (v := .int (nI n)) (C := RX3) (T := TX3) (N := 8) hx hb hts iwX3_fits_3 hown hK hP 0 rfl rfl 1 (by decide) (hts _ flX3_fits_7) (fun _ h9 => h9) rfl dX3_fits_6 ?_
  refine lv_icmp_ge (tgt := 63) hx hb dX3_fits_9 (by decide) (fun c => absurd c (nI_ge (a := 0) (b := n) (by omega) (by omega))) (fun _ => ?_)
  refine lv_aload_n hx hb dX3_fits_12 rfl (lv_at hl 2 rfl) ?_
  refine va_get (D := γ.1) (ci := 3) (v := .int (nI kc)) (C := RX3) (T := TX3) (N := 8) hx hb hts iwX3_fits_3 hown hK hP 0 rfl rfl 2 (by decide) (hts _ flX3_fits_33) (fun _ h9 => h9) rfl dX3_fits_13 ?_
  refine lv_if_le (tgt := 63) hx hb dX3_fits_16 (by decide) (fun _ => ?_) (fun c => absurd (by rw [hk0]; decide) c)
  refine lv_iload_n hx hb dX3_fits_63 rfl (lv_at hl 1 rfl) ?_
  subst hQ
  exact xR_i hx hb hr hlocks dX3_fits_64 (by unfold xPlM; rw [if_pos hk0])

theorem hdv_X3_fits : yX3_fits.cls = RX3 ∧ yX3_fits.cls ≠ "java/lang/invoke/MethodHandle" ∧ yX3_fits.cls ≠ "java/lang/invoke/VarHandle" ∧ (parseMethodDescriptor yX3_fits.desc).map (fun d => d.parameters.length) = some 1 := by decide +kernel
theorem flX3_placeFor_26 : Cond.fieldLink RX3 26 "RingSeesawModel" "thrown" "I" ∈ wsX3_placeFor := by decide +kernel
theorem iwX3_placeFor_3 : ∀ w ∈ wsX30, w ∈ wsX3_placeFor := by decide +kernel
set_option maxHeartbeats 4000000 in
set_option maxRecDepth 100000 in
theorem c_X3_placeFor (γ : xG) (l : Launch) (m0 m1 m2 m3 m4 n kc : Nat) (th td : Int32) (f tg tp : xRow) (x : Int32) (hn0 : 3 ≤ n) (hn1 : n ≤ 12) (hk0 : 0 < kc) (hkc : kc ≤ 6) (h1 : ¬ x < (-999)) (h2 : x ≤ 999) : xM γ l yX3_placeFor wsX3_placeFor ({ frames := 4, cells := 0, slots := 0, locals := 92 } : Room) [.ref m0, .int x] ([xO m0 3 [.int th, .int (nI n), .int (nI kc), .int td, .ref m1, .ref m2, .ref m3, .ref m4], xA γ m1 12 f, xA γ m3 72 tg, xA γ m4 14 tp]) (fun r9 w9 => r9 = some (.int (xPlM n kc f tg x)) ∧ ∃ h9 : xRow, w9 = [xO m0 3 [.int 0, .int (nI n), .int (nI kc), .int td, .ref m1, .ref m2, .ref m3, .ref m4], xA γ m1 12 f, xA γ m3 72 tg, xA γ m4 14 h9]) 0 0 := by
  refine xM.of (cc := cX3_placeFor) (maxL := 2) (ret := (some .int)) (by decide +kernel) rfl (Nat.le_of_ble_eq_true rfl) ?_
  intro p e s m below meth c hx hb hr hml hts hown hlocks hin hP hK A hA hD ls hl
  have hS : va_S A s.heap s.heap [] := va_S.rf
  generalize hargs : ([.ref m0, .int x] : List Value).toArray = args at hts ⊢
  obtain ⟨Q, hQ⟩ : ∃ Q9, Q9 = MQ below (xMQ γ (List.map Prod.fst ([xO m0 3 [.int th, .int (nI n), .int (nI kc), .int td, .ref m1, .ref m2, .ref m3, .ref m4], xA γ m1 12 f, xA γ m3 72 tg, xA γ m4 14 tp])) A (fun r9 w9 => r9 = some (.int (xPlM n kc f tg x)) ∧ ∃ h9 : xRow, w9 = [xO m0 3 [.int 0, .int (nI n), .int (nI kc), .int td, .ref m1, .ref m2, .ref m3, .ref m4], xA γ m1 12 f, xA γ m3 72 tg, xA γ m4 14 h9])) args s 0 0 A := ⟨_, rfl⟩
  rw [← hQ]
  have hown : s.vm.findClass RX3 = some m.cls := hown
  have hl : lv_has ls 2 [(0, .ref m0), (1, .int x)] := hl
  refine lv_aload_n hx hb dX3_placeFor_0 rfl (lv_at hl 0 rfl) ?_
  refine lv_iconst (v := 0) hx hb dX3_placeFor_1 (by decide) ?_
  refine va_put (D := γ.1) (ci := 3) (v := .int 0) (ty := .int) (C := RX3) (T := TX3) (N := 8) hx hb hts iwX3_placeFor_3 tyX3 tyX3_ok nmX3 hown hK hP hD hS 0 rfl rfl 0 (by decide) (hts _ flX3_placeFor_26) (fun _ h9 => h9) rfl (by decide +kernel) rfl rfl (Nat.le_of_ble_eq_true rfl) dX3_placeFor_2 (fun H locs hP hD hS => ?_)
  have hP : xP γ ([xO m0 3 [.int 0, .int (nI n), .int (nI kc), .int td, .ref m1, .ref m2, .ref m3, .ref m4], xA γ m1 12 f, xA γ m3 72 tg, xA γ m4 14 tp]) H := hP
  have hD : va_D A ([xO m0 3 [.int 0, .int (nI n), .int (nI kc), .int td, .ref m1, .ref m2, .ref m3, .ref m4], xA γ m1 12 f, xA γ m3 72 tg, xA γ m4 14 tp]) := hD
  refine lv_iload_n hx hb dX3_placeFor_5 rfl (lv_at hl 1 rfl) ?_
  refine lv_sipush (v := (-999)) hx hb dX3_placeFor_6 (by decide) ?_
  refine lv_sipush (v := 999) hx hb dX3_placeFor_9 (by decide) ?_
  refine xSR (As := [.int x, .int (-999), .int 999]) (rest := []) (stk := [.int (if xInB x (-999) 999 = true then 1 else 0)]) ⟨hx, hb, hml, hown, hts⟩ (c_X3_isIn γ l x (-999) 999) (va_cwS 3 hts gX3_placeFor_X3_isIn rfl rfl rfl hds_X3_isIn ⟨(Nat.le_of_ble_eq_true rfl), (Nat.le_of_ble_eq_true rfl)⟩) hK hP [] rfl rfl hl.1 rfl (Nat.le_of_ble_eq_true rfl) dX3_placeFor_12 ⟨(Nat.le_of_ble_eq_true rfl), (Nat.le_of_ble_eq_true rfl)⟩ rfl ?_
  refine lv_if_eq (tgt := 26) hx hb dX3_placeFor_15 (by decide) (fun c => absurd c (xB_ne (xInB_le h1 h2))) (fun _ => ?_)
  refine lv_aload_n hx hb dX3_placeFor_18 rfl (lv_at hl 0 rfl) ?_
  refine lv_iload_n hx hb dX3_placeFor_19 rfl (lv_at hl 1 rfl) ?_
  refine xVM (q0 := 0) (ci := 3) (As := [.int x]) (rest := []) ⟨hx, hb, hml, hown, hts⟩ (c_X3_fits γ l m0 m1 m2 m3 m4 n kc 0 td f tg tp x (by omega) (by omega) (by omega) (by omega)) (cwV 1 hts gX3_placeFor_X3_fits rfl rfl rfl hdv_X3_fits ⟨(Nat.le_of_ble_eq_true rfl), (Nat.le_of_ble_eq_true rfl)⟩) hK hP hD hS hA [0, 1, 2, 3] rfl rfl rfl rfl rfl hl.1 rfl (Nat.le_of_ble_eq_true rfl) dX3_placeFor_20 ⟨(Nat.le_of_ble_eq_true rfl), (Nat.le_of_ble_eq_true rfl)⟩ (fun r9 w9 H locs hw hP hD hS => ?_)
  obtain ⟨rfl, h84x, rfl⟩ := hw
  have hP : xP γ ([xO m0 3 [.int 0, .int (nI n), .int (nI kc), .int td, .ref m1, .ref m2, .ref m3, .ref m4], xA γ m1 12 f, xA γ m3 72 tg, xA γ m4 14 h84x]) H := hP
  have hD : va_D A ([xO m0 3 [.int 0, .int (nI n), .int (nI kc), .int td, .ref m1, .ref m2, .ref m3, .ref m4], xA γ m1 12 f, xA γ m3 72 tg, xA γ m4 14 h84x]) := hD
  refine W.eq (g2 := F0 m 23 ls [.int (xPlM n kc f tg x)]) rfl ?_
  refine lv_goto (tgt := 31) hx hb dX3_placeFor_23 (by decide) ?_
  subst hQ
  exact xM_i hx hb hr hlocks dX3_placeFor_31 hP rfl hS (Nat.le_of_ble_eq_true rfl) (Nat.le_of_ble_eq_true rfl) (⟨rfl, _, rfl⟩)

set_option maxHeartbeats 4000000 in
set_option maxRecDepth 100000 in
theorem c_X3_placeFor0 (γ : xG) (l : Launch) (m0 m1 m2 m3 m4 n kc : Nat) (th td : Int32) (f tg tp : xRow) (x : Int32) (hn0 : 3 ≤ n) (hn1 : n ≤ 12) (hk0 : kc = 0) (h1 : ¬ x < (-999)) (h2 : x ≤ 999) : xM γ l yX3_placeFor wsX3_placeFor ({ frames := 1, cells := 0, slots := 0, locals := 24 } : Room) [.ref m0, .int x] ([xO m0 3 [.int th, .int (nI n), .int (nI kc), .int td, .ref m1, .ref m2, .ref m3, .ref m4], xA γ m1 12 f, xA γ m3 72 tg, xA γ m4 14 tp]) (fun r9 w9 => r9 = some (.int (xPlM n kc f tg x)) ∧ w9 = [xO m0 3 [.int 0, .int (nI n), .int (nI kc), .int td, .ref m1, .ref m2, .ref m3, .ref m4], xA γ m1 12 f, xA γ m3 72 tg, xA γ m4 14 tp]) 0 0 := by
  refine xM.of (cc := cX3_placeFor) (maxL := 2) (ret := (some .int)) (by decide +kernel) rfl (Nat.le_of_ble_eq_true rfl) ?_
  intro p e s m below meth c hx hb hr hml hts hown hlocks hin hP hK A hA hD ls hl
  have hS : va_S A s.heap s.heap [] := va_S.rf
  generalize hargs : ([.ref m0, .int x] : List Value).toArray = args at hts ⊢
  obtain ⟨Q, hQ⟩ : ∃ Q9, Q9 = MQ below (xMQ γ (List.map Prod.fst ([xO m0 3 [.int th, .int (nI n), .int (nI kc), .int td, .ref m1, .ref m2, .ref m3, .ref m4], xA γ m1 12 f, xA γ m3 72 tg, xA γ m4 14 tp])) A (fun r9 w9 => r9 = some (.int (xPlM n kc f tg x)) ∧ w9 = [xO m0 3 [.int 0, .int (nI n), .int (nI kc), .int td, .ref m1, .ref m2, .ref m3, .ref m4], xA γ m1 12 f, xA γ m3 72 tg, xA γ m4 14 tp])) args s 0 0 A := ⟨_, rfl⟩
  rw [← hQ]
  have hown : s.vm.findClass RX3 = some m.cls := hown
  have hl : lv_has ls 2 [(0, .ref m0), (1, .int x)] := hl
  refine lv_aload_n hx hb dX3_placeFor_0 rfl (lv_at hl 0 rfl) ?_
  refine lv_iconst (v := 0) hx hb dX3_placeFor_1 (by decide) ?_
  refine va_put (D := γ.1) (ci := 3) (v := .int 0) (ty := .int) (C := RX3) (T := TX3) (N := 8) hx hb hts iwX3_placeFor_3 tyX3 tyX3_ok nmX3 hown hK hP hD hS 0 rfl rfl 0 (by decide) (hts _ flX3_placeFor_26) (fun _ h9 => h9) rfl (by decide +kernel) rfl rfl (Nat.le_of_ble_eq_true rfl) dX3_placeFor_2 (fun H locs hP hD hS => ?_)
  have hP : xP γ ([xO m0 3 [.int 0, .int (nI n), .int (nI kc), .int td, .ref m1, .ref m2, .ref m3, .ref m4], xA γ m1 12 f, xA γ m3 72 tg, xA γ m4 14 tp]) H := hP
  have hD : va_D A ([xO m0 3 [.int 0, .int (nI n), .int (nI kc), .int td, .ref m1, .ref m2, .ref m3, .ref m4], xA γ m1 12 f, xA γ m3 72 tg, xA γ m4 14 tp]) := hD
  refine lv_iload_n hx hb dX3_placeFor_5 rfl (lv_at hl 1 rfl) ?_
  refine lv_sipush (v := (-999)) hx hb dX3_placeFor_6 (by decide) ?_
  refine lv_sipush (v := 999) hx hb dX3_placeFor_9 (by decide) ?_
  refine xSR (As := [.int x, .int (-999), .int 999]) (rest := []) (stk := [.int (if xInB x (-999) 999 = true then 1 else 0)]) ⟨hx, hb, hml, hown, hts⟩ (c_X3_isIn γ l x (-999) 999) (va_cwS 3 hts gX3_placeFor_X3_isIn rfl rfl rfl hds_X3_isIn ⟨(Nat.le_of_ble_eq_true rfl), (Nat.le_of_ble_eq_true rfl)⟩) hK hP [] rfl rfl hl.1 rfl (Nat.le_of_ble_eq_true rfl) dX3_placeFor_12 ⟨(Nat.le_of_ble_eq_true rfl), (Nat.le_of_ble_eq_true rfl)⟩ rfl ?_
  refine lv_if_eq (tgt := 26) hx hb dX3_placeFor_15 (by decide) (fun c => absurd c (xB_ne (xInB_le h1 h2))) (fun _ => ?_)
  refine lv_aload_n hx hb dX3_placeFor_18 rfl (lv_at hl 0 rfl) ?_
  refine lv_iload_n hx hb dX3_placeFor_19 rfl (lv_at hl 1 rfl) ?_
  refine xVR (q0 := 0) (ci := 3) (As := [.int x]) (rest := []) (stk := [.int (xPlM n kc f tg x)]) ⟨hx, hb, hml, hown, hts⟩ (c_X3_fits0 γ l m0 m1 m2 m3 m4 n kc 0 td f tg tp x (by omega) (by omega) (by omega)) (cwV 1 hts gX3_placeFor_X3_fits rfl rfl rfl hdv_X3_fits ⟨(Nat.le_of_ble_eq_true rfl), (Nat.le_of_ble_eq_true rfl)⟩) hK hP [0] rfl rfl rfl rfl hl.1 rfl (Nat.le_of_ble_eq_true rfl) dX3_placeFor_20 ⟨(Nat.le_of_ble_eq_true rfl), (Nat.le_of_ble_eq_true rfl)⟩ rfl ?_
  refine lv_goto (tgt := 31) hx hb dX3_placeFor_23 (by decide) ?_
  subst hQ
  exact xM_i hx hb hr hlocks dX3_placeFor_31 hP rfl hS (Nat.le_of_ble_eq_true rfl) (Nat.le_of_ble_eq_true rfl) (⟨rfl, rfl⟩)

set_option maxHeartbeats 4000000 in
set_option maxRecDepth 100000 in
theorem c_X3_placeFor_x (γ : xG) (l : Launch) (m0 m1 m2 m3 m4 n kc : Nat) (th td : Int32) (x : Int32) (hxb : xInB x (-999) 999 = false)  : xM γ l yX3_placeFor wsX3_placeFor ({ frames := 1, cells := 0, slots := 0, locals := 22 } : Room) [.ref m0, .int x] ([xO m0 3 [.int th, .int (nI n), .int (nI kc), .int td, .ref m1, .ref m2, .ref m3, .ref m4]]) (fun r9 w9 => r9 = some (.int 0) ∧ w9 = [xO m0 3 [.int 1, .int (nI n), .int (nI kc), .int td, .ref m1, .ref m2, .ref m3, .ref m4]]) 0 0 := by
  refine xM.of (cc := cX3_placeFor) (maxL := 2) (ret := (some .int)) (by decide +kernel) rfl (Nat.le_of_ble_eq_true rfl) ?_
  intro p e s m below meth c hx hb hr hml hts hown hlocks hin hP hK A hA hD ls hl
  have hS : va_S A s.heap s.heap [] := va_S.rf
  generalize hargs : ([.ref m0, .int x] : List Value).toArray = args at hts ⊢
  obtain ⟨Q, hQ⟩ : ∃ Q9, Q9 = MQ below (xMQ γ (List.map Prod.fst ([xO m0 3 [.int th, .int (nI n), .int (nI kc), .int td, .ref m1, .ref m2, .ref m3, .ref m4]])) A (fun r9 w9 => r9 = some (.int 0) ∧ w9 = [xO m0 3 [.int 1, .int (nI n), .int (nI kc), .int td, .ref m1, .ref m2, .ref m3, .ref m4]])) args s 0 0 A := ⟨_, rfl⟩
  rw [← hQ]
  have hown : s.vm.findClass RX3 = some m.cls := hown
  have hl : lv_has ls 2 [(0, .ref m0), (1, .int x)] := hl
  refine lv_aload_n hx hb dX3_placeFor_0 rfl (lv_at hl 0 rfl) ?_
  refine lv_iconst (v := 0) hx hb dX3_placeFor_1 (by decide) ?_
  refine va_put (D := γ.1) (ci := 3) (v := .int 0) (ty := .int) (C := RX3) (T := TX3) (N := 8) hx hb hts iwX3_placeFor_3 tyX3 tyX3_ok nmX3 hown hK hP hD hS 0 rfl rfl 0 (by decide) (hts _ flX3_placeFor_26) (fun _ h9 => h9) rfl (by decide +kernel) rfl rfl (Nat.le_of_ble_eq_true rfl) dX3_placeFor_2 (fun H locs hP hD hS => ?_)
  have hP : xP γ ([xO m0 3 [.int 0, .int (nI n), .int (nI kc), .int td, .ref m1, .ref m2, .ref m3, .ref m4]]) H := hP
  have hD : va_D A ([xO m0 3 [.int 0, .int (nI n), .int (nI kc), .int td, .ref m1, .ref m2, .ref m3, .ref m4]]) := hD
  refine lv_iload_n hx hb dX3_placeFor_5 rfl (lv_at hl 1 rfl) ?_
  refine lv_sipush (v := (-999)) hx hb dX3_placeFor_6 (by decide) ?_
  refine lv_sipush (v := 999) hx hb dX3_placeFor_9 (by decide) ?_
  refine xSR (As := [.int x, .int (-999), .int 999]) (rest := []) (stk := [.int (if xInB x (-999) 999 = true then 1 else 0)]) ⟨hx, hb, hml, hown, hts⟩ (c_X3_isIn γ l x (-999) 999) (va_cwS 3 hts gX3_placeFor_X3_isIn rfl rfl rfl hds_X3_isIn ⟨(Nat.le_of_ble_eq_true rfl), (Nat.le_of_ble_eq_true rfl)⟩) hK hP [] rfl rfl hl.1 rfl (Nat.le_of_ble_eq_true rfl) dX3_placeFor_12 ⟨(Nat.le_of_ble_eq_true rfl), (Nat.le_of_ble_eq_true rfl)⟩ rfl ?_
  refine lv_if_eq (tgt := 26) hx hb dX3_placeFor_15 (by decide) (fun _ => ?_) (fun c => absurd (xB_eq hxb) c)
  refine lv_aload_n hx hb dX3_placeFor_26 rfl (lv_at hl 0 rfl) ?_
  refine lv_iconst (v := 1) hx hb dX3_placeFor_27 (by decide) ?_
  refine xVM (q0 := 0) (ci := 3) (As := [.int 1]) (rest := []) ⟨hx, hb, hml, hown, hts⟩ (c_X3_no γ l m0 m1 m2 m3 m4 n kc 0 td 1) (cwV 1 hts gX3_placeFor_X3_no rfl rfl rfl hdv_X3_no ⟨(Nat.le_of_ble_eq_true rfl), (Nat.le_of_ble_eq_true rfl)⟩) hK hP hD hS hA [0] rfl rfl rfl rfl rfl hl.1 rfl (Nat.le_of_ble_eq_true rfl) dX3_placeFor_28 ⟨(Nat.le_of_ble_eq_true rfl), (Nat.le_of_ble_eq_true rfl)⟩ (fun r9 w9 H locs hw hP hD hS => ?_)
  obtain ⟨rfl, rfl⟩ := hw
  have hP : xP γ ([xO m0 3 [.int 1, .int (nI n), .int (nI kc), .int td, .ref m1, .ref m2, .ref m3, .ref m4]]) H := hP
  have hD : va_D A ([xO m0 3 [.int 1, .int (nI n), .int (nI kc), .int td, .ref m1, .ref m2, .ref m3, .ref m4]]) := hD
  refine W.eq (g2 := F0 m 31 ls [.int 0]) rfl ?_
  subst hQ
  exact xM_i hx hb hr hlocks dX3_placeFor_31 hP rfl hS (Nat.le_of_ble_eq_true rfl) (Nat.le_of_ble_eq_true rfl) (⟨rfl, rfl⟩)

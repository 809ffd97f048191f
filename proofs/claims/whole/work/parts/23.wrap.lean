/-! the law's helpers (rows laid by wip/whole/spec_wrap.py) -/
theorem hdv_X2_lay : yX2_lay.cls = RX2 ∧ yX2_lay.cls ≠ "java/lang/invoke/MethodHandle" ∧ yX2_lay.cls ≠ "java/lang/invoke/VarHandle" ∧ (parseMethodDescriptor yX2_lay.desc).map (fun d => d.parameters.length) = some 1 := by decide +kernel
set_option maxHeartbeats 4000000 in
set_option maxRecDepth 100000 in
theorem c_L_lay (γ : xG) (l : Launch) (q0 q1 q2 q3 q4 kc : Nat) (td : Int32) (a1 n : Nat) (f : xRow) (k : Nat) (hn0 : 3 ≤ n) (hn1 : n ≤ 12) (h1 : 3 ≤ k) (h2 : k ≤ 12) (o : Nat) (h : Nat → Int64) : xME γ l yL_lay wsL_lay ({ frames := 3, cells := 0, slots := 0, locals := 66 } : Room) [.ref q0, .int (nI k), .ref o] (fun _ => True) ([xO q0 2 [.ref q1, .ref q4, .int (nI kc), .int td, .ref q2, .ref q3], xO q1 0 [.ref a1, .int (nI n)], xA γ a1 12 f, xL γ o 1 h]) (fun r9 w9 => r9 = some (.int 0) ∧ w9 = [xO q0 2 [.ref q1, .ref q4, .int (nI 0), .int td, .ref q2, .ref q3], xO q1 0 [.ref a1, .int (nI k)], xA γ a1 12 (fun _ => 0), xL γ o 1 (vp_updL h 0 (Int32.toInt64 (nI n)))]) 0 0 := by
  refine xME.ofH (cc := cL_lay) (maxL := 4) (ret := (some .int)) (hh := [(0, 9, 12, 13)]) (by decide +kernel) rfl (Nat.le_of_ble_eq_true rfl) ?_
  intro p e s m below meth c hx hb hr hml hts hown hlocks htab hP hK hEx A hA hD ls hl
  have hS : va_S A s.heap s.heap [] := va_S.rf
  generalize hargs : ([.ref q0, .int (nI k), .ref o] : List Value).toArray = args at hts ⊢
  obtain ⟨Q, hQ⟩ : ∃ Q9, Q9 = MQ below (xMQ γ (List.map Prod.fst ([xO q0 2 [.ref q1, .ref q4, .int (nI kc), .int td, .ref q2, .ref q3], xO q1 0 [.ref a1, .int (nI n)], xA γ a1 12 f, xL γ o 1 h])) A (fun r9 w9 => r9 = some (.int 0) ∧ w9 = [xO q0 2 [.ref q1, .ref q4, .int (nI 0), .int td, .ref q2, .ref q3], xO q1 0 [.ref a1, .int (nI k)], xA γ a1 12 (fun _ => 0), xL γ o 1 (vp_updL h 0 (Int32.toInt64 (nI n)))])) args s 0 0 A := ⟨_, rfl⟩
  rw [← hQ]
  have hown : s.vm.findClass RL = some m.cls := hown
  have hl : lv_has ls 4 [(0, .ref q0), (1, .int (nI k)), (2, .ref o)] := hl
  refine lv_aload_n hx hb dL_lay_0 rfl (lv_at hl 2 rfl) ?_
  refine lv_iconst (v := 0) hx hb dL_lay_1 (by decide) ?_
  refine lv_aload_n hx hb dL_lay_2 rfl (lv_at hl 0 rfl) ?_
  refine lv_iload_n hx hb dL_lay_3 rfl (lv_at hl 1 rfl) ?_
  refine xVM (q0 := 0) (ci := 2) (As := [.int (nI k)]) (rest := [.int 0, .ref o]) ⟨hx, hb, hml, hown, hts⟩ (c_X2_lay γ l q0 q1 q2 q3 q4 kc td a1 n f k hn0 hn1 h1 h2) (cwV 1 hts gL_lay_X2_lay rfl rfl rfl hdv_X2_lay ⟨(Nat.le_of_ble_eq_true rfl), (Nat.le_of_ble_eq_true rfl)⟩) hK hP hD hS hA [0, 1, 2] rfl rfl rfl rfl rfl hl.1 rfl (Nat.le_of_ble_eq_true rfl) dL_lay_4 ⟨(Nat.le_of_ble_eq_true rfl), (Nat.le_of_ble_eq_true rfl)⟩ (fun r9 w9 H locs hw hP hD hS => ?_)
  obtain ⟨rfl, rfl⟩ := hw
  have hP : xP γ ([xO q0 2 [.ref q1, .ref q4, .int (nI 0), .int td, .ref q2, .ref q3], xO q1 0 [.ref a1, .int (nI k)], xA γ a1 12 (fun _ => 0), xL γ o 1 h]) H := hP
  have hD : va_D A ([xO q0 2 [.ref q1, .ref q4, .int (nI 0), .int td, .ref q2, .ref q3], xO q1 0 [.ref a1, .int (nI k)], xA γ a1 12 (fun _ => 0), xL γ o 1 h]) := hD
  refine W.eq (g2 := F0 m 7 ls [.int (nI n), .int 0, .ref o]) rfl ?_
  refine lv_i2l (v := Int32.toInt64 (nI n)) hx hb dL_lay_7 rfl ?_
  refine x_last (f := h) hx hb hK hP hD hS 3 rfl 0 rfl (by omega) (by omega) dL_lay_8 (fun H locs hP hD hS => ?_)
  have hP : xP γ ([xO q0 2 [.ref q1, .ref q4, .int (nI 0), .int td, .ref q2, .ref q3], xO q1 0 [.ref a1, .int (nI k)], xA γ a1 12 (fun _ => 0), xL γ o 1 (vp_updL h 0 (Int32.toInt64 (nI n)))]) H := hP
  have hD : va_D A ([xO q0 2 [.ref q1, .ref q4, .int (nI 0), .int td, .ref q2, .ref q3], xO q1 0 [.ref a1, .int (nI k)], xA γ a1 12 (fun _ => 0), xL γ o 1 (vp_updL h 0 (Int32.toInt64 (nI n)))]) := hD
  refine lv_goto (tgt := 15) hx hb dL_lay_9 (by decide) ?_
  refine lv_iconst (v := 0) hx hb dL_lay_15 (by decide) ?_
  subst hQ
  exact xM_i hx hb hr hlocks dL_lay_16 hP rfl hS (Nat.le_of_ble_eq_true rfl) (Nat.le_of_ble_eq_true rfl) (⟨rfl, rfl⟩)

theorem hdv_X2_put : yX2_put.cls = RX2 ∧ yX2_put.cls ≠ "java/lang/invoke/MethodHandle" ∧ yX2_put.cls ≠ "java/lang/invoke/VarHandle" ∧ (parseMethodDescriptor yX2_put.desc).map (fun d => d.parameters.length) = some 2 := by decide +kernel
set_option maxHeartbeats 4000000 in
set_option maxRecDepth 100000 in
theorem c_L_put (γ : xG) (l : Launch) (q0 q1 q2 q3 q4 kc : Nat) (td : Int32) (a1 n : Nat) (f : xRow) (k : Nat) (x : Int32) (hn0 : 3 ≤ n) (hn1 : n ≤ 12) (hk : k < n) (h1 : ¬ x < (-999)) (h2 : x ≤ 999) (o : Nat) (h : Nat → Int64) : xME γ l yL_put wsL_put ({ frames := 3, cells := 0, slots := 0, locals := 64 } : Room) [.ref q0, .int (nI k), .int x, .ref o] (fun _ => True) ([xO q0 2 [.ref q1, .ref q4, .int (nI kc), .int td, .ref q2, .ref q3], xO q1 0 [.ref a1, .int (nI n)], xA γ a1 12 f, xL γ o 1 h]) (fun r9 w9 => r9 = some (.int 0) ∧ w9 = [xO q0 2 [.ref q1, .ref q4, .int (nI kc), .int td, .ref q2, .ref q3], xO q1 0 [.ref a1, .int (nI n)], xA γ a1 12 (upd f k x), xL γ o 1 (vp_updL h 0 (Int32.toInt64 (f k)))]) 0 0 := by
  refine xME.ofH (cc := cL_put) (maxL := 5) (ret := (some .int)) (hh := [(0, 10, 13, 19), (0, 10, 17, 13)]) (by decide +kernel) rfl (Nat.le_of_ble_eq_true rfl) ?_
  intro p e s m below meth c hx hb hr hml hts hown hlocks htab hP hK hEx A hA hD ls hl
  have hS : va_S A s.heap s.heap [] := va_S.rf
  generalize hargs : ([.ref q0, .int (nI k), .int x, .ref o] : List Value).toArray = args at hts ⊢
  obtain ⟨Q, hQ⟩ : ∃ Q9, Q9 = MQ below (xMQ γ (List.map Prod.fst ([xO q0 2 [.ref q1, .ref q4, .int (nI kc), .int td, .ref q2, .ref q3], xO q1 0 [.ref a1, .int (nI n)], xA γ a1 12 f, xL γ o 1 h])) A (fun r9 w9 => r9 = some (.int 0) ∧ w9 = [xO q0 2 [.ref q1, .ref q4, .int (nI kc), .int td, .ref q2, .ref q3], xO q1 0 [.ref a1, .int (nI n)], xA γ a1 12 (upd f k x), xL γ o 1 (vp_updL h 0 (Int32.toInt64 (f k)))])) args s 0 0 A := ⟨_, rfl⟩
  rw [← hQ]
  have hown : s.vm.findClass RL = some m.cls := hown
  have hl : lv_has ls 5 [(0, .ref q0), (1, .int (nI k)), (2, .int x), (3, .ref o)] := hl
  refine lv_aload_n hx hb dL_put_0 rfl (lv_at hl 3 rfl) ?_
  refine lv_iconst (v := 0) hx hb dL_put_1 (by decide) ?_
  refine lv_aload_n hx hb dL_put_2 rfl (lv_at hl 0 rfl) ?_
  refine lv_iload_n hx hb dL_put_3 rfl (lv_at hl 1 rfl) ?_
  refine lv_iload_n hx hb dL_put_4 rfl (lv_at hl 2 rfl) ?_
  refine xVM (q0 := 0) (ci := 2) (As := [.int (nI k), .int x]) (rest := [.int 0, .ref o]) ⟨hx, hb, hml, hown, hts⟩ (c_X2_put γ l q0 q1 q2 q3 q4 kc td a1 n f k x hn0 hn1 hk h1 h2) (cwV 2 hts gL_put_X2_put rfl rfl rfl hdv_X2_put ⟨(Nat.le_of_ble_eq_true rfl), (Nat.le_of_ble_eq_true rfl)⟩) hK hP hD hS hA [0, 1, 2] rfl rfl rfl rfl rfl hl.1 rfl (Nat.le_of_ble_eq_true rfl) dL_put_5 ⟨(Nat.le_of_ble_eq_true rfl), (Nat.le_of_ble_eq_true rfl)⟩ (fun r9 w9 H locs hw hP hD hS => ?_)
  obtain ⟨rfl, rfl⟩ := hw
  have hP : xP γ ([xO q0 2 [.ref q1, .ref q4, .int (nI kc), .int td, .ref q2, .ref q3], xO q1 0 [.ref a1, .int (nI n)], xA γ a1 12 (upd f k x), xL γ o 1 h]) H := hP
  have hD : va_D A ([xO q0 2 [.ref q1, .ref q4, .int (nI kc), .int td, .ref q2, .ref q3], xO q1 0 [.ref a1, .int (nI n)], xA γ a1 12 (upd f k x), xL γ o 1 h]) := hD
  refine W.eq (g2 := F0 m 8 ls [.int (f k), .int 0, .ref o]) rfl ?_
  refine lv_i2l (v := Int32.toInt64 (f k)) hx hb dL_put_8 rfl ?_
  refine x_last (f := h) hx hb hK hP hD hS 3 rfl 0 rfl (by omega) (by omega) dL_put_9 (fun H locs hP hD hS => ?_)
  have hP : xP γ ([xO q0 2 [.ref q1, .ref q4, .int (nI kc), .int td, .ref q2, .ref q3], xO q1 0 [.ref a1, .int (nI n)], xA γ a1 12 (upd f k x), xL γ o 1 (vp_updL h 0 (Int32.toInt64 (f k)))]) H := hP
  have hD : va_D A ([xO q0 2 [.ref q1, .ref q4, .int (nI kc), .int td, .ref q2, .ref q3], xO q1 0 [.ref a1, .int (nI n)], xA γ a1 12 (upd f k x), xL γ o 1 (vp_updL h 0 (Int32.toInt64 (f k)))]) := hD
  refine lv_goto (tgt := 21) hx hb dL_put_10 (by decide) ?_
  refine lv_iconst (v := 0) hx hb dL_put_21 (by decide) ?_
  subst hQ
  exact xM_i hx hb hr hlocks dL_put_22 hP rfl hS (Nat.le_of_ble_eq_true rfl) (Nat.le_of_ble_eq_true rfl) (⟨rfl, rfl⟩)

theorem hdv_X2_tip : yX2_tip.cls = RX2 ∧ yX2_tip.cls ≠ "java/lang/invoke/MethodHandle" ∧ yX2_tip.cls ≠ "java/lang/invoke/VarHandle" ∧ (parseMethodDescriptor yX2_tip.desc).map (fun d => d.parameters.length) = some 2 := by decide +kernel
set_option maxHeartbeats 4000000 in
set_option maxRecDepth 100000 in
theorem c_L_tip (γ : xG) (l : Launch) (q0 q1 q2 q3 q4 kc : Nat) (td : Int32) (a1 n : Nat) (f : xRow) (k : Nat) (x : Int32) (hn0 : 3 ≤ n) (hn1 : n ≤ 12) (hk : k < n) (h1 : ¬ x < (-50)) (h2 : x ≤ 50) (o : Nat) (h : Nat → Int64) : xME γ l yL_tip wsL_tip ({ frames := 4, cells := 0, slots := 0, locals := 88 } : Room) [.ref q0, .int (nI k), .int x, .ref o] (fun _ => True) ([xO q0 2 [.ref q1, .ref q4, .int (nI kc), .int td, .ref q2, .ref q3], xO q1 0 [.ref a1, .int (nI n)], xA γ a1 12 f, xL γ o 1 h]) (fun r9 w9 => r9 = some (.int 0) ∧ w9 = [xO q0 2 [.ref q1, .ref q4, .int (nI kc), .int (td + xAbs x), .ref q2, .ref q3], xO q1 0 [.ref a1, .int (nI n)], xA γ a1 12 (xTip n f k x), xL γ o 1 (vp_updL h 0 (Int32.toInt64 (xTip n f k x k)))]) 0 0 := by
  refine xME.ofH (cc := cL_tip) (maxL := 5) (ret := (some .int)) (hh := [(0, 10, 13, 19), (0, 10, 17, 13)]) (by decide +kernel) rfl (Nat.le_of_ble_eq_true rfl) ?_
  intro p e s m below meth c hx hb hr hml hts hown hlocks htab hP hK hEx A hA hD ls hl
  have hS : va_S A s.heap s.heap [] := va_S.rf
  generalize hargs : ([.ref q0, .int (nI k), .int x, .ref o] : List Value).toArray = args at hts ⊢
  obtain ⟨Q, hQ⟩ : ∃ Q9, Q9 = MQ below (xMQ γ (List.map Prod.fst ([xO q0 2 [.ref q1, .ref q4, .int (nI kc), .int td, .ref q2, .ref q3], xO q1 0 [.ref a1, .int (nI n)], xA γ a1 12 f, xL γ o 1 h])) A (fun r9 w9 => r9 = some (.int 0) ∧ w9 = [xO q0 2 [.ref q1, .ref q4, .int (nI kc), .int (td + xAbs x), .ref q2, .ref q3], xO q1 0 [.ref a1, .int (nI n)], xA γ a1 12 (xTip n f k x), xL γ o 1 (vp_updL h 0 (Int32.toInt64 (xTip n f k x k)))])) args s 0 0 A := ⟨_, rfl⟩
  rw [← hQ]
  have hown : s.vm.findClass RL = some m.cls := hown
  have hl : lv_has ls 5 [(0, .ref q0), (1, .int (nI k)), (2, .int x), (3, .ref o)] := hl
  refine lv_aload_n hx hb dL_tip_0 rfl (lv_at hl 3 rfl) ?_
  refine lv_iconst (v := 0) hx hb dL_tip_1 (by decide) ?_
  refine lv_aload_n hx hb dL_tip_2 rfl (lv_at hl 0 rfl) ?_
  refine lv_iload_n hx hb dL_tip_3 rfl (lv_at hl 1 rfl) ?_
  refine lv_iload_n hx hb dL_tip_4 rfl (lv_at hl 2 rfl) ?_
  refine xVM (q0 := 0) (ci := 2) (As := [.int (nI k), .int x]) (rest := [.int 0, .ref o]) ⟨hx, hb, hml, hown, hts⟩ (c_X2_tip γ l q0 q1 q2 q3 q4 kc td a1 n f k x hn0 hn1 hk h1 h2) (cwV 2 hts gL_tip_X2_tip rfl rfl rfl hdv_X2_tip ⟨(Nat.le_of_ble_eq_true rfl), (Nat.le_of_ble_eq_true rfl)⟩) hK hP hD hS hA [0, 1, 2] rfl rfl rfl rfl rfl hl.1 rfl (Nat.le_of_ble_eq_true rfl) dL_tip_5 ⟨(Nat.le_of_ble_eq_true rfl), (Nat.le_of_ble_eq_true rfl)⟩ (fun r9 w9 H locs hw hP hD hS => ?_)
  obtain ⟨rfl, rfl⟩ := hw
  have hP : xP γ ([xO q0 2 [.ref q1, .ref q4, .int (nI kc), .int (td + xAbs x), .ref q2, .ref q3], xO q1 0 [.ref a1, .int (nI n)], xA γ a1 12 (xTip n f k x), xL γ o 1 h]) H := hP
  have hD : va_D A ([xO q0 2 [.ref q1, .ref q4, .int (nI kc), .int (td + xAbs x), .ref q2, .ref q3], xO q1 0 [.ref a1, .int (nI n)], xA γ a1 12 (xTip n f k x), xL γ o 1 h]) := hD
  refine W.eq (g2 := F0 m 8 ls [.int (xTip n f k x k), .int 0, .ref o]) rfl ?_
  refine lv_i2l (v := Int32.toInt64 (xTip n f k x k)) hx hb dL_tip_8 rfl ?_
  refine x_last (f := h) hx hb hK hP hD hS 3 rfl 0 rfl (by omega) (by omega) dL_tip_9 (fun H locs hP hD hS => ?_)
  have hP : xP γ ([xO q0 2 [.ref q1, .ref q4, .int (nI kc), .int (td + xAbs x), .ref q2, .ref q3], xO q1 0 [.ref a1, .int (nI n)], xA γ a1 12 (xTip n f k x), xL γ o 1 (vp_updL h 0 (Int32.toInt64 (xTip n f k x k)))]) H := hP
  have hD : va_D A ([xO q0 2 [.ref q1, .ref q4, .int (nI kc), .int (td + xAbs x), .ref q2, .ref q3], xO q1 0 [.ref a1, .int (nI n)], xA γ a1 12 (xTip n f k x), xL γ o 1 (vp_updL h 0 (Int32.toInt64 (xTip n f k x k)))]) := hD
  refine lv_goto (tgt := 21) hx hb dL_tip_10 (by decide) ?_
  refine lv_iconst (v := 0) hx hb dL_tip_21 (by decide) ?_
  subst hQ
  exact xM_i hx hb hr hlocks dL_tip_22 hP rfl hS (Nat.le_of_ble_eq_true rfl) (Nat.le_of_ble_eq_true rfl) (⟨rfl, rfl⟩)

theorem hdv_X2_settle : yX2_settle.cls = RX2 ∧ yX2_settle.cls ≠ "java/lang/invoke/MethodHandle" ∧ yX2_settle.cls ≠ "java/lang/invoke/VarHandle" ∧ (parseMethodDescriptor yX2_settle.desc).map (fun d => d.parameters.length) = some 1 := by decide +kernel
set_option maxHeartbeats 4000000 in
set_option maxRecDepth 100000 in
theorem c_L_settle (γ : xG) (l : Launch) (q0 q1 q2 q3 q4 kc : Nat) (td : Int32) (a1 n : Nat) (f : xRow) (k : Nat) (hn0 : 3 ≤ n) (hn1 : n ≤ 12) (h1 : 1 ≤ k) (h2 : k ≤ 200) (o : Nat) (h : Nat → Int64) : xME γ l yL_settle wsL_settle ({ frames := 5, cells := 0, slots := 0, locals := 111 } : Room) [.ref q0, .int (nI k), .ref o] (fun _ => True) ([xO q0 2 [.ref q1, .ref q4, .int (nI kc), .int td, .ref q2, .ref q3], xO q1 0 [.ref a1, .int (nI n)], xA γ a1 12 f, xL γ o 1 h]) (fun r9 w9 => r9 = some (.int 0) ∧ w9 = [xO q0 2 [.ref q1, .ref q4, .int (nI kc), .int (td + nI (xStl n k f).1), .ref q2, .ref q3], xO q1 0 [.ref a1, .int (nI n)], xA γ a1 12 ((xStl n k f).2), xL γ o 1 (vp_updL h 0 (Int32.toInt64 (nI (xStl n k f).1)))]) 0 0 := by
  refine xME.ofH (cc := cL_settle) (maxL := 4) (ret := (some .int)) (hh := [(0, 9, 12, 13)]) (by decide +kernel) rfl (Nat.le_of_ble_eq_true rfl) ?_
  intro p e s m below meth c hx hb hr hml hts hown hlocks htab hP hK hEx A hA hD ls hl
  have hS : va_S A s.heap s.heap [] := va_S.rf
  generalize hargs : ([.ref q0, .int (nI k), .ref o] : List Value).toArray = args at hts ⊢
  obtain ⟨Q, hQ⟩ : ∃ Q9, Q9 = MQ below (xMQ γ (List.map Prod.fst ([xO q0 2 [.ref q1, .ref q4, .int (nI kc), .int td, .ref q2, .ref q3], xO q1 0 [.ref a1, .int (nI n)], xA γ a1 12 f, xL γ o 1 h])) A (fun r9 w9 => r9 = some (.int 0) ∧ w9 = [xO q0 2 [.ref q1, .ref q4, .int (nI kc), .int (td + nI (xStl n k f).1), .ref q2, .ref q3], xO q1 0 [.ref a1, .int (nI n)], xA γ a1 12 ((xStl n k f).2), xL γ o 1 (vp_updL h 0 (Int32.toInt64 (nI (xStl n k f).1)))])) args s 0 0 A := ⟨_, rfl⟩
  rw [← hQ]
  have hown : s.vm.findClass RL = some m.cls := hown
  have hl : lv_has ls 4 [(0, .ref q0), (1, .int (nI k)), (2, .ref o)] := hl
  refine lv_aload_n hx hb dL_settle_0 rfl (lv_at hl 2 rfl) ?_
  refine lv_iconst (v := 0) hx hb dL_settle_1 (by decide) ?_
  refine lv_aload_n hx hb dL_settle_2 rfl (lv_at hl 0 rfl) ?_
  refine lv_iload_n hx hb dL_settle_3 rfl (lv_at hl 1 rfl) ?_
  refine xVM (q0 := 0) (ci := 2) (As := [.int (nI k)]) (rest := [.int 0, .ref o]) ⟨hx, hb, hml, hown, hts⟩ (c_X2_settle γ l q0 q1 q2 q3 q4 kc td a1 n f k hn0 hn1 h1 h2) (cwV 1 hts gL_settle_X2_settle rfl rfl rfl hdv_X2_settle ⟨(Nat.le_of_ble_eq_true rfl), (Nat.le_of_ble_eq_true rfl)⟩) hK hP hD hS hA [0, 1, 2] rfl rfl rfl rfl rfl hl.1 rfl (Nat.le_of_ble_eq_true rfl) dL_settle_4 ⟨(Nat.le_of_ble_eq_true rfl), (Nat.le_of_ble_eq_true rfl)⟩ (fun r9 w9 H locs hw hP hD hS => ?_)
  obtain ⟨rfl, rfl⟩ := hw
  have hP : xP γ ([xO q0 2 [.ref q1, .ref q4, .int (nI kc), .int (td + nI (xStl n k f).1), .ref q2, .ref q3], xO q1 0 [.ref a1, .int (nI n)], xA γ a1 12 ((xStl n k f).2), xL γ o 1 h]) H := hP
  have hD : va_D A ([xO q0 2 [.ref q1, .ref q4, .int (nI kc), .int (td + nI (xStl n k f).1), .ref q2, .ref q3], xO q1 0 [.ref a1, .int (nI n)], xA γ a1 12 ((xStl n k f).2), xL γ o 1 h]) := hD
  refine W.eq (g2 := F0 m 7 ls [.int (nI ((xStl n k f).1)), .int 0, .ref o]) rfl ?_
  refine lv_i2l (v := Int32.toInt64 (nI ((xStl n k f).1))) hx hb dL_settle_7 rfl ?_
  refine x_last (f := h) hx hb hK hP hD hS 3 rfl 0 rfl (by omega) (by omega) dL_settle_8 (fun H locs hP hD hS => ?_)
  have hP : xP γ ([xO q0 2 [.ref q1, .ref q4, .int (nI kc), .int (td + nI (xStl n k f).1), .ref q2, .ref q3], xO q1 0 [.ref a1, .int (nI n)], xA γ a1 12 ((xStl n k f).2), xL γ o 1 (vp_updL h 0 (Int32.toInt64 (nI ((xStl n k f).1))))]) H := hP
  have hD : va_D A ([xO q0 2 [.ref q1, .ref q4, .int (nI kc), .int (td + nI (xStl n k f).1), .ref q2, .ref q3], xO q1 0 [.ref a1, .int (nI n)], xA γ a1 12 ((xStl n k f).2), xL γ o 1 (vp_updL h 0 (Int32.toInt64 (nI ((xStl n k f).1))))]) := hD
  refine lv_goto (tgt := 15) hx hb dL_settle_9 (by decide) ?_
  refine lv_iconst (v := 0) hx hb dL_settle_15 (by decide) ?_
  subst hQ
  exact xM_i hx hb hr hlocks dL_settle_16 hP rfl hS (Nat.le_of_ble_eq_true rfl) (Nat.le_of_ble_eq_true rfl) (⟨rfl, rfl⟩)

theorem hdv_X2_keep : yX2_keep.cls = RX2 ∧ yX2_keep.cls ≠ "java/lang/invoke/MethodHandle" ∧ yX2_keep.cls ≠ "java/lang/invoke/VarHandle" ∧ (parseMethodDescriptor yX2_keep.desc).map (fun d => d.parameters.length) = some 0 := by decide +kernel
set_option maxHeartbeats 4000000 in
set_option maxRecDepth 100000 in
theorem c_L_keep (γ : xG) (l : Launch) (q0 q1 q2 q3 q4 kc : Nat) (td : Int32) (a1 n : Nat) (f : xRow) (kq ka : Nat → Nat) (kn : Nat → Int32) (ks : Nat → xRow) (hn0 : 3 ≤ n) (hn1 : n ≤ 12) (hk : kc < 6) (o : Nat) (h : Nat → Int64) : xME γ l yL_keep wsL_keep ({ frames := 3, cells := 0, slots := 0, locals := 65 } : Room) [.ref q0, .ref o] (fun _ => True) ([xO q0 2 [.ref q1, .ref q4, .int (nI kc), .int td, .ref q2, .ref q3], xO q1 0 [.ref a1, .int (nI n)], xA γ a1 12 f, xQ γ q4 6 (fun t9 => some (kq t9)), xL γ o 1 h] ++ xKp γ kq ka kn ks) (fun r9 w9 => r9 = some (.int 0) ∧ w9 = [xO q0 2 [.ref q1, .ref q4, .int (nI (kc + 1)), .int td, .ref q2, .ref q3], xO q1 0 [.ref a1, .int (nI n)], xA γ a1 12 f, xQ γ q4 6 (fun t9 => some (kq t9)), xL γ o 1 (vp_updL h 0 (Int32.toInt64 (nI kc)))] ++ xKp γ kq ka (fun i => if i = kc then nI n else kn i) (fun i => if i = kc then f else ks i)) 0 0 := by
  refine xME.ofH (cc := cL_keep) (maxL := 3) (ret := (some .int)) (hh := [(0, 8, 11, 28)]) (by decide +kernel) rfl (Nat.le_of_ble_eq_true rfl) ?_
  intro p e s m below meth c hx hb hr hml hts hown hlocks htab hP hK hEx A hA hD ls hl
  have hS : va_S A s.heap s.heap [] := va_S.rf
  generalize hargs : ([.ref q0, .ref o] : List Value).toArray = args at hts ⊢
  obtain ⟨Q, hQ⟩ : ∃ Q9, Q9 = MQ below (xMQ γ (List.map Prod.fst ([xO q0 2 [.ref q1, .ref q4, .int (nI kc), .int td, .ref q2, .ref q3], xO q1 0 [.ref a1, .int (nI n)], xA γ a1 12 f, xQ γ q4 6 (fun t9 => some (kq t9)), xL γ o 1 h] ++ xKp γ kq ka kn ks)) A (fun r9 w9 => r9 = some (.int 0) ∧ w9 = [xO q0 2 [.ref q1, .ref q4, .int (nI (kc + 1)), .int td, .ref q2, .ref q3], xO q1 0 [.ref a1, .int (nI n)], xA γ a1 12 f, xQ γ q4 6 (fun t9 => some (kq t9)), xL γ o 1 (vp_updL h 0 (Int32.toInt64 (nI kc)))] ++ xKp γ kq ka (fun i => if i = kc then nI n else kn i) (fun i => if i = kc then f else ks i))) args s 0 0 A := ⟨_, rfl⟩
  rw [← hQ]
  have hown : s.vm.findClass RL = some m.cls := hown
  have hl : lv_has ls 3 [(0, .ref q0), (1, .ref o)] := hl
  refine lv_aload_n hx hb dL_keep_0 rfl (lv_at hl 1 rfl) ?_
  refine lv_iconst (v := 0) hx hb dL_keep_1 (by decide) ?_
  refine lv_aload_n hx hb dL_keep_2 rfl (lv_at hl 0 rfl) ?_
  refine xVM (q0 := 0) (ci := 2) (As := []) (rest := [.int 0, .ref o]) ⟨hx, hb, hml, hown, hts⟩ (c_X2_keep γ l q0 q1 q2 q3 q4 kc td a1 n f kq ka kn ks hk) (cwV 0 hts gL_keep_X2_keep rfl rfl rfl hdv_X2_keep ⟨(Nat.le_of_ble_eq_true rfl), (Nat.le_of_ble_eq_true rfl)⟩) hK hP hD hS hA ([0, 1, 2, 3] ++ List.range' 5 12) rfl (xsuf_M (base := [xO q0 2 [.ref q1, .ref q4, .int (nI kc), .int td, .ref q2, .ref q3], xO q1 0 [.ref a1, .int (nI n)], xA γ a1 12 f, xQ γ q4 6 (fun t9 => some (kq t9)), xL γ o 1 h]) rfl rfl rfl (by decide)) rfl rfl rfl hl.1 rfl (Nat.le_of_ble_eq_true rfl) dL_keep_3 ⟨(Nat.le_of_ble_eq_true rfl), (Nat.le_of_ble_eq_true rfl)⟩ (fun r9 w9 H locs hw hP hD hS => ?_)
  obtain ⟨rfl, rfl⟩ := hw
  rw [xup_suf2 (base := [xO q0 2 [.ref q1, .ref q4, .int (nI kc), .int td, .ref q2, .ref q3], xO q1 0 [.ref a1, .int (nI n)], xA γ a1 12 f, xQ γ q4 6 (fun t9 => some (kq t9)), xL γ o 1 h]) (K := xKp γ kq ka kn ks) (K' := xKp γ kq ka (fun i => if i = kc then nI n else kn i) (fun i => if i = kc then f else ks i)) (is1 := [0, 1, 2, 3]) (w1 := [xO q0 2 [.ref q1, .ref q4, .int (nI (kc + 1)), .int td, .ref q2, .ref q3], xO q1 0 [.ref a1, .int (nI n)], xA γ a1 12 f, xQ γ q4 6 (fun t9 => some (kq t9))]) (nb := 5) rfl rfl rfl rfl (by decide)] at hP hD
  have hP : xP γ ([xO q0 2 [.ref q1, .ref q4, .int (nI (kc + 1)), .int td, .ref q2, .ref q3], xO q1 0 [.ref a1, .int (nI n)], xA γ a1 12 f, xQ γ q4 6 (fun t9 => some (kq t9)), xL γ o 1 h] ++ xKp γ kq ka (fun i => if i = kc then nI n else kn i) (fun i => if i = kc then f else ks i)) H := hP
  have hD : va_D A ([xO q0 2 [.ref q1, .ref q4, .int (nI (kc + 1)), .int td, .ref q2, .ref q3], xO q1 0 [.ref a1, .int (nI n)], xA γ a1 12 f, xQ γ q4 6 (fun t9 => some (kq t9)), xL γ o 1 h] ++ xKp γ kq ka (fun i => if i = kc then nI n else kn i) (fun i => if i = kc then f else ks i)) := hD
  refine W.eq (g2 := F0 m 6 ls [.int (nI kc), .int 0, .ref o]) rfl ?_
  refine lv_i2l (v := Int32.toInt64 (nI kc)) hx hb dL_keep_6 rfl ?_
  refine x_last (f := h) hx hb hK hP hD hS 4 rfl 0 rfl (by omega) (by omega) dL_keep_7 (fun H locs hP hD hS => ?_)
  have hP : xP γ ([xO q0 2 [.ref q1, .ref q4, .int (nI (kc + 1)), .int td, .ref q2, .ref q3], xO q1 0 [.ref a1, .int (nI n)], xA γ a1 12 f, xQ γ q4 6 (fun t9 => some (kq t9)), xL γ o 1 (vp_updL h 0 (Int32.toInt64 (nI kc)))] ++ xKp γ kq ka (fun i => if i = kc then nI n else kn i) (fun i => if i = kc then f else ks i)) H := hP
  have hD : va_D A ([xO q0 2 [.ref q1, .ref q4, .int (nI (kc + 1)), .int td, .ref q2, .ref q3], xO q1 0 [.ref a1, .int (nI n)], xA γ a1 12 f, xQ γ q4 6 (fun t9 => some (kq t9)), xL γ o 1 (vp_updL h 0 (Int32.toInt64 (nI kc)))] ++ xKp γ kq ka (fun i => if i = kc then nI n else kn i) (fun i => if i = kc then f else ks i)) := hD
  refine lv_goto (tgt := 14) hx hb dL_keep_8 (by decide) ?_
  refine lv_iconst (v := 0) hx hb dL_keep_14 (by decide) ?_
  subst hQ
  exact xM_i hx hb hr hlocks dL_keep_15 hP rfl hS (Nat.le_of_ble_eq_true rfl) (Nat.le_of_ble_eq_true rfl) (⟨rfl, rfl⟩)

theorem hdv_X2_reach : yX2_reach.cls = RX2 ∧ yX2_reach.cls ≠ "java/lang/invoke/MethodHandle" ∧ yX2_reach.cls ≠ "java/lang/invoke/VarHandle" ∧ (parseMethodDescriptor yX2_reach.desc).map (fun d => d.parameters.length) = some 1 := by decide +kernel
set_option maxHeartbeats 4000000 in
set_option maxRecDepth 100000 in
theorem c_L_reach (γ : xG) (l : Launch) (q0 q1 q2 q3 q4 kc : Nat) (td : Int32) (a1 n : Nat) (f : xRow) (a3 : Nat) (wn : Int32) (wf : xRow) (kq ka : Nat → Nat) (kn : Nat → Int32) (ks : Nat → xRow) (k : Nat) (hn0 : 3 ≤ n) (hn1 : n ≤ 12) (hk : k < kc) (hkc : kc ≤ 6) (hcb : xCB n f (ks k) = true) (o : Nat) (h : Nat → Int64) : xME γ l yL_reach wsL_reach ({ frames := 5, cells := 0, slots := 0, locals := 114 } : Room) [.ref q0, .int (nI k), .ref o] (fun _ => True) ([xO (kq k) 0 [.ref (ka k), .int (nI n)], xA γ (ka k) 12 (ks k), xO q0 2 [.ref q1, .ref q4, .int (nI kc), .int td, .ref q2, .ref q3], xO q1 0 [.ref a1, .int (nI n)], xA γ a1 12 f, xO q3 1 [.ref a3, .int wn], xA γ a3 12 wf, xQ γ q4 6 (fun t9 => some (kq t9)), xL γ o 1 h]) (fun r9 w9 => r9 = some (.int 0) ∧ ∃ (z9 : Int32) (h9 : xRow), w9 = [xO (kq k) 0 [.ref (ka k), .int (nI n)], xA γ (ka k) 12 (ks k), xO q0 2 [.ref q1, .ref q4, .int (nI kc), .int (td + xFew n f (ks k)), .ref q2, .ref q3], xO q1 0 [.ref a1, .int (nI n)], xA γ a1 12 (ks k), xO q3 1 [.ref a3, .int z9], xA γ a3 12 h9, xQ γ q4 6 (fun t9 => some (kq t9)), xL γ o 1 (vp_updL h 0 (Int32.toInt64 (xFew n f (ks k))))]) 0 0 := by
  refine xME.ofH (cc := cL_reach) (maxL := 4) (ret := (some .int)) (hh := [(0, 9, 12, 19), (0, 9, 15, 28)]) (by decide +kernel) rfl (Nat.le_of_ble_eq_true rfl) ?_
  intro p e s m below meth c hx hb hr hml hts hown hlocks htab hP hK hEx A hA hD ls hl
  have hS : va_S A s.heap s.heap [] := va_S.rf
  generalize hargs : ([.ref q0, .int (nI k), .ref o] : List Value).toArray = args at hts ⊢
  obtain ⟨Q, hQ⟩ : ∃ Q9, Q9 = MQ below (xMQ γ (List.map Prod.fst ([xO (kq k) 0 [.ref (ka k), .int (nI n)], xA γ (ka k) 12 (ks k), xO q0 2 [.ref q1, .ref q4, .int (nI kc), .int td, .ref q2, .ref q3], xO q1 0 [.ref a1, .int (nI n)], xA γ a1 12 f, xO q3 1 [.ref a3, .int wn], xA γ a3 12 wf, xQ γ q4 6 (fun t9 => some (kq t9)), xL γ o 1 h])) A (fun r9 w9 => r9 = some (.int 0) ∧ ∃ (z9 : Int32) (h9 : xRow), w9 = [xO (kq k) 0 [.ref (ka k), .int (nI n)], xA γ (ka k) 12 (ks k), xO q0 2 [.ref q1, .ref q4, .int (nI kc), .int (td + xFew n f (ks k)), .ref q2, .ref q3], xO q1 0 [.ref a1, .int (nI n)], xA γ a1 12 (ks k), xO q3 1 [.ref a3, .int z9], xA γ a3 12 h9, xQ γ q4 6 (fun t9 => some (kq t9)), xL γ o 1 (vp_updL h 0 (Int32.toInt64 (xFew n f (ks k))))])) args s 0 0 A := ⟨_, rfl⟩
  rw [← hQ]
  have hown : s.vm.findClass RL = some m.cls := hown
  have hl : lv_has ls 4 [(0, .ref q0), (1, .int (nI k)), (2, .ref o)] := hl
  refine lv_aload_n hx hb dL_reach_0 rfl (lv_at hl 2 rfl) ?_
  refine lv_iconst (v := 0) hx hb dL_reach_1 (by decide) ?_
  refine lv_aload_n hx hb dL_reach_2 rfl (lv_at hl 0 rfl) ?_
  refine lv_iload_n hx hb dL_reach_3 rfl (lv_at hl 1 rfl) ?_
  refine xVM (q0 := 2) (ci := 2) (As := [.int (nI k)]) (rest := [.int 0, .ref o]) ⟨hx, hb, hml, hown, hts⟩ (c_X2_reach γ l q0 q1 q2 q3 q4 kc td a1 n f a3 wn wf kq ka kn ks k hn0 hn1 hk hkc hcb) (cwV 1 hts gL_reach_X2_reach rfl rfl rfl hdv_X2_reach ⟨(Nat.le_of_ble_eq_true rfl), (Nat.le_of_ble_eq_true rfl)⟩) hK hP hD hS hA [2, 3, 4, 5, 6, 7, 0, 1] rfl rfl rfl rfl rfl hl.1 rfl (Nat.le_of_ble_eq_true rfl) dL_reach_4 ⟨(Nat.le_of_ble_eq_true rfl), (Nat.le_of_ble_eq_true rfl)⟩ (fun r9 w9 H locs hw hP hD hS => ?_)
  obtain ⟨rfl, wn143x, wf144x, rfl⟩ := hw
  have hP : xP γ ([xO (kq k) 0 [.ref (ka k), .int (nI n)], xA γ (ka k) 12 (ks k), xO q0 2 [.ref q1, .ref q4, .int (nI kc), .int (td + xFew n f (ks k)), .ref q2, .ref q3], xO q1 0 [.ref a1, .int (nI n)], xA γ a1 12 (ks k), xO q3 1 [.ref a3, .int wn143x], xA γ a3 12 wf144x, xQ γ q4 6 (fun t9 => some (kq t9)), xL γ o 1 h]) H := hP
  have hD : va_D A ([xO (kq k) 0 [.ref (ka k), .int (nI n)], xA γ (ka k) 12 (ks k), xO q0 2 [.ref q1, .ref q4, .int (nI kc), .int (td + xFew n f (ks k)), .ref q2, .ref q3], xO q1 0 [.ref a1, .int (nI n)], xA γ a1 12 (ks k), xO q3 1 [.ref a3, .int wn143x], xA γ a3 12 wf144x, xQ γ q4 6 (fun t9 => some (kq t9)), xL γ o 1 h]) := hD
  refine W.eq (g2 := F0 m 7 ls [.int (xFew n f (ks k)), .int 0, .ref o]) rfl ?_
  refine lv_i2l (v := Int32.toInt64 (xFew n f (ks k))) hx hb dL_reach_7 rfl ?_
  refine x_last (f := h) hx hb hK hP hD hS 8 rfl 0 rfl (by omega) (by omega) dL_reach_8 (fun H locs hP hD hS => ?_)
  have hP : xP γ ([xO (kq k) 0 [.ref (ka k), .int (nI n)], xA γ (ka k) 12 (ks k), xO q0 2 [.ref q1, .ref q4, .int (nI kc), .int (td + xFew n f (ks k)), .ref q2, .ref q3], xO q1 0 [.ref a1, .int (nI n)], xA γ a1 12 (ks k), xO q3 1 [.ref a3, .int wn143x], xA γ a3 12 wf144x, xQ γ q4 6 (fun t9 => some (kq t9)), xL γ o 1 (vp_updL h 0 (Int32.toInt64 (xFew n f (ks k))))]) H := hP
  have hD : va_D A ([xO (kq k) 0 [.ref (ka k), .int (nI n)], xA γ (ka k) 12 (ks k), xO q0 2 [.ref q1, .ref q4, .int (nI kc), .int (td + xFew n f (ks k)), .ref q2, .ref q3], xO q1 0 [.ref a1, .int (nI n)], xA γ a1 12 (ks k), xO q3 1 [.ref a3, .int wn143x], xA γ a3 12 wf144x, xQ γ q4 6 (fun t9 => some (kq t9)), xL γ o 1 (vp_updL h 0 (Int32.toInt64 (xFew n f (ks k))))]) := hD
  refine lv_goto (tgt := 18) hx hb dL_reach_9 (by decide) ?_
  refine lv_iconst (v := 0) hx hb dL_reach_18 (by decide) ?_
  subst hQ
  exact xM_i hx hb hr hlocks dL_reach_19 hP rfl hS (Nat.le_of_ble_eq_true rfl) (Nat.le_of_ble_eq_true rfl) (⟨rfl, _, _, rfl⟩)

theorem hdv_X2_tipsTo : yX2_tipsTo.cls = RX2 ∧ yX2_tipsTo.cls ≠ "java/lang/invoke/MethodHandle" ∧ yX2_tipsTo.cls ≠ "java/lang/invoke/VarHandle" ∧ (parseMethodDescriptor yX2_tipsTo.desc).map (fun d => d.parameters.length) = some 2 := by decide +kernel
set_option maxHeartbeats 4000000 in
set_option maxRecDepth 100000 in
theorem c_L_tipsTo (γ : xG) (l : Launch) (q0 q1 q2 q3 q4 kc : Nat) (td : Int32) (a1 n : Nat) (f : xRow) (a3 : Nat) (wn : Int32) (wf : xRow) (kq ka : Nat → Nat) (kn : Nat → Int32) (ks : Nat → xRow) (k i9 : Nat) (hn0 : 3 ≤ n) (hn1 : n ≤ 12) (hk : k < kc) (hkc : kc ≤ 6) (hi : i9 < n) (hcb : xCB n f (ks k) = true) (o : Nat) (h : Nat → Int64) : xME γ l yL_tipsTo wsL_tipsTo ({ frames := 5, cells := 0, slots := 0, locals := 109 } : Room) [.ref q0, .int (nI k), .int (nI i9), .ref o] (fun _ => True) ([xO (kq k) 0 [.ref (ka k), .int (nI n)], xA γ (ka k) 12 (ks k), xO q0 2 [.ref q1, .ref q4, .int (nI kc), .int td, .ref q2, .ref q3], xO q1 0 [.ref a1, .int (nI n)], xA γ a1 12 f, xO q3 1 [.ref a3, .int wn], xA γ a3 12 wf, xQ γ q4 6 (fun t9 => some (kq t9)), xL γ o 1 h]) (fun r9 w9 => r9 = some (.int 0) ∧ ∃ (z9 : Int32) (h9 : xRow), w9 = [xO (kq k) 0 [.ref (ka k), .int (nI n)], xA γ (ka k) 12 (ks k), xO q0 2 [.ref q1, .ref q4, .int (nI kc), .int td, .ref q2, .ref q3], xO q1 0 [.ref a1, .int (nI n)], xA γ a1 12 f, xO q3 1 [.ref a3, .int z9], xA γ a3 12 h9, xQ γ q4 6 (fun t9 => some (kq t9)), xL γ o 1 (vp_updL h 0 (Int32.toInt64 (xHt n f (ks k) i9)))]) 0 0 := by
  refine xME.ofH (cc := cL_tipsTo) (maxL := 5) (ret := (some .int)) (hh := [(0, 10, 13, 19), (0, 10, 17, 28)]) (by decide +kernel) rfl (Nat.le_of_ble_eq_true rfl) ?_
  intro p e s m below meth c hx hb hr hml hts hown hlocks htab hP hK hEx A hA hD ls hl
  have hS : va_S A s.heap s.heap [] := va_S.rf
  generalize hargs : ([.ref q0, .int (nI k), .int (nI i9), .ref o] : List Value).toArray = args at hts ⊢
  obtain ⟨Q, hQ⟩ : ∃ Q9, Q9 = MQ below (xMQ γ (List.map Prod.fst ([xO (kq k) 0 [.ref (ka k), .int (nI n)], xA γ (ka k) 12 (ks k), xO q0 2 [.ref q1, .ref q4, .int (nI kc), .int td, .ref q2, .ref q3], xO q1 0 [.ref a1, .int (nI n)], xA γ a1 12 f, xO q3 1 [.ref a3, .int wn], xA γ a3 12 wf, xQ γ q4 6 (fun t9 => some (kq t9)), xL γ o 1 h])) A (fun r9 w9 => r9 = some (.int 0) ∧ ∃ (z9 : Int32) (h9 : xRow), w9 = [xO (kq k) 0 [.ref (ka k), .int (nI n)], xA γ (ka k) 12 (ks k), xO q0 2 [.ref q1, .ref q4, .int (nI kc), .int td, .ref q2, .ref q3], xO q1 0 [.ref a1, .int (nI n)], xA γ a1 12 f, xO q3 1 [.ref a3, .int z9], xA γ a3 12 h9, xQ γ q4 6 (fun t9 => some (kq t9)), xL γ o 1 (vp_updL h 0 (Int32.toInt64 (xHt n f (ks k) i9)))])) args s 0 0 A := ⟨_, rfl⟩
  rw [← hQ]
  have hown : s.vm.findClass RL = some m.cls := hown
  have hl : lv_has ls 5 [(0, .ref q0), (1, .int (nI k)), (2, .int (nI i9)), (3, .ref o)] := hl
  refine lv_aload_n hx hb dL_tipsTo_0 rfl (lv_at hl 3 rfl) ?_
  refine lv_iconst (v := 0) hx hb dL_tipsTo_1 (by decide) ?_
  refine lv_aload_n hx hb dL_tipsTo_2 rfl (lv_at hl 0 rfl) ?_
  refine lv_iload_n hx hb dL_tipsTo_3 rfl (lv_at hl 1 rfl) ?_
  refine lv_iload_n hx hb dL_tipsTo_4 rfl (lv_at hl 2 rfl) ?_
  refine xVM (q0 := 2) (ci := 2) (As := [.int (nI k), .int (nI i9)]) (rest := [.int 0, .ref o]) ⟨hx, hb, hml, hown, hts⟩ (c_X2_tipsTo γ l q0 q1 q2 q3 q4 kc td a1 n f a3 wn wf kq ka kn ks k i9 hn0 hn1 hk hkc hi hcb) (cwV 2 hts gL_tipsTo_X2_tipsTo rfl rfl rfl hdv_X2_tipsTo ⟨(Nat.le_of_ble_eq_true rfl), (Nat.le_of_ble_eq_true rfl)⟩) hK hP hD hS hA [2, 3, 4, 5, 6, 7, 0, 1] rfl rfl rfl rfl rfl hl.1 rfl (Nat.le_of_ble_eq_true rfl) dL_tipsTo_5 ⟨(Nat.le_of_ble_eq_true rfl), (Nat.le_of_ble_eq_true rfl)⟩ (fun r9 w9 H locs hw hP hD hS => ?_)
  obtain ⟨rfl, wn147x, wf148x, rfl⟩ := hw
  have hP : xP γ ([xO (kq k) 0 [.ref (ka k), .int (nI n)], xA γ (ka k) 12 (ks k), xO q0 2 [.ref q1, .ref q4, .int (nI kc), .int td, .ref q2, .ref q3], xO q1 0 [.ref a1, .int (nI n)], xA γ a1 12 f, xO q3 1 [.ref a3, .int wn147x], xA γ a3 12 wf148x, xQ γ q4 6 (fun t9 => some (kq t9)), xL γ o 1 h]) H := hP
  have hD : va_D A ([xO (kq k) 0 [.ref (ka k), .int (nI n)], xA γ (ka k) 12 (ks k), xO q0 2 [.ref q1, .ref q4, .int (nI kc), .int td, .ref q2, .ref q3], xO q1 0 [.ref a1, .int (nI n)], xA γ a1 12 f, xO q3 1 [.ref a3, .int wn147x], xA γ a3 12 wf148x, xQ γ q4 6 (fun t9 => some (kq t9)), xL γ o 1 h]) := hD
  refine W.eq (g2 := F0 m 8 ls [.int (xHt n f (ks k) i9), .int 0, .ref o]) rfl ?_
  refine lv_i2l (v := Int32.toInt64 (xHt n f (ks k) i9)) hx hb dL_tipsTo_8 rfl ?_
  refine x_last (f := h) hx hb hK hP hD hS 8 rfl 0 rfl (by omega) (by omega) dL_tipsTo_9 (fun H locs hP hD hS => ?_)
  have hP : xP γ ([xO (kq k) 0 [.ref (ka k), .int (nI n)], xA γ (ka k) 12 (ks k), xO q0 2 [.ref q1, .ref q4, .int (nI kc), .int td, .ref q2, .ref q3], xO q1 0 [.ref a1, .int (nI n)], xA γ a1 12 f, xO q3 1 [.ref a3, .int wn147x], xA γ a3 12 wf148x, xQ γ q4 6 (fun t9 => some (kq t9)), xL γ o 1 (vp_updL h 0 (Int32.toInt64 (xHt n f (ks k) i9)))]) H := hP
  have hD : va_D A ([xO (kq k) 0 [.ref (ka k), .int (nI n)], xA γ (ka k) 12 (ks k), xO q0 2 [.ref q1, .ref q4, .int (nI kc), .int td, .ref q2, .ref q3], xO q1 0 [.ref a1, .int (nI n)], xA γ a1 12 f, xO q3 1 [.ref a3, .int wn147x], xA γ a3 12 wf148x, xQ γ q4 6 (fun t9 => some (kq t9)), xL γ o 1 (vp_updL h 0 (Int32.toInt64 (xHt n f (ks k) i9)))]) := hD
  refine lv_goto (tgt := 21) hx hb dL_tipsTo_10 (by decide) ?_
  refine lv_iconst (v := 0) hx hb dL_tipsTo_21 (by decide) ?_
  subst hQ
  exact xM_i hx hb hr hlocks dL_tipsTo_22 hP rfl hS (Nat.le_of_ble_eq_true rfl) (Nat.le_of_ble_eq_true rfl) (⟨rfl, _, _, rfl⟩)

theorem hdv_X2_fewestTips : yX2_fewestTips.cls = RX2 ∧ yX2_fewestTips.cls ≠ "java/lang/invoke/MethodHandle" ∧ yX2_fewestTips.cls ≠ "java/lang/invoke/VarHandle" ∧ (parseMethodDescriptor yX2_fewestTips.desc).map (fun d => d.parameters.length) = some 1 := by decide +kernel
set_option maxHeartbeats 4000000 in
set_option maxRecDepth 100000 in
theorem c_L_fewestTips (γ : xG) (l : Launch) (q0 q1 q2 q3 q4 kc : Nat) (td : Int32) (a1 n : Nat) (f : xRow) (a3 : Nat) (wn : Int32) (wf : xRow) (kq ka : Nat → Nat) (kn : Nat → Int32) (ks : Nat → xRow) (k : Nat) (hn0 : 3 ≤ n) (hn1 : n ≤ 12) (hk : k < kc) (hkc : kc ≤ 6) (o : Nat) (h : Nat → Int64) : xME γ l yL_fewestTips wsL_fewestTips ({ frames := 5, cells := 0, slots := 0, locals := 112 } : Room) [.ref q0, .int (nI k), .ref o] (fun _ => True) ([xO (kq k) 0 [.ref (ka k), .int (nI n)], xA γ (ka k) 12 (ks k), xO q0 2 [.ref q1, .ref q4, .int (nI kc), .int td, .ref q2, .ref q3], xO q1 0 [.ref a1, .int (nI n)], xA γ a1 12 f, xO q3 1 [.ref a3, .int wn], xA γ a3 12 wf, xQ γ q4 6 (fun t9 => some (kq t9)), xL γ o 1 h]) (fun r9 w9 => r9 = some (.int 0) ∧ ∃ (z9 : Int32) (h9 : xRow), w9 = [xO (kq k) 0 [.ref (ka k), .int (nI n)], xA γ (ka k) 12 (ks k), xO q0 2 [.ref q1, .ref q4, .int (nI kc), .int td, .ref q2, .ref q3], xO q1 0 [.ref a1, .int (nI n)], xA γ a1 12 f, xO q3 1 [.ref a3, .int z9], xA γ a3 12 h9, xQ γ q4 6 (fun t9 => some (kq t9)), xL γ o 1 (vp_updL h 0 (Int32.toInt64 (xFew n f (ks k))))]) 0 0 := by
  refine xME.ofH (cc := cL_fewestTips) (maxL := 4) (ret := (some .int)) (hh := [(0, 9, 12, 19)]) (by decide +kernel) rfl (Nat.le_of_ble_eq_true rfl) ?_
  intro p e s m below meth c hx hb hr hml hts hown hlocks htab hP hK hEx A hA hD ls hl
  have hS : va_S A s.heap s.heap [] := va_S.rf
  generalize hargs : ([.ref q0, .int (nI k), .ref o] : List Value).toArray = args at hts ⊢
  obtain ⟨Q, hQ⟩ : ∃ Q9, Q9 = MQ below (xMQ γ (List.map Prod.fst ([xO (kq k) 0 [.ref (ka k), .int (nI n)], xA γ (ka k) 12 (ks k), xO q0 2 [.ref q1, .ref q4, .int (nI kc), .int td, .ref q2, .ref q3], xO q1 0 [.ref a1, .int (nI n)], xA γ a1 12 f, xO q3 1 [.ref a3, .int wn], xA γ a3 12 wf, xQ γ q4 6 (fun t9 => some (kq t9)), xL γ o 1 h])) A (fun r9 w9 => r9 = some (.int 0) ∧ ∃ (z9 : Int32) (h9 : xRow), w9 = [xO (kq k) 0 [.ref (ka k), .int (nI n)], xA γ (ka k) 12 (ks k), xO q0 2 [.ref q1, .ref q4, .int (nI kc), .int td, .ref q2, .ref q3], xO q1 0 [.ref a1, .int (nI n)], xA γ a1 12 f, xO q3 1 [.ref a3, .int z9], xA γ a3 12 h9, xQ γ q4 6 (fun t9 => some (kq t9)), xL γ o 1 (vp_updL h 0 (Int32.toInt64 (xFew n f (ks k))))])) args s 0 0 A := ⟨_, rfl⟩
  rw [← hQ]
  have hown : s.vm.findClass RL = some m.cls := hown
  have hl : lv_has ls 4 [(0, .ref q0), (1, .int (nI k)), (2, .ref o)] := hl
  refine lv_aload_n hx hb dL_fewestTips_0 rfl (lv_at hl 2 rfl) ?_
  refine lv_iconst (v := 0) hx hb dL_fewestTips_1 (by decide) ?_
  refine lv_aload_n hx hb dL_fewestTips_2 rfl (lv_at hl 0 rfl) ?_
  refine lv_iload_n hx hb dL_fewestTips_3 rfl (lv_at hl 1 rfl) ?_
  refine xVM (q0 := 2) (ci := 2) (As := [.int (nI k)]) (rest := [.int 0, .ref o]) ⟨hx, hb, hml, hown, hts⟩ (c_X2_fewestTips γ l q0 q1 q2 q3 q4 kc td a1 n f a3 wn wf kq ka kn ks k hn0 hn1 hk hkc) (cwV 1 hts gL_fewestTips_X2_fewestTips rfl rfl rfl hdv_X2_fewestTips ⟨(Nat.le_of_ble_eq_true rfl), (Nat.le_of_ble_eq_true rfl)⟩) hK hP hD hS hA [2, 3, 4, 5, 6, 7, 0, 1] rfl rfl rfl rfl rfl hl.1 rfl (Nat.le_of_ble_eq_true rfl) dL_fewestTips_4 ⟨(Nat.le_of_ble_eq_true rfl), (Nat.le_of_ble_eq_true rfl)⟩ (fun r9 w9 H locs hw hP hD hS => ?_)
  obtain ⟨rfl, wn151x, wf152x, rfl⟩ := hw
  have hP : xP γ ([xO (kq k) 0 [.ref (ka k), .int (nI n)], xA γ (ka k) 12 (ks k), xO q0 2 [.ref q1, .ref q4, .int (nI kc), .int td, .ref q2, .ref q3], xO q1 0 [.ref a1, .int (nI n)], xA γ a1 12 f, xO q3 1 [.ref a3, .int wn151x], xA γ a3 12 wf152x, xQ γ q4 6 (fun t9 => some (kq t9)), xL γ o 1 h]) H := hP
  have hD : va_D A ([xO (kq k) 0 [.ref (ka k), .int (nI n)], xA γ (ka k) 12 (ks k), xO q0 2 [.ref q1, .ref q4, .int (nI kc), .int td, .ref q2, .ref q3], xO q1 0 [.ref a1, .int (nI n)], xA γ a1 12 f, xO q3 1 [.ref a3, .int wn151x], xA γ a3 12 wf152x, xQ γ q4 6 (fun t9 => some (kq t9)), xL γ o 1 h]) := hD
  refine W.eq (g2 := F0 m 7 ls [.int (xFew n f (ks k)), .int 0, .ref o]) rfl ?_
  refine lv_i2l (v := Int32.toInt64 (xFew n f (ks k))) hx hb dL_fewestTips_7 rfl ?_
  refine x_last (f := h) hx hb hK hP hD hS 8 rfl 0 rfl (by omega) (by omega) dL_fewestTips_8 (fun H locs hP hD hS => ?_)
  have hP : xP γ ([xO (kq k) 0 [.ref (ka k), .int (nI n)], xA γ (ka k) 12 (ks k), xO q0 2 [.ref q1, .ref q4, .int (nI kc), .int td, .ref q2, .ref q3], xO q1 0 [.ref a1, .int (nI n)], xA γ a1 12 f, xO q3 1 [.ref a3, .int wn151x], xA γ a3 12 wf152x, xQ γ q4 6 (fun t9 => some (kq t9)), xL γ o 1 (vp_updL h 0 (Int32.toInt64 (xFew n f (ks k))))]) H := hP
  have hD : va_D A ([xO (kq k) 0 [.ref (ka k), .int (nI n)], xA γ (ka k) 12 (ks k), xO q0 2 [.ref q1, .ref q4, .int (nI kc), .int td, .ref q2, .ref q3], xO q1 0 [.ref a1, .int (nI n)], xA γ a1 12 f, xO q3 1 [.ref a3, .int wn151x], xA γ a3 12 wf152x, xQ γ q4 6 (fun t9 => some (kq t9)), xL γ o 1 (vp_updL h 0 (Int32.toInt64 (xFew n f (ks k))))]) := hD
  refine lv_goto (tgt := 15) hx hb dL_fewestTips_9 (by decide) ?_
  refine lv_iconst (v := 0) hx hb dL_fewestTips_15 (by decide) ?_
  subst hQ
  exact xM_i hx hb hr hlocks dL_fewestTips_16 hP rfl hS (Nat.le_of_ble_eq_true rfl) (Nat.le_of_ble_eq_true rfl) (⟨rfl, _, _, rfl⟩)

theorem hdv_X2_numberAt : yX2_numberAt.cls = RX2 ∧ yX2_numberAt.cls ≠ "java/lang/invoke/MethodHandle" ∧ yX2_numberAt.cls ≠ "java/lang/invoke/VarHandle" ∧ (parseMethodDescriptor yX2_numberAt.desc).map (fun d => d.parameters.length) = some 1 := by decide +kernel
set_option maxHeartbeats 4000000 in
set_option maxRecDepth 100000 in
theorem c_L_numberAt (γ : xG) (l : Launch) (q0 q1 q2 q3 q4 kc : Nat) (td : Int32) (a1 n : Nat) (f : xRow) (k : Nat) (hn0 : 3 ≤ n) (hn1 : n ≤ 12) (hk : k < n) (o : Nat) (h : Nat → Int64) : xME γ l yL_numberAt wsL_numberAt ({ frames := 3, cells := 0, slots := 0, locals := 62 } : Room) [.ref q0, .int (nI k), .ref o] (fun _ => True) ([xO q0 2 [.ref q1, .ref q4, .int (nI kc), .int td, .ref q2, .ref q3], xO q1 0 [.ref a1, .int (nI n)], xA γ a1 12 f, xL γ o 1 h]) (fun r9 w9 => r9 = some (.int 0) ∧ w9 = [xO q0 2 [.ref q1, .ref q4, .int (nI kc), .int td, .ref q2, .ref q3], xO q1 0 [.ref a1, .int (nI n)], xA γ a1 12 f, xL γ o 1 (vp_updL h 0 (Int32.toInt64 (f k)))]) 0 0 := by
  refine xME.ofH (cc := cL_numberAt) (maxL := 4) (ret := (some .int)) (hh := [(0, 9, 12, 19)]) (by decide +kernel) rfl (Nat.le_of_ble_eq_true rfl) ?_
  intro p e s m below meth c hx hb hr hml hts hown hlocks htab hP hK hEx A hA hD ls hl
  have hS : va_S A s.heap s.heap [] := va_S.rf
  generalize hargs : ([.ref q0, .int (nI k), .ref o] : List Value).toArray = args at hts ⊢
  obtain ⟨Q, hQ⟩ : ∃ Q9, Q9 = MQ below (xMQ γ (List.map Prod.fst ([xO q0 2 [.ref q1, .ref q4, .int (nI kc), .int td, .ref q2, .ref q3], xO q1 0 [.ref a1, .int (nI n)], xA γ a1 12 f, xL γ o 1 h])) A (fun r9 w9 => r9 = some (.int 0) ∧ w9 = [xO q0 2 [.ref q1, .ref q4, .int (nI kc), .int td, .ref q2, .ref q3], xO q1 0 [.ref a1, .int (nI n)], xA γ a1 12 f, xL γ o 1 (vp_updL h 0 (Int32.toInt64 (f k)))])) args s 0 0 A := ⟨_, rfl⟩
  rw [← hQ]
  have hown : s.vm.findClass RL = some m.cls := hown
  have hl : lv_has ls 4 [(0, .ref q0), (1, .int (nI k)), (2, .ref o)] := hl
  refine lv_aload_n hx hb dL_numberAt_0 rfl (lv_at hl 2 rfl) ?_
  refine lv_iconst (v := 0) hx hb dL_numberAt_1 (by decide) ?_
  refine lv_aload_n hx hb dL_numberAt_2 rfl (lv_at hl 0 rfl) ?_
  refine lv_iload_n hx hb dL_numberAt_3 rfl (lv_at hl 1 rfl) ?_
  refine xVR (q0 := 0) (ci := 2) (As := [.int (nI k)]) (rest := [.int 0, .ref o]) (stk := [.int (f k), .int 0, .ref o]) ⟨hx, hb, hml, hown, hts⟩ (c_X2_numberAt γ l q0 q1 q2 q3 q4 kc td a1 n f k hn0 hn1 hk) (cwV 1 hts gL_numberAt_X2_numberAt rfl rfl rfl hdv_X2_numberAt ⟨(Nat.le_of_ble_eq_true rfl), (Nat.le_of_ble_eq_true rfl)⟩) hK hP [0, 1, 2] rfl rfl rfl rfl hl.1 rfl (Nat.le_of_ble_eq_true rfl) dL_numberAt_4 ⟨(Nat.le_of_ble_eq_true rfl), (Nat.le_of_ble_eq_true rfl)⟩ rfl ?_
  refine lv_i2l (v := Int32.toInt64 (f k)) hx hb dL_numberAt_7 rfl ?_
  refine x_last (f := h) hx hb hK hP hD hS 3 rfl 0 rfl (by omega) (by omega) dL_numberAt_8 (fun H locs hP hD hS => ?_)
  have hP : xP γ ([xO q0 2 [.ref q1, .ref q4, .int (nI kc), .int td, .ref q2, .ref q3], xO q1 0 [.ref a1, .int (nI n)], xA γ a1 12 f, xL γ o 1 (vp_updL h 0 (Int32.toInt64 (f k)))]) H := hP
  have hD : va_D A ([xO q0 2 [.ref q1, .ref q4, .int (nI kc), .int td, .ref q2, .ref q3], xO q1 0 [.ref a1, .int (nI n)], xA γ a1 12 f, xL γ o 1 (vp_updL h 0 (Int32.toInt64 (f k)))]) := hD
  refine lv_goto (tgt := 15) hx hb dL_numberAt_9 (by decide) ?_
  refine lv_iconst (v := 0) hx hb dL_numberAt_15 (by decide) ?_
  subst hQ
  exact xM_i hx hb hr hlocks dL_numberAt_16 hP rfl hS (Nat.le_of_ble_eq_true rfl) (Nat.le_of_ble_eq_true rfl) (⟨rfl, rfl⟩)

theorem hdv_X2_tilt : yX2_tilt.cls = RX2 ∧ yX2_tilt.cls ≠ "java/lang/invoke/MethodHandle" ∧ yX2_tilt.cls ≠ "java/lang/invoke/VarHandle" ∧ (parseMethodDescriptor yX2_tilt.desc).map (fun d => d.parameters.length) = some 1 := by decide +kernel
set_option maxHeartbeats 4000000 in
set_option maxRecDepth 100000 in
theorem c_L_tilt (γ : xG) (l : Launch) (q0 q1 q2 q3 q4 kc : Nat) (td : Int32) (a1 n : Nat) (f : xRow) (k : Nat) (hn0 : 3 ≤ n) (hn1 : n ≤ 12) (hk : k < n) (o : Nat) (h : Nat → Int64) : xME γ l yL_tilt wsL_tilt ({ frames := 3, cells := 0, slots := 0, locals := 65 } : Room) [.ref q0, .int (nI k), .ref o] (fun _ => True) ([xO q0 2 [.ref q1, .ref q4, .int (nI kc), .int td, .ref q2, .ref q3], xO q1 0 [.ref a1, .int (nI n)], xA γ a1 12 f, xL γ o 1 h]) (fun r9 w9 => r9 = some (.int 0) ∧ w9 = [xO q0 2 [.ref q1, .ref q4, .int (nI kc), .int td, .ref q2, .ref q3], xO q1 0 [.ref a1, .int (nI n)], xA γ a1 12 f, xL γ o 1 (vp_updL h 0 (Int32.toInt64 (xTlt n f k)))]) 0 0 := by
  refine xME.ofH (cc := cL_tilt) (maxL := 4) (ret := (some .int)) (hh := [(0, 9, 12, 19)]) (by decide +kernel) rfl (Nat.le_of_ble_eq_true rfl) ?_
  intro p e s m below meth c hx hb hr hml hts hown hlocks htab hP hK hEx A hA hD ls hl
  have hS : va_S A s.heap s.heap [] := va_S.rf
  generalize hargs : ([.ref q0, .int (nI k), .ref o] : List Value).toArray = args at hts ⊢
  obtain ⟨Q, hQ⟩ : ∃ Q9, Q9 = MQ below (xMQ γ (List.map Prod.fst ([xO q0 2 [.ref q1, .ref q4, .int (nI kc), .int td, .ref q2, .ref q3], xO q1 0 [.ref a1, .int (nI n)], xA γ a1 12 f, xL γ o 1 h])) A (fun r9 w9 => r9 = some (.int 0) ∧ w9 = [xO q0 2 [.ref q1, .ref q4, .int (nI kc), .int td, .ref q2, .ref q3], xO q1 0 [.ref a1, .int (nI n)], xA γ a1 12 f, xL γ o 1 (vp_updL h 0 (Int32.toInt64 (xTlt n f k)))])) args s 0 0 A := ⟨_, rfl⟩
  rw [← hQ]
  have hown : s.vm.findClass RL = some m.cls := hown
  have hl : lv_has ls 4 [(0, .ref q0), (1, .int (nI k)), (2, .ref o)] := hl
  refine lv_aload_n hx hb dL_tilt_0 rfl (lv_at hl 2 rfl) ?_
  refine lv_iconst (v := 0) hx hb dL_tilt_1 (by decide) ?_
  refine lv_aload_n hx hb dL_tilt_2 rfl (lv_at hl 0 rfl) ?_
  refine lv_iload_n hx hb dL_tilt_3 rfl (lv_at hl 1 rfl) ?_
  refine xVR (q0 := 0) (ci := 2) (As := [.int (nI k)]) (rest := [.int 0, .ref o]) (stk := [.int (xTlt n f k), .int 0, .ref o]) ⟨hx, hb, hml, hown, hts⟩ (c_X2_tilt γ l q0 q1 q2 q3 q4 kc td a1 n f k hn0 hn1 hk) (cwV 1 hts gL_tilt_X2_tilt rfl rfl rfl hdv_X2_tilt ⟨(Nat.le_of_ble_eq_true rfl), (Nat.le_of_ble_eq_true rfl)⟩) hK hP [0, 1, 2] rfl rfl rfl rfl hl.1 rfl (Nat.le_of_ble_eq_true rfl) dL_tilt_4 ⟨(Nat.le_of_ble_eq_true rfl), (Nat.le_of_ble_eq_true rfl)⟩ rfl ?_
  refine lv_i2l (v := Int32.toInt64 (xTlt n f k)) hx hb dL_tilt_7 rfl ?_
  refine x_last (f := h) hx hb hK hP hD hS 3 rfl 0 rfl (by omega) (by omega) dL_tilt_8 (fun H locs hP hD hS => ?_)
  have hP : xP γ ([xO q0 2 [.ref q1, .ref q4, .int (nI kc), .int td, .ref q2, .ref q3], xO q1 0 [.ref a1, .int (nI n)], xA γ a1 12 f, xL γ o 1 (vp_updL h 0 (Int32.toInt64 (xTlt n f k)))]) H := hP
  have hD : va_D A ([xO q0 2 [.ref q1, .ref q4, .int (nI kc), .int td, .ref q2, .ref q3], xO q1 0 [.ref a1, .int (nI n)], xA γ a1 12 f, xL γ o 1 (vp_updL h 0 (Int32.toInt64 (xTlt n f k)))]) := hD
  refine lv_goto (tgt := 15) hx hb dL_tilt_9 (by decide) ?_
  refine lv_iconst (v := 0) hx hb dL_tilt_15 (by decide) ?_
  subst hQ
  exact xM_i hx hb hr hlocks dL_tilt_16 hP rfl hS (Nat.le_of_ble_eq_true rfl) (Nat.le_of_ble_eq_true rfl) (⟨rfl, rfl⟩)

theorem hdv_X2_numberIn : yX2_numberIn.cls = RX2 ∧ yX2_numberIn.cls ≠ "java/lang/invoke/MethodHandle" ∧ yX2_numberIn.cls ≠ "java/lang/invoke/VarHandle" ∧ (parseMethodDescriptor yX2_numberIn.desc).map (fun d => d.parameters.length) = some 2 := by decide +kernel
set_option maxHeartbeats 4000000 in
set_option maxRecDepth 100000 in
theorem c_L_numberIn (γ : xG) (l : Launch) (q0 q1 q2 q3 q4 kc : Nat) (td : Int32) (a1 n : Nat) (f : xRow) (kq ka : Nat → Nat) (kn : Nat → Int32) (ks : Nat → xRow) (k i9 : Nat) (hn0 : 3 ≤ n) (hn1 : n ≤ 12) (hk : k < kc) (hkc : kc ≤ 6) (hi : i9 < n) (o : Nat) (h : Nat → Int64) : xME γ l yL_numberIn wsL_numberIn ({ frames := 3, cells := 0, slots := 0, locals := 64 } : Room) [.ref q0, .int (nI k), .int (nI i9), .ref o] (fun _ => True) ([xO (kq k) 0 [.ref (ka k), .int (nI n)], xA γ (ka k) 12 (ks k), xO q0 2 [.ref q1, .ref q4, .int (nI kc), .int td, .ref q2, .ref q3], xO q1 0 [.ref a1, .int (nI n)], xA γ a1 12 f, xQ γ q4 6 (fun t9 => some (kq t9)), xL γ o 1 h]) (fun r9 w9 => r9 = some (.int 0) ∧ w9 = [xO (kq k) 0 [.ref (ka k), .int (nI n)], xA γ (ka k) 12 (ks k), xO q0 2 [.ref q1, .ref q4, .int (nI kc), .int td, .ref q2, .ref q3], xO q1 0 [.ref a1, .int (nI n)], xA γ a1 12 f, xQ γ q4 6 (fun t9 => some (kq t9)), xL γ o 1 (vp_updL h 0 (Int32.toInt64 (ks k i9)))]) 0 0 := by
  refine xME.ofH (cc := cL_numberIn) (maxL := 5) (ret := (some .int)) (hh := [(0, 10, 13, 19)]) (by decide +kernel) rfl (Nat.le_of_ble_eq_true rfl) ?_
  intro p e s m below meth c hx hb hr hml hts hown hlocks htab hP hK hEx A hA hD ls hl
  have hS : va_S A s.heap s.heap [] := va_S.rf
  generalize hargs : ([.ref q0, .int (nI k), .int (nI i9), .ref o] : List Value).toArray = args at hts ⊢
  obtain ⟨Q, hQ⟩ : ∃ Q9, Q9 = MQ below (xMQ γ (List.map Prod.fst ([xO (kq k) 0 [.ref (ka k), .int (nI n)], xA γ (ka k) 12 (ks k), xO q0 2 [.ref q1, .ref q4, .int (nI kc), .int td, .ref q2, .ref q3], xO q1 0 [.ref a1, .int (nI n)], xA γ a1 12 f, xQ γ q4 6 (fun t9 => some (kq t9)), xL γ o 1 h])) A (fun r9 w9 => r9 = some (.int 0) ∧ w9 = [xO (kq k) 0 [.ref (ka k), .int (nI n)], xA γ (ka k) 12 (ks k), xO q0 2 [.ref q1, .ref q4, .int (nI kc), .int td, .ref q2, .ref q3], xO q1 0 [.ref a1, .int (nI n)], xA γ a1 12 f, xQ γ q4 6 (fun t9 => some (kq t9)), xL γ o 1 (vp_updL h 0 (Int32.toInt64 (ks k i9)))])) args s 0 0 A := ⟨_, rfl⟩
  rw [← hQ]
  have hown : s.vm.findClass RL = some m.cls := hown
  have hl : lv_has ls 5 [(0, .ref q0), (1, .int (nI k)), (2, .int (nI i9)), (3, .ref o)] := hl
  refine lv_aload_n hx hb dL_numberIn_0 rfl (lv_at hl 3 rfl) ?_
  refine lv_iconst (v := 0) hx hb dL_numberIn_1 (by decide) ?_
  refine lv_aload_n hx hb dL_numberIn_2 rfl (lv_at hl 0 rfl) ?_
  refine lv_iload_n hx hb dL_numberIn_3 rfl (lv_at hl 1 rfl) ?_
  refine lv_iload_n hx hb dL_numberIn_4 rfl (lv_at hl 2 rfl) ?_
  refine xVR (q0 := 2) (ci := 2) (As := [.int (nI k), .int (nI i9)]) (rest := [.int 0, .ref o]) (stk := [.int (ks k i9), .int 0, .ref o]) ⟨hx, hb, hml, hown, hts⟩ (c_X2_numberIn γ l q0 q1 q2 q3 q4 kc td a1 n f kq ka kn ks k i9 hn0 hn1 hk hkc hi) (cwV 2 hts gL_numberIn_X2_numberIn rfl rfl rfl hdv_X2_numberIn ⟨(Nat.le_of_ble_eq_true rfl), (Nat.le_of_ble_eq_true rfl)⟩) hK hP [2, 3, 4, 5, 0, 1] rfl rfl rfl rfl hl.1 rfl (Nat.le_of_ble_eq_true rfl) dL_numberIn_5 ⟨(Nat.le_of_ble_eq_true rfl), (Nat.le_of_ble_eq_true rfl)⟩ rfl ?_
  refine lv_i2l (v := Int32.toInt64 (ks k i9)) hx hb dL_numberIn_8 rfl ?_
  refine x_last (f := h) hx hb hK hP hD hS 6 rfl 0 rfl (by omega) (by omega) dL_numberIn_9 (fun H locs hP hD hS => ?_)
  have hP : xP γ ([xO (kq k) 0 [.ref (ka k), .int (nI n)], xA γ (ka k) 12 (ks k), xO q0 2 [.ref q1, .ref q4, .int (nI kc), .int td, .ref q2, .ref q3], xO q1 0 [.ref a1, .int (nI n)], xA γ a1 12 f, xQ γ q4 6 (fun t9 => some (kq t9)), xL γ o 1 (vp_updL h 0 (Int32.toInt64 (ks k i9)))]) H := hP
  have hD : va_D A ([xO (kq k) 0 [.ref (ka k), .int (nI n)], xA γ (ka k) 12 (ks k), xO q0 2 [.ref q1, .ref q4, .int (nI kc), .int td, .ref q2, .ref q3], xO q1 0 [.ref a1, .int (nI n)], xA γ a1 12 f, xQ γ q4 6 (fun t9 => some (kq t9)), xL γ o 1 (vp_updL h 0 (Int32.toInt64 (ks k i9)))]) := hD
  refine lv_goto (tgt := 17) hx hb dL_numberIn_10 (by decide) ?_
  refine lv_iconst (v := 0) hx hb dL_numberIn_17 (by decide) ?_
  subst hQ
  exact xM_i hx hb hr hlocks dL_numberIn_18 hP rfl hS (Nat.le_of_ble_eq_true rfl) (Nat.le_of_ble_eq_true rfl) (⟨rfl, rfl⟩)

theorem hdv_X2_differences : yX2_differences.cls = RX2 ∧ yX2_differences.cls ≠ "java/lang/invoke/MethodHandle" ∧ yX2_differences.cls ≠ "java/lang/invoke/VarHandle" ∧ (parseMethodDescriptor yX2_differences.desc).map (fun d => d.parameters.length) = some 1 := by decide +kernel
set_option maxHeartbeats 4000000 in
set_option maxRecDepth 100000 in
theorem c_L_differences (γ : xG) (l : Launch) (q0 q1 q2 q3 q4 kc : Nat) (td : Int32) (a1 n : Nat) (f : xRow) (kq ka : Nat → Nat) (kn : Nat → Int32) (ks : Nat → xRow) (k : Nat) (hn0 : 3 ≤ n) (hn1 : n ≤ 12) (hk : k < kc) (hkc : kc ≤ 6) (o : Nat) (h : Nat → Int64) : xME γ l yL_differences wsL_differences ({ frames := 3, cells := 0, slots := 0, locals := 65 } : Room) [.ref q0, .int (nI k), .ref o] (fun _ => True) ([xO (kq k) 0 [.ref (ka k), .int (nI n)], xA γ (ka k) 12 (ks k), xO q0 2 [.ref q1, .ref q4, .int (nI kc), .int td, .ref q2, .ref q3], xO q1 0 [.ref a1, .int (nI n)], xA γ a1 12 f, xQ γ q4 6 (fun t9 => some (kq t9)), xL γ o 1 h]) (fun r9 w9 => r9 = some (.int 0) ∧ w9 = [xO (kq k) 0 [.ref (ka k), .int (nI n)], xA γ (ka k) 12 (ks k), xO q0 2 [.ref q1, .ref q4, .int (nI kc), .int td, .ref q2, .ref q3], xO q1 0 [.ref a1, .int (nI n)], xA γ a1 12 f, xQ γ q4 6 (fun t9 => some (kq t9)), xL γ o 1 (vp_updL h 0 (Int32.toInt64 (nI (xCnt (xNe f (ks k)) n))))]) 0 0 := by
  refine xME.ofH (cc := cL_differences) (maxL := 4) (ret := (some .int)) (hh := [(0, 9, 12, 19)]) (by decide +kernel) rfl (Nat.le_of_ble_eq_true rfl) ?_
  intro p e s m below meth c hx hb hr hml hts hown hlocks htab hP hK hEx A hA hD ls hl
  have hS : va_S A s.heap s.heap [] := va_S.rf
  generalize hargs : ([.ref q0, .int (nI k), .ref o] : List Value).toArray = args at hts ⊢
  obtain ⟨Q, hQ⟩ : ∃ Q9, Q9 = MQ below (xMQ γ (List.map Prod.fst ([xO (kq k) 0 [.ref (ka k), .int (nI n)], xA γ (ka k) 12 (ks k), xO q0 2 [.ref q1, .ref q4, .int (nI kc), .int td, .ref q2, .ref q3], xO q1 0 [.ref a1, .int (nI n)], xA γ a1 12 f, xQ γ q4 6 (fun t9 => some (kq t9)), xL γ o 1 h])) A (fun r9 w9 => r9 = some (.int 0) ∧ w9 = [xO (kq k) 0 [.ref (ka k), .int (nI n)], xA γ (ka k) 12 (ks k), xO q0 2 [.ref q1, .ref q4, .int (nI kc), .int td, .ref q2, .ref q3], xO q1 0 [.ref a1, .int (nI n)], xA γ a1 12 f, xQ γ q4 6 (fun t9 => some (kq t9)), xL γ o 1 (vp_updL h 0 (Int32.toInt64 (nI (xCnt (xNe f (ks k)) n))))])) args s 0 0 A := ⟨_, rfl⟩
  rw [← hQ]
  have hown : s.vm.findClass RL = some m.cls := hown
  have hl : lv_has ls 4 [(0, .ref q0), (1, .int (nI k)), (2, .ref o)] := hl
  refine lv_aload_n hx hb dL_differences_0 rfl (lv_at hl 2 rfl) ?_
  refine lv_iconst (v := 0) hx hb dL_differences_1 (by decide) ?_
  refine lv_aload_n hx hb dL_differences_2 rfl (lv_at hl 0 rfl) ?_
  refine lv_iload_n hx hb dL_differences_3 rfl (lv_at hl 1 rfl) ?_
  refine xVR (q0 := 2) (ci := 2) (As := [.int (nI k)]) (rest := [.int 0, .ref o]) (stk := [.int (nI (xCnt (xNe f (ks k)) n)), .int 0, .ref o]) ⟨hx, hb, hml, hown, hts⟩ (c_X2_differences γ l q0 q1 q2 q3 q4 kc td a1 n f kq ka kn ks k hn0 hn1 hk hkc) (cwV 1 hts gL_differences_X2_differences rfl rfl rfl hdv_X2_differences ⟨(Nat.le_of_ble_eq_true rfl), (Nat.le_of_ble_eq_true rfl)⟩) hK hP [2, 3, 4, 5, 0, 1] rfl rfl rfl rfl hl.1 rfl (Nat.le_of_ble_eq_true rfl) dL_differences_4 ⟨(Nat.le_of_ble_eq_true rfl), (Nat.le_of_ble_eq_true rfl)⟩ rfl ?_
  refine lv_i2l (v := Int32.toInt64 (nI (xCnt (xNe f (ks k)) n))) hx hb dL_differences_7 rfl ?_
  refine x_last (f := h) hx hb hK hP hD hS 6 rfl 0 rfl (by omega) (by omega) dL_differences_8 (fun H locs hP hD hS => ?_)
  have hP : xP γ ([xO (kq k) 0 [.ref (ka k), .int (nI n)], xA γ (ka k) 12 (ks k), xO q0 2 [.ref q1, .ref q4, .int (nI kc), .int td, .ref q2, .ref q3], xO q1 0 [.ref a1, .int (nI n)], xA γ a1 12 f, xQ γ q4 6 (fun t9 => some (kq t9)), xL γ o 1 (vp_updL h 0 (Int32.toInt64 (nI (xCnt (xNe f (ks k)) n))))]) H := hP
  have hD : va_D A ([xO (kq k) 0 [.ref (ka k), .int (nI n)], xA γ (ka k) 12 (ks k), xO q0 2 [.ref q1, .ref q4, .int (nI kc), .int td, .ref q2, .ref q3], xO q1 0 [.ref a1, .int (nI n)], xA γ a1 12 f, xQ γ q4 6 (fun t9 => some (kq t9)), xL γ o 1 (vp_updL h 0 (Int32.toInt64 (nI (xCnt (xNe f (ks k)) n))))]) := hD
  refine lv_goto (tgt := 15) hx hb dL_differences_9 (by decide) ?_
  refine lv_iconst (v := 0) hx hb dL_differences_15 (by decide) ?_
  subst hQ
  exact xM_i hx hb hr hlocks dL_differences_16 hP rfl hS (Nat.le_of_ble_eq_true rfl) (Nat.le_of_ble_eq_true rfl) (⟨rfl, rfl⟩)

theorem hdv_X2_isSteep : yX2_isSteep.cls = RX2 ∧ yX2_isSteep.cls ≠ "java/lang/invoke/MethodHandle" ∧ yX2_isSteep.cls ≠ "java/lang/invoke/VarHandle" ∧ (parseMethodDescriptor yX2_isSteep.desc).map (fun d => d.parameters.length) = some 1 := by decide +kernel
set_option maxHeartbeats 4000000 in
set_option maxRecDepth 100000 in
theorem c_L_isSteep (γ : xG) (l : Launch) (q0 q1 q2 q3 q4 kc : Nat) (td : Int32) (a1 n : Nat) (f : xRow) (k : Nat) (hn0 : 3 ≤ n) (hn1 : n ≤ 12) (hk : k < n) (o : Nat) (h : Nat → Int64) : xME γ l yL_isSteep wsL_isSteep ({ frames := 3, cells := 0, slots := 0, locals := 63 } : Room) [.ref q0, .int (nI k), .ref o] (fun _ => True) ([xO q0 2 [.ref q1, .ref q4, .int (nI kc), .int td, .ref q2, .ref q3], xO q1 0 [.ref a1, .int (nI n)], xA γ a1 12 f, xL γ o 1 h]) (fun r9 w9 => r9 = some (.int 0) ∧ w9 = [xO q0 2 [.ref q1, .ref q4, .int (nI kc), .int td, .ref q2, .ref q3], xO q1 0 [.ref a1, .int (nI n)], xA γ a1 12 f, xL γ o 1 (vp_updL h 0 (xBL (xSt n f k)))]) 0 0 := by
  refine xME.ofH (cc := cL_isSteep) (maxL := 4) (ret := (some .int)) (hh := [(0, 16, 19, 19)]) (by decide +kernel) rfl (Nat.le_of_ble_eq_true rfl) ?_
  intro p e s m below meth c hx hb hr hml hts hown hlocks htab hP hK hEx A hA hD ls hl
  have hS : va_S A s.heap s.heap [] := va_S.rf
  generalize hargs : ([.ref q0, .int (nI k), .ref o] : List Value).toArray = args at hts ⊢
  obtain ⟨Q, hQ⟩ : ∃ Q9, Q9 = MQ below (xMQ γ (List.map Prod.fst ([xO q0 2 [.ref q1, .ref q4, .int (nI kc), .int td, .ref q2, .ref q3], xO q1 0 [.ref a1, .int (nI n)], xA γ a1 12 f, xL γ o 1 h])) A (fun r9 w9 => r9 = some (.int 0) ∧ w9 = [xO q0 2 [.ref q1, .ref q4, .int (nI kc), .int td, .ref q2, .ref q3], xO q1 0 [.ref a1, .int (nI n)], xA γ a1 12 f, xL γ o 1 (vp_updL h 0 (xBL (xSt n f k)))])) args s 0 0 A := ⟨_, rfl⟩
  rw [← hQ]
  have hown : s.vm.findClass RL = some m.cls := hown
  have hl : lv_has ls 4 [(0, .ref q0), (1, .int (nI k)), (2, .ref o)] := hl
  refine lv_aload_n hx hb dL_isSteep_0 rfl (lv_at hl 2 rfl) ?_
  refine lv_iconst (v := 0) hx hb dL_isSteep_1 (by decide) ?_
  refine lv_aload_n hx hb dL_isSteep_2 rfl (lv_at hl 0 rfl) ?_
  refine lv_iload_n hx hb dL_isSteep_3 rfl (lv_at hl 1 rfl) ?_
  refine xVR (q0 := 0) (ci := 2) (As := [.int (nI k)]) (rest := [.int 0, .ref o]) (stk := [.int (if xSt n f k = true then 1 else 0), .int 0, .ref o]) ⟨hx, hb, hml, hown, hts⟩ (c_X2_isSteep γ l q0 q1 q2 q3 q4 kc td a1 n f k hn0 hn1 hk) (cwV 1 hts gL_isSteep_X2_isSteep rfl rfl rfl hdv_X2_isSteep ⟨(Nat.le_of_ble_eq_true rfl), (Nat.le_of_ble_eq_true rfl)⟩) hK hP [0, 1, 2] rfl rfl rfl rfl hl.1 rfl (Nat.le_of_ble_eq_true rfl) dL_isSteep_4 ⟨(Nat.le_of_ble_eq_true rfl), (Nat.le_of_ble_eq_true rfl)⟩ rfl ?_
  refine lv_if_eq (tgt := 14) hx hb dL_isSteep_7 (by decide) (fun c7 => ?_) (fun c7 => ?_)
  · refine lv_lconst (v := 0) hx hb dL_isSteep_14 (by decide) ?_
    refine x_topl (y := xBL (xSt n f k)) (by rw [xBL_f (xB_f c7)]) ?_
    refine x_last (f := h) hx hb hK hP hD hS 3 rfl 0 rfl (by omega) (by omega) dL_isSteep_15 (fun H locs hP hD hS => ?_)
    have hP : xP γ ([xO q0 2 [.ref q1, .ref q4, .int (nI kc), .int td, .ref q2, .ref q3], xO q1 0 [.ref a1, .int (nI n)], xA γ a1 12 f, xL γ o 1 (vp_updL h 0 (xBL (xSt n f k)))]) H := hP
    have hD : va_D A ([xO q0 2 [.ref q1, .ref q4, .int (nI kc), .int td, .ref q2, .ref q3], xO q1 0 [.ref a1, .int (nI n)], xA γ a1 12 f, xL γ o 1 (vp_updL h 0 (xBL (xSt n f k)))]) := hD
    refine lv_goto (tgt := 22) hx hb dL_isSteep_16 (by decide) ?_
    refine lv_iconst (v := 0) hx hb dL_isSteep_22 (by decide) ?_
    subst hQ
    exact xM_i hx hb hr hlocks dL_isSteep_23 hP rfl hS (Nat.le_of_ble_eq_true rfl) (Nat.le_of_ble_eq_true rfl) (⟨rfl, rfl⟩)
  · refine lv_lconst (v := 1) hx hb dL_isSteep_10 (by decide) ?_
    refine x_topl (y := xBL (xSt n f k)) (by rw [xBL_t (xB_t c7)]) ?_
    refine lv_goto (tgt := 15) hx hb dL_isSteep_11 (by decide) ?_
    refine x_last (f := h) hx hb hK hP hD hS 3 rfl 0 rfl (by omega) (by omega) dL_isSteep_15 (fun H locs hP hD hS => ?_)
    have hP : xP γ ([xO q0 2 [.ref q1, .ref q4, .int (nI kc), .int td, .ref q2, .ref q3], xO q1 0 [.ref a1, .int (nI n)], xA γ a1 12 f, xL γ o 1 (vp_updL h 0 (xBL (xSt n f k)))]) H := hP
    have hD : va_D A ([xO q0 2 [.ref q1, .ref q4, .int (nI kc), .int td, .ref q2, .ref q3], xO q1 0 [.ref a1, .int (nI n)], xA γ a1 12 f, xL γ o 1 (vp_updL h 0 (xBL (xSt n f k)))]) := hD
    refine lv_goto (tgt := 22) hx hb dL_isSteep_16 (by decide) ?_
    refine lv_iconst (v := 0) hx hb dL_isSteep_22 (by decide) ?_
    subst hQ
    exact xM_i hx hb hr hlocks dL_isSteep_23 hP rfl hS (Nat.le_of_ble_eq_true rfl) (Nat.le_of_ble_eq_true rfl) (⟨rfl, rfl⟩)

theorem hdv_X2_canReach : yX2_canReach.cls = RX2 ∧ yX2_canReach.cls ≠ "java/lang/invoke/MethodHandle" ∧ yX2_canReach.cls ≠ "java/lang/invoke/VarHandle" ∧ (parseMethodDescriptor yX2_canReach.desc).map (fun d => d.parameters.length) = some 1 := by decide +kernel
set_option maxHeartbeats 4000000 in
set_option maxRecDepth 100000 in
theorem c_L_canReach (γ : xG) (l : Launch) (q0 q1 q2 q3 q4 kc : Nat) (td : Int32) (a1 n : Nat) (f : xRow) (kq ka : Nat → Nat) (kn : Nat → Int32) (ks : Nat → xRow) (k : Nat) (hn0 : 3 ≤ n) (hn1 : n ≤ 12) (hk : k < kc) (hkc : kc ≤ 6) (o : Nat) (h : Nat → Int64) : xME γ l yL_canReach wsL_canReach ({ frames := 4, cells := 0, slots := 0, locals := 86 } : Room) [.ref q0, .int (nI k), .ref o] (fun _ => True) ([xO (kq k) 0 [.ref (ka k), .int (nI n)], xA γ (ka k) 12 (ks k), xO q0 2 [.ref q1, .ref q4, .int (nI kc), .int td, .ref q2, .ref q3], xO q1 0 [.ref a1, .int (nI n)], xA γ a1 12 f, xQ γ q4 6 (fun t9 => some (kq t9)), xL γ o 1 h]) (fun r9 w9 => r9 = some (.int 0) ∧ w9 = [xO (kq k) 0 [.ref (ka k), .int (nI n)], xA γ (ka k) 12 (ks k), xO q0 2 [.ref q1, .ref q4, .int (nI kc), .int td, .ref q2, .ref q3], xO q1 0 [.ref a1, .int (nI n)], xA γ a1 12 f, xQ γ q4 6 (fun t9 => some (kq t9)), xL γ o 1 (vp_updL h 0 (xBL (xCB n f (ks k))))]) 0 0 := by
  refine xME.ofH (cc := cL_canReach) (maxL := 4) (ret := (some .int)) (hh := [(0, 16, 19, 19)]) (by decide +kernel) rfl (Nat.le_of_ble_eq_true rfl) ?_
  intro p e s m below meth c hx hb hr hml hts hown hlocks htab hP hK hEx A hA hD ls hl
  have hS : va_S A s.heap s.heap [] := va_S.rf
  generalize hargs : ([.ref q0, .int (nI k), .ref o] : List Value).toArray = args at hts ⊢
  obtain ⟨Q, hQ⟩ : ∃ Q9, Q9 = MQ below (xMQ γ (List.map Prod.fst ([xO (kq k) 0 [.ref (ka k), .int (nI n)], xA γ (ka k) 12 (ks k), xO q0 2 [.ref q1, .ref q4, .int (nI kc), .int td, .ref q2, .ref q3], xO q1 0 [.ref a1, .int (nI n)], xA γ a1 12 f, xQ γ q4 6 (fun t9 => some (kq t9)), xL γ o 1 h])) A (fun r9 w9 => r9 = some (.int 0) ∧ w9 = [xO (kq k) 0 [.ref (ka k), .int (nI n)], xA γ (ka k) 12 (ks k), xO q0 2 [.ref q1, .ref q4, .int (nI kc), .int td, .ref q2, .ref q3], xO q1 0 [.ref a1, .int (nI n)], xA γ a1 12 f, xQ γ q4 6 (fun t9 => some (kq t9)), xL γ o 1 (vp_updL h 0 (xBL (xCB n f (ks k))))])) args s 0 0 A := ⟨_, rfl⟩
  rw [← hQ]
  have hown : s.vm.findClass RL = some m.cls := hown
  have hl : lv_has ls 4 [(0, .ref q0), (1, .int (nI k)), (2, .ref o)] := hl
  refine lv_aload_n hx hb dL_canReach_0 rfl (lv_at hl 2 rfl) ?_
  refine lv_iconst (v := 0) hx hb dL_canReach_1 (by decide) ?_
  refine lv_aload_n hx hb dL_canReach_2 rfl (lv_at hl 0 rfl) ?_
  refine lv_iload_n hx hb dL_canReach_3 rfl (lv_at hl 1 rfl) ?_
  refine xVR (q0 := 2) (ci := 2) (As := [.int (nI k)]) (rest := [.int 0, .ref o]) (stk := [.int (if xCB n f (ks k) = true then 1 else 0), .int 0, .ref o]) ⟨hx, hb, hml, hown, hts⟩ (c_X2_canReach γ l q0 q1 q2 q3 q4 kc td a1 n f kq ka kn ks k hn0 hn1 hk hkc) (cwV 1 hts gL_canReach_X2_canReach rfl rfl rfl hdv_X2_canReach ⟨(Nat.le_of_ble_eq_true rfl), (Nat.le_of_ble_eq_true rfl)⟩) hK hP [2, 3, 4, 5, 0, 1] rfl rfl rfl rfl hl.1 rfl (Nat.le_of_ble_eq_true rfl) dL_canReach_4 ⟨(Nat.le_of_ble_eq_true rfl), (Nat.le_of_ble_eq_true rfl)⟩ rfl ?_
  refine lv_if_eq (tgt := 14) hx hb dL_canReach_7 (by decide) (fun c7 => ?_) (fun c7 => ?_)
  · refine lv_lconst (v := 0) hx hb dL_canReach_14 (by decide) ?_
    refine x_topl (y := xBL (xCB n f (ks k))) (by rw [xBL_f (xB_f c7)]) ?_
    refine x_last (f := h) hx hb hK hP hD hS 6 rfl 0 rfl (by omega) (by omega) dL_canReach_15 (fun H locs hP hD hS => ?_)
    have hP : xP γ ([xO (kq k) 0 [.ref (ka k), .int (nI n)], xA γ (ka k) 12 (ks k), xO q0 2 [.ref q1, .ref q4, .int (nI kc), .int td, .ref q2, .ref q3], xO q1 0 [.ref a1, .int (nI n)], xA γ a1 12 f, xQ γ q4 6 (fun t9 => some (kq t9)), xL γ o 1 (vp_updL h 0 (xBL (xCB n f (ks k))))]) H := hP
    have hD : va_D A ([xO (kq k) 0 [.ref (ka k), .int (nI n)], xA γ (ka k) 12 (ks k), xO q0 2 [.ref q1, .ref q4, .int (nI kc), .int td, .ref q2, .ref q3], xO q1 0 [.ref a1, .int (nI n)], xA γ a1 12 f, xQ γ q4 6 (fun t9 => some (kq t9)), xL γ o 1 (vp_updL h 0 (xBL (xCB n f (ks k))))]) := hD
    refine lv_goto (tgt := 22) hx hb dL_canReach_16 (by decide) ?_
    refine lv_iconst (v := 0) hx hb dL_canReach_22 (by decide) ?_
    subst hQ
    exact xM_i hx hb hr hlocks dL_canReach_23 hP rfl hS (Nat.le_of_ble_eq_true rfl) (Nat.le_of_ble_eq_true rfl) (⟨rfl, rfl⟩)
  · refine lv_lconst (v := 1) hx hb dL_canReach_10 (by decide) ?_
    refine x_topl (y := xBL (xCB n f (ks k))) (by rw [xBL_t (xB_t c7)]) ?_
    refine lv_goto (tgt := 15) hx hb dL_canReach_11 (by decide) ?_
    refine x_last (f := h) hx hb hK hP hD hS 6 rfl 0 rfl (by omega) (by omega) dL_canReach_15 (fun H locs hP hD hS => ?_)
    have hP : xP γ ([xO (kq k) 0 [.ref (ka k), .int (nI n)], xA γ (ka k) 12 (ks k), xO q0 2 [.ref q1, .ref q4, .int (nI kc), .int td, .ref q2, .ref q3], xO q1 0 [.ref a1, .int (nI n)], xA γ a1 12 f, xQ γ q4 6 (fun t9 => some (kq t9)), xL γ o 1 (vp_updL h 0 (xBL (xCB n f (ks k))))]) H := hP
    have hD : va_D A ([xO (kq k) 0 [.ref (ka k), .int (nI n)], xA γ (ka k) 12 (ks k), xO q0 2 [.ref q1, .ref q4, .int (nI kc), .int td, .ref q2, .ref q3], xO q1 0 [.ref a1, .int (nI n)], xA γ a1 12 f, xQ γ q4 6 (fun t9 => some (kq t9)), xL γ o 1 (vp_updL h 0 (xBL (xCB n f (ks k))))]) := hD
    refine lv_goto (tgt := 22) hx hb dL_canReach_16 (by decide) ?_
    refine lv_iconst (v := 0) hx hb dL_canReach_22 (by decide) ?_
    subst hQ
    exact xM_i hx hb hr hlocks dL_canReach_23 hP rfl hS (Nat.le_of_ble_eq_true rfl) (Nat.le_of_ble_eq_true rfl) (⟨rfl, rfl⟩)

theorem hdv_X2_spreadWith : yX2_spreadWith.cls = RX2 ∧ yX2_spreadWith.cls ≠ "java/lang/invoke/MethodHandle" ∧ yX2_spreadWith.cls ≠ "java/lang/invoke/VarHandle" ∧ (parseMethodDescriptor yX2_spreadWith.desc).map (fun d => d.parameters.length) = some 2 := by decide +kernel
set_option maxHeartbeats 4000000 in
set_option maxRecDepth 100000 in
theorem c_L_spreadWith (γ : xG) (l : Launch) (q0 q1 q2 q3 q4 kc : Nat) (td : Int32) (a1 n : Nat) (f : xRow) (a2 : Nat) (tn : Int32) (tf : xRow) (k : Nat) (x : Int32) (hn0 : 3 ≤ n) (hn1 : n ≤ 12) (hk : k < n) (h1 : ¬ x < (-50)) (h2 : x ≤ 50) (o : Nat) (h : Nat → Int64) : xME γ l yL_spreadWith wsL_spreadWith ({ frames := 5, cells := 0, slots := 0, locals := 110 } : Room) [.ref q0, .int (nI k), .int x, .ref o] (fun _ => True) ([xO q0 2 [.ref q1, .ref q4, .int (nI kc), .int td, .ref q2, .ref q3], xO q1 0 [.ref a1, .int (nI n)], xA γ a1 12 f, xO q2 0 [.ref a2, .int tn], xA γ a2 12 tf, xL γ o 1 h]) (fun r9 w9 => r9 = some (.int 0) ∧ ∃ (z9 : Int32) (h9 : xRow), w9 = [xO q0 2 [.ref q1, .ref q4, .int (nI kc), .int td, .ref q2, .ref q3], xO q1 0 [.ref a1, .int (nI n)], xA γ a1 12 f, xO q2 0 [.ref a2, .int z9], xA γ a2 12 h9, xL γ o 1 (vp_updL h 0 (Int32.toInt64 (xSpn n (xTip n f k x))))]) 0 0 := by
  refine xME.ofH (cc := cL_spreadWith) (maxL := 5) (ret := (some .int)) (hh := [(0, 10, 13, 19), (0, 10, 17, 13)]) (by decide +kernel) rfl (Nat.le_of_ble_eq_true rfl) ?_
  intro p e s m below meth c hx hb hr hml hts hown hlocks htab hP hK hEx A hA hD ls hl
  have hS : va_S A s.heap s.heap [] := va_S.rf
  generalize hargs : ([.ref q0, .int (nI k), .int x, .ref o] : List Value).toArray = args at hts ⊢
  obtain ⟨Q, hQ⟩ : ∃ Q9, Q9 = MQ below (xMQ γ (List.map Prod.fst ([xO q0 2 [.ref q1, .ref q4, .int (nI kc), .int td, .ref q2, .ref q3], xO q1 0 [.ref a1, .int (nI n)], xA γ a1 12 f, xO q2 0 [.ref a2, .int tn], xA γ a2 12 tf, xL γ o 1 h])) A (fun r9 w9 => r9 = some (.int 0) ∧ ∃ (z9 : Int32) (h9 : xRow), w9 = [xO q0 2 [.ref q1, .ref q4, .int (nI kc), .int td, .ref q2, .ref q3], xO q1 0 [.ref a1, .int (nI n)], xA γ a1 12 f, xO q2 0 [.ref a2, .int z9], xA γ a2 12 h9, xL γ o 1 (vp_updL h 0 (Int32.toInt64 (xSpn n (xTip n f k x))))])) args s 0 0 A := ⟨_, rfl⟩
  rw [← hQ]
  have hown : s.vm.findClass RL = some m.cls := hown
  have hl : lv_has ls 5 [(0, .ref q0), (1, .int (nI k)), (2, .int x), (3, .ref o)] := hl
  refine lv_aload_n hx hb dL_spreadWith_0 rfl (lv_at hl 3 rfl) ?_
  refine lv_iconst (v := 0) hx hb dL_spreadWith_1 (by decide) ?_
  refine lv_aload_n hx hb dL_spreadWith_2 rfl (lv_at hl 0 rfl) ?_
  refine lv_iload_n hx hb dL_spreadWith_3 rfl (lv_at hl 1 rfl) ?_
  refine lv_iload_n hx hb dL_spreadWith_4 rfl (lv_at hl 2 rfl) ?_
  refine xVM (q0 := 0) (ci := 2) (As := [.int (nI k), .int x]) (rest := [.int 0, .ref o]) ⟨hx, hb, hml, hown, hts⟩ (c_X2_spreadWith γ l q0 q1 q2 q3 q4 kc td a1 n f a2 tn tf k x hn0 hn1 hk h1 h2) (cwV 2 hts gL_spreadWith_X2_spreadWith rfl rfl rfl hdv_X2_spreadWith ⟨(Nat.le_of_ble_eq_true rfl), (Nat.le_of_ble_eq_true rfl)⟩) hK hP hD hS hA [0, 1, 2, 3, 4] rfl rfl rfl rfl rfl hl.1 rfl (Nat.le_of_ble_eq_true rfl) dL_spreadWith_5 ⟨(Nat.le_of_ble_eq_true rfl), (Nat.le_of_ble_eq_true rfl)⟩ (fun r9 w9 H locs hw hP hD hS => ?_)
  obtain ⟨rfl, tn155x, tf156x, rfl⟩ := hw
  have hP : xP γ ([xO q0 2 [.ref q1, .ref q4, .int (nI kc), .int td, .ref q2, .ref q3], xO q1 0 [.ref a1, .int (nI n)], xA γ a1 12 f, xO q2 0 [.ref a2, .int tn155x], xA γ a2 12 tf156x, xL γ o 1 h]) H := hP
  have hD : va_D A ([xO q0 2 [.ref q1, .ref q4, .int (nI kc), .int td, .ref q2, .ref q3], xO q1 0 [.ref a1, .int (nI n)], xA γ a1 12 f, xO q2 0 [.ref a2, .int tn155x], xA γ a2 12 tf156x, xL γ o 1 h]) := hD
  refine W.eq (g2 := F0 m 8 ls [.int (xSpn n (xTip n f k x)), .int 0, .ref o]) rfl ?_
  refine lv_i2l (v := Int32.toInt64 (xSpn n (xTip n f k x))) hx hb dL_spreadWith_8 rfl ?_
  refine x_last (f := h) hx hb hK hP hD hS 5 rfl 0 rfl (by omega) (by omega) dL_spreadWith_9 (fun H locs hP hD hS => ?_)
  have hP : xP γ ([xO q0 2 [.ref q1, .ref q4, .int (nI kc), .int td, .ref q2, .ref q3], xO q1 0 [.ref a1, .int (nI n)], xA γ a1 12 f, xO q2 0 [.ref a2, .int tn155x], xA γ a2 12 tf156x, xL γ o 1 (vp_updL h 0 (Int32.toInt64 (xSpn n (xTip n f k x))))]) H := hP
  have hD : va_D A ([xO q0 2 [.ref q1, .ref q4, .int (nI kc), .int td, .ref q2, .ref q3], xO q1 0 [.ref a1, .int (nI n)], xA γ a1 12 f, xO q2 0 [.ref a2, .int tn155x], xA γ a2 12 tf156x, xL γ o 1 (vp_updL h 0 (Int32.toInt64 (xSpn n (xTip n f k x))))]) := hD
  refine lv_goto (tgt := 21) hx hb dL_spreadWith_10 (by decide) ?_
  refine lv_iconst (v := 0) hx hb dL_spreadWith_21 (by decide) ?_
  subst hQ
  exact xM_i hx hb hr hlocks dL_spreadWith_22 hP rfl hS (Nat.le_of_ble_eq_true rfl) (Nat.le_of_ble_eq_true rfl) (⟨rfl, _, _, rfl⟩)

set_option maxHeartbeats 4000000 in
set_option maxRecDepth 100000 in
theorem c_L_placeFor (γ : xG) (l : Launch) (q0 q1 q2 q3 q4 kc : Nat) (td : Int32) (a1 n : Nat) (f : xRow) (a2 : Nat) (tn : Int32) (tf : xRow) (kq ka : Nat → Nat) (kn : Nat → Int32) (ks : Nat → xRow) (x : Int32) (hn0 : 3 ≤ n) (hn1 : n ≤ 12) (hkc : kc ≤ 6) (hkn : ∀ t, t < kc → kn t = nI n) (h1 : ¬ x < (-999)) (h2 : x ≤ 999) (o : Nat) (h : Nat → Int64) : xME γ l yL_placeFor wsL_placeFor ({ frames := 5, cells := 0, slots := 0, locals := 109 } : Room) [.ref q0, .int x, .ref o] (fun _ => True) ([xO q0 2 [.ref q1, .ref q4, .int (nI kc), .int td, .ref q2, .ref q3], xO q1 0 [.ref a1, .int (nI n)], xA γ a1 12 f, xO q2 0 [.ref a2, .int tn], xA γ a2 12 tf, xQ γ q4 6 (fun t9 => some (kq t9)), xL γ o 1 h] ++ xKp γ kq ka kn ks) (fun r9 w9 => r9 = some (.int 0) ∧ ∃ (z9 : Int32) (h9 : xRow), w9 = [xO q0 2 [.ref q1, .ref q4, .int (nI kc), .int td, .ref q2, .ref q3], xO q1 0 [.ref a1, .int (nI n)], xA γ a1 12 f, xO q2 0 [.ref a2, .int z9], xA γ a2 12 h9, xQ γ q4 6 (fun t9 => some (kq t9)), xL γ o 1 (vp_updL h 0 (Int32.toInt64 (xPl n kc f ks x)))] ++ xKp γ kq ka kn ks) 0 0 := by
  refine xME.ofH (cc := cL_placeFor) (maxL := 4) (ret := (some .int)) (hh := [(0, 9, 12, 13)]) (by decide +kernel) rfl (Nat.le_of_ble_eq_true rfl) ?_
  intro p e s m below meth c hx hb hr hml hts hown hlocks htab hP hK hEx A hA hD ls hl
  have hS : va_S A s.heap s.heap [] := va_S.rf
  generalize hargs : ([.ref q0, .int x, .ref o] : List Value).toArray = args at hts ⊢
  obtain ⟨Q, hQ⟩ : ∃ Q9, Q9 = MQ below (xMQ γ (List.map Prod.fst ([xO q0 2 [.ref q1, .ref q4, .int (nI kc), .int td, .ref q2, .ref q3], xO q1 0 [.ref a1, .int (nI n)], xA γ a1 12 f, xO q2 0 [.ref a2, .int tn], xA γ a2 12 tf, xQ γ q4 6 (fun t9 => some (kq t9)), xL γ o 1 h] ++ xKp γ kq ka kn ks)) A (fun r9 w9 => r9 = some (.int 0) ∧ ∃ (z9 : Int32) (h9 : xRow), w9 = [xO q0 2 [.ref q1, .ref q4, .int (nI kc), .int td, .ref q2, .ref q3], xO q1 0 [.ref a1, .int (nI n)], xA γ a1 12 f, xO q2 0 [.ref a2, .int z9], xA γ a2 12 h9, xQ γ q4 6 (fun t9 => some (kq t9)), xL γ o 1 (vp_updL h 0 (Int32.toInt64 (xPl n kc f ks x)))] ++ xKp γ kq ka kn ks)) args s 0 0 A := ⟨_, rfl⟩
  rw [← hQ]
  have hown : s.vm.findClass RL = some m.cls := hown
  have hl : lv_has ls 4 [(0, .ref q0), (1, .int x), (2, .ref o)] := hl
  refine lv_aload_n hx hb dL_placeFor_0 rfl (lv_at hl 2 rfl) ?_
  refine lv_iconst (v := 0) hx hb dL_placeFor_1 (by decide) ?_
  refine lv_aload_n hx hb dL_placeFor_2 rfl (lv_at hl 0 rfl) ?_
  refine lv_iload_n hx hb dL_placeFor_3 rfl (lv_at hl 1 rfl) ?_
  refine xVM (q0 := 0) (ci := 2) (As := [.int x]) (rest := [.int 0, .ref o]) ⟨hx, hb, hml, hown, hts⟩ (c_X2_placeForA γ l q0 q1 q2 q3 q4 kc td a1 n f a2 tn tf kq ka kn ks x hn0 hn1 hkc hkn h1 h2) (cwV 1 hts gL_placeFor_X2_placeFor rfl rfl rfl hdv_X2_placeFor ⟨(Nat.le_of_ble_eq_true rfl), (Nat.le_of_ble_eq_true rfl)⟩) hK hP hD hS hA ([0, 1, 2, 3, 4, 5] ++ List.range' 7 12) rfl (xsuf_M (base := [xO q0 2 [.ref q1, .ref q4, .int (nI kc), .int td, .ref q2, .ref q3], xO q1 0 [.ref a1, .int (nI n)], xA γ a1 12 f, xO q2 0 [.ref a2, .int tn], xA γ a2 12 tf, xQ γ q4 6 (fun t9 => some (kq t9)), xL γ o 1 h]) rfl rfl rfl (by decide)) rfl rfl rfl hl.1 rfl (Nat.le_of_ble_eq_true rfl) dL_placeFor_4 ⟨(Nat.le_of_ble_eq_true rfl), (Nat.le_of_ble_eq_true rfl)⟩ (fun r9 w9 H locs hw hP hD hS => ?_)
  obtain ⟨rfl, tn159x, tf160x, rfl⟩ := hw
  rw [xup_suf (base := [xO q0 2 [.ref q1, .ref q4, .int (nI kc), .int td, .ref q2, .ref q3], xO q1 0 [.ref a1, .int (nI n)], xA γ a1 12 f, xO q2 0 [.ref a2, .int tn], xA γ a2 12 tf, xQ γ q4 6 (fun t9 => some (kq t9)), xL γ o 1 h]) (K := xKp γ kq ka kn ks) (is1 := [0, 1, 2, 3, 4, 5]) (w1 := [xO q0 2 [.ref q1, .ref q4, .int (nI kc), .int td, .ref q2, .ref q3], xO q1 0 [.ref a1, .int (nI n)], xA γ a1 12 f, xO q2 0 [.ref a2, .int tn159x], xA γ a2 12 tf160x, xQ γ q4 6 (fun t9 => some (kq t9))]) (nb := 7) rfl rfl rfl (by decide)] at hP hD
  have hP : xP γ ([xO q0 2 [.ref q1, .ref q4, .int (nI kc), .int td, .ref q2, .ref q3], xO q1 0 [.ref a1, .int (nI n)], xA γ a1 12 f, xO q2 0 [.ref a2, .int tn159x], xA γ a2 12 tf160x, xQ γ q4 6 (fun t9 => some (kq t9)), xL γ o 1 h] ++ xKp γ kq ka kn ks) H := hP
  have hD : va_D A ([xO q0 2 [.ref q1, .ref q4, .int (nI kc), .int td, .ref q2, .ref q3], xO q1 0 [.ref a1, .int (nI n)], xA γ a1 12 f, xO q2 0 [.ref a2, .int tn159x], xA γ a2 12 tf160x, xQ γ q4 6 (fun t9 => some (kq t9)), xL γ o 1 h] ++ xKp γ kq ka kn ks) := hD
  refine W.eq (g2 := F0 m 7 ls [.int (xPl n kc f ks x), .int 0, .ref o]) rfl ?_
  refine lv_i2l (v := Int32.toInt64 (xPl n kc f ks x)) hx hb dL_placeFor_7 rfl ?_
  refine x_last (f := h) hx hb hK hP hD hS 6 rfl 0 rfl (by omega) (by omega) dL_placeFor_8 (fun H locs hP hD hS => ?_)
  have hP : xP γ ([xO q0 2 [.ref q1, .ref q4, .int (nI kc), .int td, .ref q2, .ref q3], xO q1 0 [.ref a1, .int (nI n)], xA γ a1 12 f, xO q2 0 [.ref a2, .int tn159x], xA γ a2 12 tf160x, xQ γ q4 6 (fun t9 => some (kq t9)), xL γ o 1 (vp_updL h 0 (Int32.toInt64 (xPl n kc f ks x)))] ++ xKp γ kq ka kn ks) H := hP
  have hD : va_D A ([xO q0 2 [.ref q1, .ref q4, .int (nI kc), .int td, .ref q2, .ref q3], xO q1 0 [.ref a1, .int (nI n)], xA γ a1 12 f, xO q2 0 [.ref a2, .int tn159x], xA γ a2 12 tf160x, xQ γ q4 6 (fun t9 => some (kq t9)), xL γ o 1 (vp_updL h 0 (Int32.toInt64 (xPl n kc f ks x)))] ++ xKp γ kq ka kn ks) := hD
  refine lv_goto (tgt := 15) hx hb dL_placeFor_9 (by decide) ?_
  refine lv_iconst (v := 0) hx hb dL_placeFor_15 (by decide) ?_
  subst hQ
  exact xM_i hx hb hr hlocks dL_placeFor_16 hP rfl hS (Nat.le_of_ble_eq_true rfl) (Nat.le_of_ble_eq_true rfl) (⟨rfl, _, _, rfl⟩)

theorem wdL_lay_h13 : Cond.classLink RL 13 "java/lang/IllegalArgumentException" ∈ wsL_lay := by decide +kernel
set_option maxHeartbeats 4000000 in
set_option maxRecDepth 100000 in
theorem c_L_lay_x (γ : xG) (l : Launch) (hlt : l.stackTraces = false) (sa : Nat → Nat) (q0 q1 q2 q3 q4 kc : Nat) (td : Int32) (x : Int32) (hxb : xInB x 3 12 = false) (o : Nat) (h : Nat → Int64) : xME γ l yL_lay wsL_lay ({ frames := 7, cells := 1, slots := 6, locals := 104 } : Room) [.ref q0, .int x, .ref o] (xW1 sa) ([xO q0 2 [.ref q1, .ref q4, .int (nI kc), .int td, .ref q2, .ref q3], xL γ o 1 h]) (fun r9 w9 => r9 = some (.int 1) ∧ w9 = [xO q0 2 [.ref q1, .ref q4, .int (nI kc), .int td, .ref q2, .ref q3], xL γ o 1 h]) 1 6 := by
  refine xME.ofH (cc := cL_lay) (maxL := 4) (ret := (some .int)) (hh := [(0, 9, 12, 13)]) (by decide +kernel) rfl (Nat.le_of_ble_eq_true rfl) ?_
  intro p e s m below meth c hx hb hr hml hts hown hlocks htab hP hK hEx A hA hD ls hl
  have hS : va_S A s.heap s.heap [] := va_S.rf
  generalize hargs : ([.ref q0, .int x, .ref o] : List Value).toArray = args at hts ⊢
  obtain ⟨Q, hQ⟩ : ∃ Q9, Q9 = MQ below (xMQ γ (List.map Prod.fst ([xO q0 2 [.ref q1, .ref q4, .int (nI kc), .int td, .ref q2, .ref q3], xL γ o 1 h])) A (fun r9 w9 => r9 = some (.int 1) ∧ w9 = [xO q0 2 [.ref q1, .ref q4, .int (nI kc), .int td, .ref q2, .ref q3], xL γ o 1 h])) args s 1 6 A := ⟨_, rfl⟩
  rw [← hQ]
  have hown : s.vm.findClass RL = some m.cls := hown
  have hl : lv_has ls 4 [(0, .ref q0), (1, .int x), (2, .ref o)] := hl
  refine lv_aload_n hx hb dL_lay_0 rfl (lv_at hl 2 rfl) ?_
  refine lv_iconst (v := 0) hx hb dL_lay_1 (by decide) ?_
  refine lv_aload_n hx hb dL_lay_2 rfl (lv_at hl 0 rfl) ?_
  refine lv_iload_n hx hb dL_lay_3 rfl (lv_at hl 1 rfl) ?_
  refine xXV (q0 := 0) (ci := 2) (As := [.int x]) (rest := [.int 0, .ref o]) ⟨hx, hb, hml, hown, hts⟩ (c_X2_lay_x γ l hlt sa q0 q1 q2 q3 q4 kc td x hxb) (cwV 1 hts gL_lay_X2_lay rfl rfl rfl hdv_X2_lay ⟨(Nat.le_of_ble_eq_true rfl), (Nat.le_of_ble_eq_true rfl)⟩) hK hP (fun U hU hW => hEx.1.warm hW hU) [0] rfl rfl rfl rfl hl.1 rfl (Nat.le_of_ble_eq_true rfl) dL_lay_4 ⟨(Nat.le_of_ble_eq_true rfl), (Nat.le_of_ble_eq_true rfl)⟩ (fun H1 ce9 q9 hz9 hk9 hce hcv hcl => ?_)
  refine vx_catch (E := "java/lang/IllegalArgumentException") (name := "java/lang/IllegalArgumentException") (pc := 4) hown [] ⟨0, 9, 12, 13⟩ [] (htab.trans rfl) (fun _ h => nomatch h) rfl (by decide) (hts _ wdL_lay_h13) (va_Nw.use rfl hEx.1.1.2.1) hce hcv hcl ?_
  refine W.eq (g2 := F0 m 12 ls [.ref q9]) rfl ?_
  have hP := xkept hP hk9
  have hS : va_S A s.heap H1 [] := ⟨hz9, fun q h _ => hk9 q h, fun _ h => by cases h⟩
  refine lv_astore_n (lv' := [(3, .ref q9), (0, .ref q0), (1, .int x), (2, .ref o)]) hx hb dL_lay_12 rfl hl (by decide) rfl (fun ls hl => ?_)
  refine lv_iconst (v := 1) hx hb dL_lay_13 (by decide) ?_
  subst hQ
  exact xM_i hx hb hr hlocks dL_lay_14 hP rfl hS (Nat.le_of_ble_eq_true rfl) (Nat.le_of_ble_eq_true rfl) (⟨rfl, rfl⟩)

theorem wdL_settle_h13 : Cond.classLink RL 13 "java/lang/IllegalArgumentException" ∈ wsL_settle := by decide +kernel
set_option maxHeartbeats 4000000 in
set_option maxRecDepth 100000 in
theorem c_L_settle_x (γ : xG) (l : Launch) (hlt : l.stackTraces = false) (sa : Nat → Nat) (q0 q1 q2 q3 q4 kc : Nat) (td : Int32) (x : Int32) (hxb : xInB x 1 200 = false) (o : Nat) (h : Nat → Int64) : xME γ l yL_settle wsL_settle ({ frames := 7, cells := 1, slots := 6, locals := 104 } : Room) [.ref q0, .int x, .ref o] (xW1 sa) ([xO q0 2 [.ref q1, .ref q4, .int (nI kc), .int td, .ref q2, .ref q3], xL γ o 1 h]) (fun r9 w9 => r9 = some (.int 1) ∧ w9 = [xO q0 2 [.ref q1, .ref q4, .int (nI kc), .int td, .ref q2, .ref q3], xL γ o 1 h]) 1 6 := by
  refine xME.ofH (cc := cL_settle) (maxL := 4) (ret := (some .int)) (hh := [(0, 9, 12, 13)]) (by decide +kernel) rfl (Nat.le_of_ble_eq_true rfl) ?_
  intro p e s m below meth c hx hb hr hml hts hown hlocks htab hP hK hEx A hA hD ls hl
  have hS : va_S A s.heap s.heap [] := va_S.rf
  generalize hargs : ([.ref q0, .int x, .ref o] : List Value).toArray = args at hts ⊢
  obtain ⟨Q, hQ⟩ : ∃ Q9, Q9 = MQ below (xMQ γ (List.map Prod.fst ([xO q0 2 [.ref q1, .ref q4, .int (nI kc), .int td, .ref q2, .ref q3], xL γ o 1 h])) A (fun r9 w9 => r9 = some (.int 1) ∧ w9 = [xO q0 2 [.ref q1, .ref q4, .int (nI kc), .int td, .ref q2, .ref q3], xL γ o 1 h])) args s 1 6 A := ⟨_, rfl⟩
  rw [← hQ]
  have hown : s.vm.findClass RL = some m.cls := hown
  have hl : lv_has ls 4 [(0, .ref q0), (1, .int x), (2, .ref o)] := hl
  refine lv_aload_n hx hb dL_settle_0 rfl (lv_at hl 2 rfl) ?_
  refine lv_iconst (v := 0) hx hb dL_settle_1 (by decide) ?_
  refine lv_aload_n hx hb dL_settle_2 rfl (lv_at hl 0 rfl) ?_
  refine lv_iload_n hx hb dL_settle_3 rfl (lv_at hl 1 rfl) ?_
  refine xXV (q0 := 0) (ci := 2) (As := [.int x]) (rest := [.int 0, .ref o]) ⟨hx, hb, hml, hown, hts⟩ (c_X2_settle_x γ l hlt sa q0 q1 q2 q3 q4 kc td x hxb) (cwV 1 hts gL_settle_X2_settle rfl rfl rfl hdv_X2_settle ⟨(Nat.le_of_ble_eq_true rfl), (Nat.le_of_ble_eq_true rfl)⟩) hK hP (fun U hU hW => hEx.1.warm hW hU) [0] rfl rfl rfl rfl hl.1 rfl (Nat.le_of_ble_eq_true rfl) dL_settle_4 ⟨(Nat.le_of_ble_eq_true rfl), (Nat.le_of_ble_eq_true rfl)⟩ (fun H1 ce9 q9 hz9 hk9 hce hcv hcl => ?_)
  refine vx_catch (E := "java/lang/IllegalArgumentException") (name := "java/lang/IllegalArgumentException") (pc := 4) hown [] ⟨0, 9, 12, 13⟩ [] (htab.trans rfl) (fun _ h => nomatch h) rfl (by decide) (hts _ wdL_settle_h13) (va_Nw.use rfl hEx.1.1.2.1) hce hcv hcl ?_
  refine W.eq (g2 := F0 m 12 ls [.ref q9]) rfl ?_
  have hP := xkept hP hk9
  have hS : va_S A s.heap H1 [] := ⟨hz9, fun q h _ => hk9 q h, fun _ h => by cases h⟩
  refine lv_astore_n (lv' := [(3, .ref q9), (0, .ref q0), (1, .int x), (2, .ref o)]) hx hb dL_settle_12 rfl hl (by decide) rfl (fun ls hl => ?_)
  refine lv_iconst (v := 1) hx hb dL_settle_13 (by decide) ?_
  subst hQ
  exact xM_i hx hb hr hlocks dL_settle_14 hP rfl hS (Nat.le_of_ble_eq_true rfl) (Nat.le_of_ble_eq_true rfl) (⟨rfl, rfl⟩)

theorem wdL_keep_h28 : Cond.classLink RL 28 "java/lang/IllegalStateException" ∈ wsL_keep := by decide +kernel
set_option maxHeartbeats 4000000 in
set_option maxRecDepth 100000 in
theorem c_L_keep_x (γ : xG) (l : Launch) (hlt : l.stackTraces = false) (sa : Nat → Nat) (q0 q1 q2 q3 q4 kc : Nat) (td : Int32) (hk : kc = 6) (o : Nat) (h : Nat → Int64) : xME γ l yL_keep wsL_keep ({ frames := 7, cells := 1, slots := 6, locals := 103 } : Room) [.ref q0, .ref o] (xW1 sa) ([xO q0 2 [.ref q1, .ref q4, .int (nI kc), .int td, .ref q2, .ref q3], xL γ o 1 h]) (fun r9 w9 => r9 = some (.int 1) ∧ w9 = [xO q0 2 [.ref q1, .ref q4, .int (nI kc), .int td, .ref q2, .ref q3], xL γ o 1 h]) 1 6 := by
  refine xME.ofH (cc := cL_keep) (maxL := 3) (ret := (some .int)) (hh := [(0, 8, 11, 28)]) (by decide +kernel) rfl (Nat.le_of_ble_eq_true rfl) ?_
  intro p e s m below meth c hx hb hr hml hts hown hlocks htab hP hK hEx A hA hD ls hl
  have hS : va_S A s.heap s.heap [] := va_S.rf
  generalize hargs : ([.ref q0, .ref o] : List Value).toArray = args at hts ⊢
  obtain ⟨Q, hQ⟩ : ∃ Q9, Q9 = MQ below (xMQ γ (List.map Prod.fst ([xO q0 2 [.ref q1, .ref q4, .int (nI kc), .int td, .ref q2, .ref q3], xL γ o 1 h])) A (fun r9 w9 => r9 = some (.int 1) ∧ w9 = [xO q0 2 [.ref q1, .ref q4, .int (nI kc), .int td, .ref q2, .ref q3], xL γ o 1 h])) args s 1 6 A := ⟨_, rfl⟩
  rw [← hQ]
  have hown : s.vm.findClass RL = some m.cls := hown
  have hl : lv_has ls 3 [(0, .ref q0), (1, .ref o)] := hl
  refine lv_aload_n hx hb dL_keep_0 rfl (lv_at hl 1 rfl) ?_
  refine lv_iconst (v := 0) hx hb dL_keep_1 (by decide) ?_
  refine lv_aload_n hx hb dL_keep_2 rfl (lv_at hl 0 rfl) ?_
  refine xXV (q0 := 0) (ci := 2) (As := []) (rest := [.int 0, .ref o]) ⟨hx, hb, hml, hown, hts⟩ (c_X2_keep_x γ l hlt sa q0 q1 q2 q3 q4 kc td hk) (cwV 0 hts gL_keep_X2_keep rfl rfl rfl hdv_X2_keep ⟨(Nat.le_of_ble_eq_true rfl), (Nat.le_of_ble_eq_true rfl)⟩) hK hP (fun U hU hW => hEx.1.warm hW hU) [0] rfl rfl rfl rfl hl.1 rfl (Nat.le_of_ble_eq_true rfl) dL_keep_3 ⟨(Nat.le_of_ble_eq_true rfl), (Nat.le_of_ble_eq_true rfl)⟩ (fun H1 ce9 q9 hz9 hk9 hce hcv hcl => ?_)
  refine vx_catch (E := "java/lang/IllegalStateException") (name := "java/lang/IllegalStateException") (pc := 3) hown [] ⟨0, 8, 11, 28⟩ [] (htab.trans rfl) (fun _ h => nomatch h) rfl (by decide) (hts _ wdL_keep_h28) (va_Nw.use rfl hEx.1.1.2.2.1) hce hcv hcl ?_
  refine W.eq (g2 := F0 m 11 ls [.ref q9]) rfl ?_
  have hP := xkept hP hk9
  have hS : va_S A s.heap H1 [] := ⟨hz9, fun q h _ => hk9 q h, fun _ h => by cases h⟩
  refine lv_astore_n (lv' := [(2, .ref q9), (0, .ref q0), (1, .ref o)]) hx hb dL_keep_11 rfl hl (by decide) rfl (fun ls hl => ?_)
  refine lv_iconst (v := 1) hx hb dL_keep_12 (by decide) ?_
  subst hQ
  exact xM_i hx hb hr hlocks dL_keep_13 hP rfl hS (Nat.le_of_ble_eq_true rfl) (Nat.le_of_ble_eq_true rfl) (⟨rfl, rfl⟩)

theorem wdL_placeFor_h13 : Cond.classLink RL 13 "java/lang/IllegalArgumentException" ∈ wsL_placeFor := by decide +kernel
set_option maxHeartbeats 4000000 in
set_option maxRecDepth 100000 in
theorem c_L_placeFor_x (γ : xG) (l : Launch) (hlt : l.stackTraces = false) (sa : Nat → Nat) (q0 q1 q2 q3 q4 kc : Nat) (td : Int32) (x : Int32) (hxb : xInB x (-999) 999 = false) (o : Nat) (h : Nat → Int64) : xME γ l yL_placeFor wsL_placeFor ({ frames := 8, cells := 1, slots := 6, locals := 124 } : Room) [.ref q0, .int x, .ref o] (xW1 sa) ([xO q0 2 [.ref q1, .ref q4, .int (nI kc), .int td, .ref q2, .ref q3], xL γ o 1 h]) (fun r9 w9 => r9 = some (.int 1) ∧ w9 = [xO q0 2 [.ref q1, .ref q4, .int (nI kc), .int td, .ref q2, .ref q3], xL γ o 1 h]) 1 6 := by
  refine xME.ofH (cc := cL_placeFor) (maxL := 4) (ret := (some .int)) (hh := [(0, 9, 12, 13)]) (by decide +kernel) rfl (Nat.le_of_ble_eq_true rfl) ?_
  intro p e s m below meth c hx hb hr hml hts hown hlocks htab hP hK hEx A hA hD ls hl
  have hS : va_S A s.heap s.heap [] := va_S.rf
  generalize hargs : ([.ref q0, .int x, .ref o] : List Value).toArray = args at hts ⊢
  obtain ⟨Q, hQ⟩ : ∃ Q9, Q9 = MQ below (xMQ γ (List.map Prod.fst ([xO q0 2 [.ref q1, .ref q4, .int (nI kc), .int td, .ref q2, .ref q3], xL γ o 1 h])) A (fun r9 w9 => r9 = some (.int 1) ∧ w9 = [xO q0 2 [.ref q1, .ref q4, .int (nI kc), .int td, .ref q2, .ref q3], xL γ o 1 h])) args s 1 6 A := ⟨_, rfl⟩
  rw [← hQ]
  have hown : s.vm.findClass RL = some m.cls := hown
  have hl : lv_has ls 4 [(0, .ref q0), (1, .int x), (2, .ref o)] := hl
  refine lv_aload_n hx hb dL_placeFor_0 rfl (lv_at hl 2 rfl) ?_
  refine lv_iconst (v := 0) hx hb dL_placeFor_1 (by decide) ?_
  refine lv_aload_n hx hb dL_placeFor_2 rfl (lv_at hl 0 rfl) ?_
  refine lv_iload_n hx hb dL_placeFor_3 rfl (lv_at hl 1 rfl) ?_
  refine xXV (q0 := 0) (ci := 2) (As := [.int x]) (rest := [.int 0, .ref o]) ⟨hx, hb, hml, hown, hts⟩ (c_X2_placeFor_x γ l hlt sa q0 q1 q2 q3 q4 kc td x hxb) (cwV 1 hts gL_placeFor_X2_placeFor rfl rfl rfl hdv_X2_placeFor ⟨(Nat.le_of_ble_eq_true rfl), (Nat.le_of_ble_eq_true rfl)⟩) hK hP (fun U hU hW => hEx.1.warm hW hU) [0] rfl rfl rfl rfl hl.1 rfl (Nat.le_of_ble_eq_true rfl) dL_placeFor_4 ⟨(Nat.le_of_ble_eq_true rfl), (Nat.le_of_ble_eq_true rfl)⟩ (fun H1 ce9 q9 hz9 hk9 hce hcv hcl => ?_)
  refine vx_catch (E := "java/lang/IllegalArgumentException") (name := "java/lang/IllegalArgumentException") (pc := 4) hown [] ⟨0, 9, 12, 13⟩ [] (htab.trans rfl) (fun _ h => nomatch h) rfl (by decide) (hts _ wdL_placeFor_h13) (va_Nw.use rfl hEx.1.1.2.1) hce hcv hcl ?_
  refine W.eq (g2 := F0 m 12 ls [.ref q9]) rfl ?_
  have hP := xkept hP hk9
  have hS : va_S A s.heap H1 [] := ⟨hz9, fun q h _ => hk9 q h, fun _ h => by cases h⟩
  refine lv_astore_n (lv' := [(3, .ref q9), (0, .ref q0), (1, .int x), (2, .ref o)]) hx hb dL_placeFor_12 rfl hl (by decide) rfl (fun ls hl => ?_)
  refine lv_iconst (v := 1) hx hb dL_placeFor_13 (by decide) ?_
  subst hQ
  exact xM_i hx hb hr hlocks dL_placeFor_14 hP rfl hS (Nat.le_of_ble_eq_true rfl) (Nat.le_of_ble_eq_true rfl) (⟨rfl, rfl⟩)

theorem wdL_put_h19 : Cond.classLink RL 19 "java/lang/IndexOutOfBoundsException" ∈ wsL_put := by decide +kernel
set_option maxHeartbeats 4000000 in
set_option maxRecDepth 100000 in
theorem c_L_put_x1 (γ : xG) (l : Launch) (hlt : l.stackTraces = false) (sa : Nat → Nat) (q0 q1 q2 q3 q4 kc : Nat) (td : Int32) (a1 n : Nat) (f : xRow) (y x : Int32) (hn0 : 3 ≤ n) (hn1 : n ≤ 12) (hxb : xInB y 0 (nI n - 1) = false) (o : Nat) (h : Nat → Int64) : xME γ l yL_put wsL_put ({ frames := 8, cells := 1, slots := 6, locals := 126 } : Room) [.ref q0, .int y, .int x, .ref o] (xW1 sa) ([xO q0 2 [.ref q1, .ref q4, .int (nI kc), .int td, .ref q2, .ref q3], xO q1 0 [.ref a1, .int (nI n)], xA γ a1 12 f, xL γ o 1 h]) (fun r9 w9 => r9 = some (.int 1) ∧ w9 = [xO q0 2 [.ref q1, .ref q4, .int (nI kc), .int td, .ref q2, .ref q3], xO q1 0 [.ref a1, .int (nI n)], xA γ a1 12 f, xL γ o 1 h]) 1 6 := by
  refine xME.ofH (cc := cL_put) (maxL := 5) (ret := (some .int)) (hh := [(0, 10, 13, 19), (0, 10, 17, 13)]) (by decide +kernel) rfl (Nat.le_of_ble_eq_true rfl) ?_
  intro p e s m below meth c hx hb hr hml hts hown hlocks htab hP hK hEx A hA hD ls hl
  have hS : va_S A s.heap s.heap [] := va_S.rf
  generalize hargs : ([.ref q0, .int y, .int x, .ref o] : List Value).toArray = args at hts ⊢
  obtain ⟨Q, hQ⟩ : ∃ Q9, Q9 = MQ below (xMQ γ (List.map Prod.fst ([xO q0 2 [.ref q1, .ref q4, .int (nI kc), .int td, .ref q2, .ref q3], xO q1 0 [.ref a1, .int (nI n)], xA γ a1 12 f, xL γ o 1 h])) A (fun r9 w9 => r9 = some (.int 1) ∧ w9 = [xO q0 2 [.ref q1, .ref q4, .int (nI kc), .int td, .ref q2, .ref q3], xO q1 0 [.ref a1, .int (nI n)], xA γ a1 12 f, xL γ o 1 h])) args s 1 6 A := ⟨_, rfl⟩
  rw [← hQ]
  have hown : s.vm.findClass RL = some m.cls := hown
  have hl : lv_has ls 5 [(0, .ref q0), (1, .int y), (2, .int x), (3, .ref o)] := hl
  refine lv_aload_n hx hb dL_put_0 rfl (lv_at hl 3 rfl) ?_
  refine lv_iconst (v := 0) hx hb dL_put_1 (by decide) ?_
  refine lv_aload_n hx hb dL_put_2 rfl (lv_at hl 0 rfl) ?_
  refine lv_iload_n hx hb dL_put_3 rfl (lv_at hl 1 rfl) ?_
  refine lv_iload_n hx hb dL_put_4 rfl (lv_at hl 2 rfl) ?_
  refine xXV (q0 := 0) (ci := 2) (As := [.int y, .int x]) (rest := [.int 0, .ref o]) ⟨hx, hb, hml, hown, hts⟩ (c_X2_put_x1 γ l hlt sa q0 q1 q2 q3 q4 kc td a1 n f y x hn0 hn1 hxb) (cwV 2 hts gL_put_X2_put rfl rfl rfl hdv_X2_put ⟨(Nat.le_of_ble_eq_true rfl), (Nat.le_of_ble_eq_true rfl)⟩) hK hP (fun U hU hW => hEx.1.warm hW hU) [0, 1, 2] rfl rfl rfl rfl hl.1 rfl (Nat.le_of_ble_eq_true rfl) dL_put_5 ⟨(Nat.le_of_ble_eq_true rfl), (Nat.le_of_ble_eq_true rfl)⟩ (fun H1 ce9 q9 hz9 hk9 hce hcv hcl => ?_)
  refine vx_catch (E := "java/lang/IndexOutOfBoundsException") (name := "java/lang/IndexOutOfBoundsException") (pc := 5) hown [] ⟨0, 10, 13, 19⟩ [⟨0, 10, 17, 13⟩] (htab.trans rfl) (fun _ h => nomatch h) rfl (by decide) (hts _ wdL_put_h19) (va_Nw.use rfl hEx.1.1.1) hce hcv hcl ?_
  refine W.eq (g2 := F0 m 13 ls [.ref q9]) rfl ?_
  have hP := xkept hP hk9
  have hS : va_S A s.heap H1 [] := ⟨hz9, fun q h _ => hk9 q h, fun _ h => by cases h⟩
  refine lv_astore (lv' := [(4, .ref q9), (0, .ref q0), (1, .int y), (2, .int x), (3, .ref o)]) hx hb dL_put_13 hl (by decide) rfl (fun ls hl => ?_)
  refine lv_iconst (v := 1) hx hb dL_put_15 (by decide) ?_
  subst hQ
  exact xM_i hx hb hr hlocks dL_put_16 hP rfl hS (Nat.le_of_ble_eq_true rfl) (Nat.le_of_ble_eq_true rfl) (⟨rfl, rfl⟩)

theorem wdL_put_h13 : Cond.classLink RL 13 "java/lang/IllegalArgumentException" ∈ wsL_put := by decide +kernel
set_option maxHeartbeats 4000000 in
set_option maxRecDepth 100000 in
theorem c_L_put_x2 (γ : xG) (l : Launch) (hlt : l.stackTraces = false) (sa : Nat → Nat) (q0 q1 q2 q3 q4 kc : Nat) (td : Int32) (a1 n : Nat) (f : xRow) (k : Nat) (x : Int32) (hn0 : 3 ≤ n) (hn1 : n ≤ 12) (hk : k < n) (hxb : xInB x (-999) 999 = false) (o : Nat) (h : Nat → Int64) : xME γ l yL_put wsL_put ({ frames := 8, cells := 1, slots := 6, locals := 126 } : Room) [.ref q0, .int (nI k), .int x, .ref o] (xW1 sa) ([xO q0 2 [.ref q1, .ref q4, .int (nI kc), .int td, .ref q2, .ref q3], xO q1 0 [.ref a1, .int (nI n)], xA γ a1 12 f, xL γ o 1 h]) (fun r9 w9 => r9 = some (.int 2) ∧ w9 = [xO q0 2 [.ref q1, .ref q4, .int (nI kc), .int td, .ref q2, .ref q3], xO q1 0 [.ref a1, .int (nI n)], xA γ a1 12 f, xL γ o 1 h]) 1 6 := by
  refine xME.ofH (cc := cL_put) (maxL := 5) (ret := (some .int)) (hh := [(0, 10, 13, 19), (0, 10, 17, 13)]) (by decide +kernel) rfl (Nat.le_of_ble_eq_true rfl) ?_
  intro p e s m below meth c hx hb hr hml hts hown hlocks htab hP hK hEx A hA hD ls hl
  have hS : va_S A s.heap s.heap [] := va_S.rf
  generalize hargs : ([.ref q0, .int (nI k), .int x, .ref o] : List Value).toArray = args at hts ⊢
  obtain ⟨Q, hQ⟩ : ∃ Q9, Q9 = MQ below (xMQ γ (List.map Prod.fst ([xO q0 2 [.ref q1, .ref q4, .int (nI kc), .int td, .ref q2, .ref q3], xO q1 0 [.ref a1, .int (nI n)], xA γ a1 12 f, xL γ o 1 h])) A (fun r9 w9 => r9 = some (.int 2) ∧ w9 = [xO q0 2 [.ref q1, .ref q4, .int (nI kc), .int td, .ref q2, .ref q3], xO q1 0 [.ref a1, .int (nI n)], xA γ a1 12 f, xL γ o 1 h])) args s 1 6 A := ⟨_, rfl⟩
  rw [← hQ]
  have hown : s.vm.findClass RL = some m.cls := hown
  have hl : lv_has ls 5 [(0, .ref q0), (1, .int (nI k)), (2, .int x), (3, .ref o)] := hl
  refine lv_aload_n hx hb dL_put_0 rfl (lv_at hl 3 rfl) ?_
  refine lv_iconst (v := 0) hx hb dL_put_1 (by decide) ?_
  refine lv_aload_n hx hb dL_put_2 rfl (lv_at hl 0 rfl) ?_
  refine lv_iload_n hx hb dL_put_3 rfl (lv_at hl 1 rfl) ?_
  refine lv_iload_n hx hb dL_put_4 rfl (lv_at hl 2 rfl) ?_
  refine xXV (q0 := 0) (ci := 2) (As := [.int (nI k), .int x]) (rest := [.int 0, .ref o]) ⟨hx, hb, hml, hown, hts⟩ (c_X2_put_x2 γ l hlt sa q0 q1 q2 q3 q4 kc td a1 n f k x hn0 hn1 hk hxb) (cwV 2 hts gL_put_X2_put rfl rfl rfl hdv_X2_put ⟨(Nat.le_of_ble_eq_true rfl), (Nat.le_of_ble_eq_true rfl)⟩) hK hP (fun U hU hW => hEx.1.warm hW hU) [0, 1, 2] rfl rfl rfl rfl hl.1 rfl (Nat.le_of_ble_eq_true rfl) dL_put_5 ⟨(Nat.le_of_ble_eq_true rfl), (Nat.le_of_ble_eq_true rfl)⟩ (fun H1 ce9 q9 hz9 hk9 hce hcv hcl => ?_)
  refine vx_catch (E := "java/lang/IllegalArgumentException") (name := "java/lang/IllegalArgumentException") (pc := 5) hown [⟨0, 10, 13, 19⟩] ⟨0, 10, 17, 13⟩ [] (htab.trans rfl) (fun z hz => Or.inr (by rw [List.mem_singleton.mp hz]; exact ⟨by decide, "java/lang/IndexOutOfBoundsException", hts _ wdL_put_h19, hEx.2.1⟩)) rfl (by decide) (hts _ wdL_put_h13) (va_Nw.use rfl hEx.1.1.2.1) hce hcv hcl ?_
  refine W.eq (g2 := F0 m 17 ls [.ref q9]) rfl ?_
  have hP := xkept hP hk9
  have hS : va_S A s.heap H1 [] := ⟨hz9, fun q h _ => hk9 q h, fun _ h => by cases h⟩
  refine lv_astore (lv' := [(4, .ref q9), (0, .ref q0), (1, .int (nI k)), (2, .int x), (3, .ref o)]) hx hb dL_put_17 hl (by decide) rfl (fun ls hl => ?_)
  refine lv_iconst (v := 2) hx hb dL_put_19 (by decide) ?_
  subst hQ
  exact xM_i hx hb hr hlocks dL_put_20 hP rfl hS (Nat.le_of_ble_eq_true rfl) (Nat.le_of_ble_eq_true rfl) (⟨rfl, rfl⟩)

theorem wdL_tip_h19 : Cond.classLink RL 19 "java/lang/IndexOutOfBoundsException" ∈ wsL_tip := by decide +kernel
set_option maxHeartbeats 4000000 in
set_option maxRecDepth 100000 in
theorem c_L_tip_x1 (γ : xG) (l : Launch) (hlt : l.stackTraces = false) (sa : Nat → Nat) (q0 q1 q2 q3 q4 kc : Nat) (td : Int32) (a1 n : Nat) (f : xRow) (y x : Int32) (hn0 : 3 ≤ n) (hn1 : n ≤ 12) (hxb : xInB y 0 (nI n - 1) = false) (o : Nat) (h : Nat → Int64) : xME γ l yL_tip wsL_tip ({ frames := 8, cells := 1, slots := 6, locals := 125 } : Room) [.ref q0, .int y, .int x, .ref o] (xW1 sa) ([xO q0 2 [.ref q1, .ref q4, .int (nI kc), .int td, .ref q2, .ref q3], xO q1 0 [.ref a1, .int (nI n)], xA γ a1 12 f, xL γ o 1 h]) (fun r9 w9 => r9 = some (.int 1) ∧ w9 = [xO q0 2 [.ref q1, .ref q4, .int (nI kc), .int td, .ref q2, .ref q3], xO q1 0 [.ref a1, .int (nI n)], xA γ a1 12 f, xL γ o 1 h]) 1 6 := by
  refine xME.ofH (cc := cL_tip) (maxL := 5) (ret := (some .int)) (hh := [(0, 10, 13, 19), (0, 10, 17, 13)]) (by decide +kernel) rfl (Nat.le_of_ble_eq_true rfl) ?_
  intro p e s m below meth c hx hb hr hml hts hown hlocks htab hP hK hEx A hA hD ls hl
  have hS : va_S A s.heap s.heap [] := va_S.rf
  generalize hargs : ([.ref q0, .int y, .int x, .ref o] : List Value).toArray = args at hts ⊢
  obtain ⟨Q, hQ⟩ : ∃ Q9, Q9 = MQ below (xMQ γ (List.map Prod.fst ([xO q0 2 [.ref q1, .ref q4, .int (nI kc), .int td, .ref q2, .ref q3], xO q1 0 [.ref a1, .int (nI n)], xA γ a1 12 f, xL γ o 1 h])) A (fun r9 w9 => r9 = some (.int 1) ∧ w9 = [xO q0 2 [.ref q1, .ref q4, .int (nI kc), .int td, .ref q2, .ref q3], xO q1 0 [.ref a1, .int (nI n)], xA γ a1 12 f, xL γ o 1 h])) args s 1 6 A := ⟨_, rfl⟩
  rw [← hQ]
  have hown : s.vm.findClass RL = some m.cls := hown
  have hl : lv_has ls 5 [(0, .ref q0), (1, .int y), (2, .int x), (3, .ref o)] := hl
  refine lv_aload_n hx hb dL_tip_0 rfl (lv_at hl 3 rfl) ?_
  refine lv_iconst (v := 0) hx hb dL_tip_1 (by decide) ?_
  refine lv_aload_n hx hb dL_tip_2 rfl (lv_at hl 0 rfl) ?_
  refine lv_iload_n hx hb dL_tip_3 rfl (lv_at hl 1 rfl) ?_
  refine lv_iload_n hx hb dL_tip_4 rfl (lv_at hl 2 rfl) ?_
  refine xXV (q0 := 0) (ci := 2) (As := [.int y, .int x]) (rest := [.int 0, .ref o]) ⟨hx, hb, hml, hown, hts⟩ (c_X2_tip_x1 γ l hlt sa q0 q1 q2 q3 q4 kc td a1 n f y x hn0 hn1 hxb) (cwV 2 hts gL_tip_X2_tip rfl rfl rfl hdv_X2_tip ⟨(Nat.le_of_ble_eq_true rfl), (Nat.le_of_ble_eq_true rfl)⟩) hK hP (fun U hU hW => hEx.1.warm hW hU) [0, 1, 2] rfl rfl rfl rfl hl.1 rfl (Nat.le_of_ble_eq_true rfl) dL_tip_5 ⟨(Nat.le_of_ble_eq_true rfl), (Nat.le_of_ble_eq_true rfl)⟩ (fun H1 ce9 q9 hz9 hk9 hce hcv hcl => ?_)
  refine vx_catch (E := "java/lang/IndexOutOfBoundsException") (name := "java/lang/IndexOutOfBoundsException") (pc := 5) hown [] ⟨0, 10, 13, 19⟩ [⟨0, 10, 17, 13⟩] (htab.trans rfl) (fun _ h => nomatch h) rfl (by decide) (hts _ wdL_tip_h19) (va_Nw.use rfl hEx.1.1.1) hce hcv hcl ?_
  refine W.eq (g2 := F0 m 13 ls [.ref q9]) rfl ?_
  have hP := xkept hP hk9
  have hS : va_S A s.heap H1 [] := ⟨hz9, fun q h _ => hk9 q h, fun _ h => by cases h⟩
  refine lv_astore (lv' := [(4, .ref q9), (0, .ref q0), (1, .int y), (2, .int x), (3, .ref o)]) hx hb dL_tip_13 hl (by decide) rfl (fun ls hl => ?_)
  refine lv_iconst (v := 1) hx hb dL_tip_15 (by decide) ?_
  subst hQ
  exact xM_i hx hb hr hlocks dL_tip_16 hP rfl hS (Nat.le_of_ble_eq_true rfl) (Nat.le_of_ble_eq_true rfl) (⟨rfl, rfl⟩)

theorem wdL_tip_h13 : Cond.classLink RL 13 "java/lang/IllegalArgumentException" ∈ wsL_tip := by decide +kernel
set_option maxHeartbeats 4000000 in
set_option maxRecDepth 100000 in
theorem c_L_tip_x2 (γ : xG) (l : Launch) (hlt : l.stackTraces = false) (sa : Nat → Nat) (q0 q1 q2 q3 q4 kc : Nat) (td : Int32) (a1 n : Nat) (f : xRow) (k : Nat) (x : Int32) (hn0 : 3 ≤ n) (hn1 : n ≤ 12) (hk : k < n) (hxb : xInB x (-50) 50 = false) (o : Nat) (h : Nat → Int64) : xME γ l yL_tip wsL_tip ({ frames := 8, cells := 1, slots := 6, locals := 125 } : Room) [.ref q0, .int (nI k), .int x, .ref o] (xW1 sa) ([xO q0 2 [.ref q1, .ref q4, .int (nI kc), .int td, .ref q2, .ref q3], xO q1 0 [.ref a1, .int (nI n)], xA γ a1 12 f, xL γ o 1 h]) (fun r9 w9 => r9 = some (.int 2) ∧ w9 = [xO q0 2 [.ref q1, .ref q4, .int (nI kc), .int td, .ref q2, .ref q3], xO q1 0 [.ref a1, .int (nI n)], xA γ a1 12 f, xL γ o 1 h]) 1 6 := by
  refine xME.ofH (cc := cL_tip) (maxL := 5) (ret := (some .int)) (hh := [(0, 10, 13, 19), (0, 10, 17, 13)]) (by decide +kernel) rfl (Nat.le_of_ble_eq_true rfl) ?_
  intro p e s m below meth c hx hb hr hml hts hown hlocks htab hP hK hEx A hA hD ls hl
  have hS : va_S A s.heap s.heap [] := va_S.rf
  generalize hargs : ([.ref q0, .int (nI k), .int x, .ref o] : List Value).toArray = args at hts ⊢
  obtain ⟨Q, hQ⟩ : ∃ Q9, Q9 = MQ below (xMQ γ (List.map Prod.fst ([xO q0 2 [.ref q1, .ref q4, .int (nI kc), .int td, .ref q2, .ref q3], xO q1 0 [.ref a1, .int (nI n)], xA γ a1 12 f, xL γ o 1 h])) A (fun r9 w9 => r9 = some (.int 2) ∧ w9 = [xO q0 2 [.ref q1, .ref q4, .int (nI kc), .int td, .ref q2, .ref q3], xO q1 0 [.ref a1, .int (nI n)], xA γ a1 12 f, xL γ o 1 h])) args s 1 6 A := ⟨_, rfl⟩
  rw [← hQ]
  have hown : s.vm.findClass RL = some m.cls := hown
  have hl : lv_has ls 5 [(0, .ref q0), (1, .int (nI k)), (2, .int x), (3, .ref o)] := hl
  refine lv_aload_n hx hb dL_tip_0 rfl (lv_at hl 3 rfl) ?_
  refine lv_iconst (v := 0) hx hb dL_tip_1 (by decide) ?_
  refine lv_aload_n hx hb dL_tip_2 rfl (lv_at hl 0 rfl) ?_
  refine lv_iload_n hx hb dL_tip_3 rfl (lv_at hl 1 rfl) ?_
  refine lv_iload_n hx hb dL_tip_4 rfl (lv_at hl 2 rfl) ?_
  refine xXV (q0 := 0) (ci := 2) (As := [.int (nI k), .int x]) (rest := [.int 0, .ref o]) ⟨hx, hb, hml, hown, hts⟩ (c_X2_tip_x2 γ l hlt sa q0 q1 q2 q3 q4 kc td a1 n f k x hn0 hn1 hk hxb) (cwV 2 hts gL_tip_X2_tip rfl rfl rfl hdv_X2_tip ⟨(Nat.le_of_ble_eq_true rfl), (Nat.le_of_ble_eq_true rfl)⟩) hK hP (fun U hU hW => hEx.1.warm hW hU) [0, 1, 2] rfl rfl rfl rfl hl.1 rfl (Nat.le_of_ble_eq_true rfl) dL_tip_5 ⟨(Nat.le_of_ble_eq_true rfl), (Nat.le_of_ble_eq_true rfl)⟩ (fun H1 ce9 q9 hz9 hk9 hce hcv hcl => ?_)
  refine vx_catch (E := "java/lang/IllegalArgumentException") (name := "java/lang/IllegalArgumentException") (pc := 5) hown [⟨0, 10, 13, 19⟩] ⟨0, 10, 17, 13⟩ [] (htab.trans rfl) (fun z hz => Or.inr (by rw [List.mem_singleton.mp hz]; exact ⟨by decide, "java/lang/IndexOutOfBoundsException", hts _ wdL_tip_h19, hEx.2.1⟩)) rfl (by decide) (hts _ wdL_tip_h13) (va_Nw.use rfl hEx.1.1.2.1) hce hcv hcl ?_
  refine W.eq (g2 := F0 m 17 ls [.ref q9]) rfl ?_
  have hP := xkept hP hk9
  have hS : va_S A s.heap H1 [] := ⟨hz9, fun q h _ => hk9 q h, fun _ h => by cases h⟩
  refine lv_astore (lv' := [(4, .ref q9), (0, .ref q0), (1, .int (nI k)), (2, .int x), (3, .ref o)]) hx hb dL_tip_17 hl (by decide) rfl (fun ls hl => ?_)
  refine lv_iconst (v := 2) hx hb dL_tip_19 (by decide) ?_
  subst hQ
  exact xM_i hx hb hr hlocks dL_tip_20 hP rfl hS (Nat.le_of_ble_eq_true rfl) (Nat.le_of_ble_eq_true rfl) (⟨rfl, rfl⟩)

theorem wdL_spreadWith_h19 : Cond.classLink RL 19 "java/lang/IndexOutOfBoundsException" ∈ wsL_spreadWith := by decide +kernel
set_option maxHeartbeats 4000000 in
set_option maxRecDepth 100000 in
theorem c_L_spreadWith_x1 (γ : xG) (l : Launch) (hlt : l.stackTraces = false) (sa : Nat → Nat) (q0 q1 q2 q3 q4 kc : Nat) (td : Int32) (a1 n : Nat) (f : xRow) (y x : Int32) (hn0 : 3 ≤ n) (hn1 : n ≤ 12) (hxb : xInB y 0 (nI n - 1) = false) (o : Nat) (h : Nat → Int64) : xME γ l yL_spreadWith wsL_spreadWith ({ frames := 8, cells := 1, slots := 6, locals := 125 } : Room) [.ref q0, .int y, .int x, .ref o] (xW1 sa) ([xO q0 2 [.ref q1, .ref q4, .int (nI kc), .int td, .ref q2, .ref q3], xO q1 0 [.ref a1, .int (nI n)], xA γ a1 12 f, xL γ o 1 h]) (fun r9 w9 => r9 = some (.int 1) ∧ w9 = [xO q0 2 [.ref q1, .ref q4, .int (nI kc), .int td, .ref q2, .ref q3], xO q1 0 [.ref a1, .int (nI n)], xA γ a1 12 f, xL γ o 1 h]) 1 6 := by
  refine xME.ofH (cc := cL_spreadWith) (maxL := 5) (ret := (some .int)) (hh := [(0, 10, 13, 19), (0, 10, 17, 13)]) (by decide +kernel) rfl (Nat.le_of_ble_eq_true rfl) ?_
  intro p e s m below meth c hx hb hr hml hts hown hlocks htab hP hK hEx A hA hD ls hl
  have hS : va_S A s.heap s.heap [] := va_S.rf
  generalize hargs : ([.ref q0, .int y, .int x, .ref o] : List Value).toArray = args at hts ⊢
  obtain ⟨Q, hQ⟩ : ∃ Q9, Q9 = MQ below (xMQ γ (List.map Prod.fst ([xO q0 2 [.ref q1, .ref q4, .int (nI kc), .int td, .ref q2, .ref q3], xO q1 0 [.ref a1, .int (nI n)], xA γ a1 12 f, xL γ o 1 h])) A (fun r9 w9 => r9 = some (.int 1) ∧ w9 = [xO q0 2 [.ref q1, .ref q4, .int (nI kc), .int td, .ref q2, .ref q3], xO q1 0 [.ref a1, .int (nI n)], xA γ a1 12 f, xL γ o 1 h])) args s 1 6 A := ⟨_, rfl⟩
  rw [← hQ]
  have hown : s.vm.findClass RL = some m.cls := hown
  have hl : lv_has ls 5 [(0, .ref q0), (1, .int y), (2, .int x), (3, .ref o)] := hl
  refine lv_aload_n hx hb dL_spreadWith_0 rfl (lv_at hl 3 rfl) ?_
  refine lv_iconst (v := 0) hx hb dL_spreadWith_1 (by decide) ?_
  refine lv_aload_n hx hb dL_spreadWith_2 rfl (lv_at hl 0 rfl) ?_
  refine lv_iload_n hx hb dL_spreadWith_3 rfl (lv_at hl 1 rfl) ?_
  refine lv_iload_n hx hb dL_spreadWith_4 rfl (lv_at hl 2 rfl) ?_
  refine xXV (q0 := 0) (ci := 2) (As := [.int y, .int x]) (rest := [.int 0, .ref o]) ⟨hx, hb, hml, hown, hts⟩ (c_X2_spreadWith_x1 γ l hlt sa q0 q1 q2 q3 q4 kc td a1 n f y x hn0 hn1 hxb) (cwV 2 hts gL_spreadWith_X2_spreadWith rfl rfl rfl hdv_X2_spreadWith ⟨(Nat.le_of_ble_eq_true rfl), (Nat.le_of_ble_eq_true rfl)⟩) hK hP (fun U hU hW => hEx.1.warm hW hU) [0, 1, 2] rfl rfl rfl rfl hl.1 rfl (Nat.le_of_ble_eq_true rfl) dL_spreadWith_5 ⟨(Nat.le_of_ble_eq_true rfl), (Nat.le_of_ble_eq_true rfl)⟩ (fun H1 ce9 q9 hz9 hk9 hce hcv hcl => ?_)
  refine vx_catch (E := "java/lang/IndexOutOfBoundsException") (name := "java/lang/IndexOutOfBoundsException") (pc := 5) hown [] ⟨0, 10, 13, 19⟩ [⟨0, 10, 17, 13⟩] (htab.trans rfl) (fun _ h => nomatch h) rfl (by decide) (hts _ wdL_spreadWith_h19) (va_Nw.use rfl hEx.1.1.1) hce hcv hcl ?_
  refine W.eq (g2 := F0 m 13 ls [.ref q9]) rfl ?_
  have hP := xkept hP hk9
  have hS : va_S A s.heap H1 [] := ⟨hz9, fun q h _ => hk9 q h, fun _ h => by cases h⟩
  refine lv_astore (lv' := [(4, .ref q9), (0, .ref q0), (1, .int y), (2, .int x), (3, .ref o)]) hx hb dL_spreadWith_13 hl (by decide) rfl (fun ls hl => ?_)
  refine lv_iconst (v := 1) hx hb dL_spreadWith_15 (by decide) ?_
  subst hQ
  exact xM_i hx hb hr hlocks dL_spreadWith_16 hP rfl hS (Nat.le_of_ble_eq_true rfl) (Nat.le_of_ble_eq_true rfl) (⟨rfl, rfl⟩)

theorem wdL_spreadWith_h13 : Cond.classLink RL 13 "java/lang/IllegalArgumentException" ∈ wsL_spreadWith := by decide +kernel
set_option maxHeartbeats 4000000 in
set_option maxRecDepth 100000 in
theorem c_L_spreadWith_x2 (γ : xG) (l : Launch) (hlt : l.stackTraces = false) (sa : Nat → Nat) (q0 q1 q2 q3 q4 kc : Nat) (td : Int32) (a1 n : Nat) (f : xRow) (k : Nat) (x : Int32) (hn0 : 3 ≤ n) (hn1 : n ≤ 12) (hk : k < n) (hxb : xInB x (-50) 50 = false) (o : Nat) (h : Nat → Int64) : xME γ l yL_spreadWith wsL_spreadWith ({ frames := 8, cells := 1, slots := 6, locals := 125 } : Room) [.ref q0, .int (nI k), .int x, .ref o] (xW1 sa) ([xO q0 2 [.ref q1, .ref q4, .int (nI kc), .int td, .ref q2, .ref q3], xO q1 0 [.ref a1, .int (nI n)], xA γ a1 12 f, xL γ o 1 h]) (fun r9 w9 => r9 = some (.int 2) ∧ w9 = [xO q0 2 [.ref q1, .ref q4, .int (nI kc), .int td, .ref q2, .ref q3], xO q1 0 [.ref a1, .int (nI n)], xA γ a1 12 f, xL γ o 1 h]) 1 6 := by
  refine xME.ofH (cc := cL_spreadWith) (maxL := 5) (ret := (some .int)) (hh := [(0, 10, 13, 19), (0, 10, 17, 13)]) (by decide +kernel) rfl (Nat.le_of_ble_eq_true rfl) ?_
  intro p e s m below meth c hx hb hr hml hts hown hlocks htab hP hK hEx A hA hD ls hl
  have hS : va_S A s.heap s.heap [] := va_S.rf
  generalize hargs : ([.ref q0, .int (nI k), .int x, .ref o] : List Value).toArray = args at hts ⊢
  obtain ⟨Q, hQ⟩ : ∃ Q9, Q9 = MQ below (xMQ γ (List.map Prod.fst ([xO q0 2 [.ref q1, .ref q4, .int (nI kc), .int td, .ref q2, .ref q3], xO q1 0 [.ref a1, .int (nI n)], xA γ a1 12 f, xL γ o 1 h])) A (fun r9 w9 => r9 = some (.int 2) ∧ w9 = [xO q0 2 [.ref q1, .ref q4, .int (nI kc), .int td, .ref q2, .ref q3], xO q1 0 [.ref a1, .int (nI n)], xA γ a1 12 f, xL γ o 1 h])) args s 1 6 A := ⟨_, rfl⟩
  rw [← hQ]
  have hown : s.vm.findClass RL = some m.cls := hown
  have hl : lv_has ls 5 [(0, .ref q0), (1, .int (nI k)), (2, .int x), (3, .ref o)] := hl
  refine lv_aload_n hx hb dL_spreadWith_0 rfl (lv_at hl 3 rfl) ?_
  refine lv_iconst (v := 0) hx hb dL_spreadWith_1 (by decide) ?_
  refine lv_aload_n hx hb dL_spreadWith_2 rfl (lv_at hl 0 rfl) ?_
  refine lv_iload_n hx hb dL_spreadWith_3 rfl (lv_at hl 1 rfl) ?_
  refine lv_iload_n hx hb dL_spreadWith_4 rfl (lv_at hl 2 rfl) ?_
  refine xXV (q0 := 0) (ci := 2) (As := [.int (nI k), .int x]) (rest := [.int 0, .ref o]) ⟨hx, hb, hml, hown, hts⟩ (c_X2_spreadWith_x2 γ l hlt sa q0 q1 q2 q3 q4 kc td a1 n f k x hn0 hn1 hk hxb) (cwV 2 hts gL_spreadWith_X2_spreadWith rfl rfl rfl hdv_X2_spreadWith ⟨(Nat.le_of_ble_eq_true rfl), (Nat.le_of_ble_eq_true rfl)⟩) hK hP (fun U hU hW => hEx.1.warm hW hU) [0, 1, 2] rfl rfl rfl rfl hl.1 rfl (Nat.le_of_ble_eq_true rfl) dL_spreadWith_5 ⟨(Nat.le_of_ble_eq_true rfl), (Nat.le_of_ble_eq_true rfl)⟩ (fun H1 ce9 q9 hz9 hk9 hce hcv hcl => ?_)
  refine vx_catch (E := "java/lang/IllegalArgumentException") (name := "java/lang/IllegalArgumentException") (pc := 5) hown [⟨0, 10, 13, 19⟩] ⟨0, 10, 17, 13⟩ [] (htab.trans rfl) (fun z hz => Or.inr (by rw [List.mem_singleton.mp hz]; exact ⟨by decide, "java/lang/IndexOutOfBoundsException", hts _ wdL_spreadWith_h19, hEx.2.1⟩)) rfl (by decide) (hts _ wdL_spreadWith_h13) (va_Nw.use rfl hEx.1.1.2.1) hce hcv hcl ?_
  refine W.eq (g2 := F0 m 17 ls [.ref q9]) rfl ?_
  have hP := xkept hP hk9
  have hS : va_S A s.heap H1 [] := ⟨hz9, fun q h _ => hk9 q h, fun _ h => by cases h⟩
  refine lv_astore (lv' := [(4, .ref q9), (0, .ref q0), (1, .int (nI k)), (2, .int x), (3, .ref o)]) hx hb dL_spreadWith_17 hl (by decide) rfl (fun ls hl => ?_)
  refine lv_iconst (v := 2) hx hb dL_spreadWith_19 (by decide) ?_
  subst hQ
  exact xM_i hx hb hr hlocks dL_spreadWith_20 hP rfl hS (Nat.le_of_ble_eq_true rfl) (Nat.le_of_ble_eq_true rfl) (⟨rfl, rfl⟩)

theorem wdL_numberAt_h19 : Cond.classLink RL 19 "java/lang/IndexOutOfBoundsException" ∈ wsL_numberAt := by decide +kernel
set_option maxHeartbeats 4000000 in
set_option maxRecDepth 100000 in
theorem c_L_numberAt_x (γ : xG) (l : Launch) (hlt : l.stackTraces = false) (sa : Nat → Nat) (q0 q1 q2 q3 q4 kc : Nat) (td : Int32) (a1 n : Nat) (f : xRow) (x : Int32) (hn0 : 3 ≤ n) (hn1 : n ≤ 12) (hxb : xInB x 0 (nI n - 1) = false) (o : Nat) (h : Nat → Int64) : xME γ l yL_numberAt wsL_numberAt ({ frames := 8, cells := 1, slots := 6, locals := 124 } : Room) [.ref q0, .int x, .ref o] (xW1 sa) ([xO q0 2 [.ref q1, .ref q4, .int (nI kc), .int td, .ref q2, .ref q3], xO q1 0 [.ref a1, .int (nI n)], xA γ a1 12 f, xL γ o 1 h]) (fun r9 w9 => r9 = some (.int 1) ∧ w9 = [xO q0 2 [.ref q1, .ref q4, .int (nI kc), .int td, .ref q2, .ref q3], xO q1 0 [.ref a1, .int (nI n)], xA γ a1 12 f, xL γ o 1 h]) 1 6 := by
  refine xME.ofH (cc := cL_numberAt) (maxL := 4) (ret := (some .int)) (hh := [(0, 9, 12, 19)]) (by decide +kernel) rfl (Nat.le_of_ble_eq_true rfl) ?_
  intro p e s m below meth c hx hb hr hml hts hown hlocks htab hP hK hEx A hA hD ls hl
  have hS : va_S A s.heap s.heap [] := va_S.rf
  generalize hargs : ([.ref q0, .int x, .ref o] : List Value).toArray = args at hts ⊢
  obtain ⟨Q, hQ⟩ : ∃ Q9, Q9 = MQ below (xMQ γ (List.map Prod.fst ([xO q0 2 [.ref q1, .ref q4, .int (nI kc), .int td, .ref q2, .ref q3], xO q1 0 [.ref a1, .int (nI n)], xA γ a1 12 f, xL γ o 1 h])) A (fun r9 w9 => r9 = some (.int 1) ∧ w9 = [xO q0 2 [.ref q1, .ref q4, .int (nI kc), .int td, .ref q2, .ref q3], xO q1 0 [.ref a1, .int (nI n)], xA γ a1 12 f, xL γ o 1 h])) args s 1 6 A := ⟨_, rfl⟩
  rw [← hQ]
  have hown : s.vm.findClass RL = some m.cls := hown
  have hl : lv_has ls 4 [(0, .ref q0), (1, .int x), (2, .ref o)] := hl
  refine lv_aload_n hx hb dL_numberAt_0 rfl (lv_at hl 2 rfl) ?_
  refine lv_iconst (v := 0) hx hb dL_numberAt_1 (by decide) ?_
  refine lv_aload_n hx hb dL_numberAt_2 rfl (lv_at hl 0 rfl) ?_
  refine lv_iload_n hx hb dL_numberAt_3 rfl (lv_at hl 1 rfl) ?_
  refine xXV (q0 := 0) (ci := 2) (As := [.int x]) (rest := [.int 0, .ref o]) ⟨hx, hb, hml, hown, hts⟩ (c_X2_numberAt_x γ l hlt sa q0 q1 q2 q3 q4 kc td a1 n f x hn0 hn1 hxb) (cwV 1 hts gL_numberAt_X2_numberAt rfl rfl rfl hdv_X2_numberAt ⟨(Nat.le_of_ble_eq_true rfl), (Nat.le_of_ble_eq_true rfl)⟩) hK hP (fun U hU hW => hEx.1.warm hW hU) [0, 1, 2] rfl rfl rfl rfl hl.1 rfl (Nat.le_of_ble_eq_true rfl) dL_numberAt_4 ⟨(Nat.le_of_ble_eq_true rfl), (Nat.le_of_ble_eq_true rfl)⟩ (fun H1 ce9 q9 hz9 hk9 hce hcv hcl => ?_)
  refine vx_catch (E := "java/lang/IndexOutOfBoundsException") (name := "java/lang/IndexOutOfBoundsException") (pc := 4) hown [] ⟨0, 9, 12, 19⟩ [] (htab.trans rfl) (fun _ h => nomatch h) rfl (by decide) (hts _ wdL_numberAt_h19) (va_Nw.use rfl hEx.1.1.1) hce hcv hcl ?_
  refine W.eq (g2 := F0 m 12 ls [.ref q9]) rfl ?_
  have hP := xkept hP hk9
  have hS : va_S A s.heap H1 [] := ⟨hz9, fun q h _ => hk9 q h, fun _ h => by cases h⟩
  refine lv_astore_n (lv' := [(3, .ref q9), (0, .ref q0), (1, .int x), (2, .ref o)]) hx hb dL_numberAt_12 rfl hl (by decide) rfl (fun ls hl => ?_)
  refine lv_iconst (v := 1) hx hb dL_numberAt_13 (by decide) ?_
  subst hQ
  exact xM_i hx hb hr hlocks dL_numberAt_14 hP rfl hS (Nat.le_of_ble_eq_true rfl) (Nat.le_of_ble_eq_true rfl) (⟨rfl, rfl⟩)

theorem wdL_isSteep_h19 : Cond.classLink RL 19 "java/lang/IndexOutOfBoundsException" ∈ wsL_isSteep := by decide +kernel
set_option maxHeartbeats 4000000 in
set_option maxRecDepth 100000 in
theorem c_L_isSteep_x (γ : xG) (l : Launch) (hlt : l.stackTraces = false) (sa : Nat → Nat) (q0 q1 q2 q3 q4 kc : Nat) (td : Int32) (a1 n : Nat) (f : xRow) (x : Int32) (hn0 : 3 ≤ n) (hn1 : n ≤ 12) (hxb : xInB x 0 (nI n - 1) = false) (o : Nat) (h : Nat → Int64) : xME γ l yL_isSteep wsL_isSteep ({ frames := 8, cells := 1, slots := 6, locals := 124 } : Room) [.ref q0, .int x, .ref o] (xW1 sa) ([xO q0 2 [.ref q1, .ref q4, .int (nI kc), .int td, .ref q2, .ref q3], xO q1 0 [.ref a1, .int (nI n)], xA γ a1 12 f, xL γ o 1 h]) (fun r9 w9 => r9 = some (.int 1) ∧ w9 = [xO q0 2 [.ref q1, .ref q4, .int (nI kc), .int td, .ref q2, .ref q3], xO q1 0 [.ref a1, .int (nI n)], xA γ a1 12 f, xL γ o 1 h]) 1 6 := by
  refine xME.ofH (cc := cL_isSteep) (maxL := 4) (ret := (some .int)) (hh := [(0, 16, 19, 19)]) (by decide +kernel) rfl (Nat.le_of_ble_eq_true rfl) ?_
  intro p e s m below meth c hx hb hr hml hts hown hlocks htab hP hK hEx A hA hD ls hl
  have hS : va_S A s.heap s.heap [] := va_S.rf
  generalize hargs : ([.ref q0, .int x, .ref o] : List Value).toArray = args at hts ⊢
  obtain ⟨Q, hQ⟩ : ∃ Q9, Q9 = MQ below (xMQ γ (List.map Prod.fst ([xO q0 2 [.ref q1, .ref q4, .int (nI kc), .int td, .ref q2, .ref q3], xO q1 0 [.ref a1, .int (nI n)], xA γ a1 12 f, xL γ o 1 h])) A (fun r9 w9 => r9 = some (.int 1) ∧ w9 = [xO q0 2 [.ref q1, .ref q4, .int (nI kc), .int td, .ref q2, .ref q3], xO q1 0 [.ref a1, .int (nI n)], xA γ a1 12 f, xL γ o 1 h])) args s 1 6 A := ⟨_, rfl⟩
  rw [← hQ]
  have hown : s.vm.findClass RL = some m.cls := hown
  have hl : lv_has ls 4 [(0, .ref q0), (1, .int x), (2, .ref o)] := hl
  refine lv_aload_n hx hb dL_isSteep_0 rfl (lv_at hl 2 rfl) ?_
  refine lv_iconst (v := 0) hx hb dL_isSteep_1 (by decide) ?_
  refine lv_aload_n hx hb dL_isSteep_2 rfl (lv_at hl 0 rfl) ?_
  refine lv_iload_n hx hb dL_isSteep_3 rfl (lv_at hl 1 rfl) ?_
  refine xXV (q0 := 0) (ci := 2) (As := [.int x]) (rest := [.int 0, .ref o]) ⟨hx, hb, hml, hown, hts⟩ (c_X2_isSteep_x γ l hlt sa q0 q1 q2 q3 q4 kc td a1 n f x hn0 hn1 hxb) (cwV 1 hts gL_isSteep_X2_isSteep rfl rfl rfl hdv_X2_isSteep ⟨(Nat.le_of_ble_eq_true rfl), (Nat.le_of_ble_eq_true rfl)⟩) hK hP (fun U hU hW => hEx.1.warm hW hU) [0, 1, 2] rfl rfl rfl rfl hl.1 rfl (Nat.le_of_ble_eq_true rfl) dL_isSteep_4 ⟨(Nat.le_of_ble_eq_true rfl), (Nat.le_of_ble_eq_true rfl)⟩ (fun H1 ce9 q9 hz9 hk9 hce hcv hcl => ?_)
  refine vx_catch (E := "java/lang/IndexOutOfBoundsException") (name := "java/lang/IndexOutOfBoundsException") (pc := 4) hown [] ⟨0, 16, 19, 19⟩ [] (htab.trans rfl) (fun _ h => nomatch h) rfl (by decide) (hts _ wdL_isSteep_h19) (va_Nw.use rfl hEx.1.1.1) hce hcv hcl ?_
  refine W.eq (g2 := F0 m 19 ls [.ref q9]) rfl ?_
  have hP := xkept hP hk9
  have hS : va_S A s.heap H1 [] := ⟨hz9, fun q h _ => hk9 q h, fun _ h => by cases h⟩
  refine lv_astore_n (lv' := [(3, .ref q9), (0, .ref q0), (1, .int x), (2, .ref o)]) hx hb dL_isSteep_19 rfl hl (by decide) rfl (fun ls hl => ?_)
  refine lv_iconst (v := 1) hx hb dL_isSteep_20 (by decide) ?_
  subst hQ
  exact xM_i hx hb hr hlocks dL_isSteep_21 hP rfl hS (Nat.le_of_ble_eq_true rfl) (Nat.le_of_ble_eq_true rfl) (⟨rfl, rfl⟩)

theorem wdL_tilt_h19 : Cond.classLink RL 19 "java/lang/IndexOutOfBoundsException" ∈ wsL_tilt := by decide +kernel
set_option maxHeartbeats 4000000 in
set_option maxRecDepth 100000 in
theorem c_L_tilt_x (γ : xG) (l : Launch) (hlt : l.stackTraces = false) (sa : Nat → Nat) (q0 q1 q2 q3 q4 kc : Nat) (td : Int32) (a1 n : Nat) (f : xRow) (x : Int32) (hn0 : 3 ≤ n) (hn1 : n ≤ 12) (hxb : xInB x 0 (nI n - 1) = false) (o : Nat) (h : Nat → Int64) : xME γ l yL_tilt wsL_tilt ({ frames := 8, cells := 1, slots := 6, locals := 124 } : Room) [.ref q0, .int x, .ref o] (xW1 sa) ([xO q0 2 [.ref q1, .ref q4, .int (nI kc), .int td, .ref q2, .ref q3], xO q1 0 [.ref a1, .int (nI n)], xA γ a1 12 f, xL γ o 1 h]) (fun r9 w9 => r9 = some (.int 1) ∧ w9 = [xO q0 2 [.ref q1, .ref q4, .int (nI kc), .int td, .ref q2, .ref q3], xO q1 0 [.ref a1, .int (nI n)], xA γ a1 12 f, xL γ o 1 h]) 1 6 := by
  refine xME.ofH (cc := cL_tilt) (maxL := 4) (ret := (some .int)) (hh := [(0, 9, 12, 19)]) (by decide +kernel) rfl (Nat.le_of_ble_eq_true rfl) ?_
  intro p e s m below meth c hx hb hr hml hts hown hlocks htab hP hK hEx A hA hD ls hl
  have hS : va_S A s.heap s.heap [] := va_S.rf
  generalize hargs : ([.ref q0, .int x, .ref o] : List Value).toArray = args at hts ⊢
  obtain ⟨Q, hQ⟩ : ∃ Q9, Q9 = MQ below (xMQ γ (List.map Prod.fst ([xO q0 2 [.ref q1, .ref q4, .int (nI kc), .int td, .ref q2, .ref q3], xO q1 0 [.ref a1, .int (nI n)], xA γ a1 12 f, xL γ o 1 h])) A (fun r9 w9 => r9 = some (.int 1) ∧ w9 = [xO q0 2 [.ref q1, .ref q4, .int (nI kc), .int td, .ref q2, .ref q3], xO q1 0 [.ref a1, .int (nI n)], xA γ a1 12 f, xL γ o 1 h])) args s 1 6 A := ⟨_, rfl⟩
  rw [← hQ]
  have hown : s.vm.findClass RL = some m.cls := hown
  have hl : lv_has ls 4 [(0, .ref q0), (1, .int x), (2, .ref o)] := hl
  refine lv_aload_n hx hb dL_tilt_0 rfl (lv_at hl 2 rfl) ?_
  refine lv_iconst (v := 0) hx hb dL_tilt_1 (by decide) ?_
  refine lv_aload_n hx hb dL_tilt_2 rfl (lv_at hl 0 rfl) ?_
  refine lv_iload_n hx hb dL_tilt_3 rfl (lv_at hl 1 rfl) ?_
  refine xXV (q0 := 0) (ci := 2) (As := [.int x]) (rest := [.int 0, .ref o]) ⟨hx, hb, hml, hown, hts⟩ (c_X2_tilt_x γ l hlt sa q0 q1 q2 q3 q4 kc td a1 n f x hn0 hn1 hxb) (cwV 1 hts gL_tilt_X2_tilt rfl rfl rfl hdv_X2_tilt ⟨(Nat.le_of_ble_eq_true rfl), (Nat.le_of_ble_eq_true rfl)⟩) hK hP (fun U hU hW => hEx.1.warm hW hU) [0, 1, 2] rfl rfl rfl rfl hl.1 rfl (Nat.le_of_ble_eq_true rfl) dL_tilt_4 ⟨(Nat.le_of_ble_eq_true rfl), (Nat.le_of_ble_eq_true rfl)⟩ (fun H1 ce9 q9 hz9 hk9 hce hcv hcl => ?_)
  refine vx_catch (E := "java/lang/IndexOutOfBoundsException") (name := "java/lang/IndexOutOfBoundsException") (pc := 4) hown [] ⟨0, 9, 12, 19⟩ [] (htab.trans rfl) (fun _ h => nomatch h) rfl (by decide) (hts _ wdL_tilt_h19) (va_Nw.use rfl hEx.1.1.1) hce hcv hcl ?_
  refine W.eq (g2 := F0 m 12 ls [.ref q9]) rfl ?_
  have hP := xkept hP hk9
  have hS : va_S A s.heap H1 [] := ⟨hz9, fun q h _ => hk9 q h, fun _ h => by cases h⟩
  refine lv_astore_n (lv' := [(3, .ref q9), (0, .ref q0), (1, .int x), (2, .ref o)]) hx hb dL_tilt_12 rfl hl (by decide) rfl (fun ls hl => ?_)
  refine lv_iconst (v := 1) hx hb dL_tilt_13 (by decide) ?_
  subst hQ
  exact xM_i hx hb hr hlocks dL_tilt_14 hP rfl hS (Nat.le_of_ble_eq_true rfl) (Nat.le_of_ble_eq_true rfl) (⟨rfl, rfl⟩)

theorem wdL_differences_h19 : Cond.classLink RL 19 "java/lang/IndexOutOfBoundsException" ∈ wsL_differences := by decide +kernel
set_option maxHeartbeats 4000000 in
set_option maxRecDepth 100000 in
theorem c_L_differences_x (γ : xG) (l : Launch) (hlt : l.stackTraces = false) (sa : Nat → Nat) (q0 q1 q2 q3 q4 kc : Nat) (td : Int32) (kq : Nat → Nat) (x : Int32) (hkc : kc ≤ 6) (hxb : xInB x 0 (nI kc - 1) = false) (o : Nat) (h : Nat → Int64) : xME γ l yL_differences wsL_differences ({ frames := 8, cells := 1, slots := 6, locals := 125 } : Room) [.ref q0, .int x, .ref o] (xW1 sa) ([xO q0 2 [.ref q1, .ref q4, .int (nI kc), .int td, .ref q2, .ref q3], xQ γ q4 6 (fun t9 => some (kq t9)), xL γ o 1 h]) (fun r9 w9 => r9 = some (.int 1) ∧ w9 = [xO q0 2 [.ref q1, .ref q4, .int (nI kc), .int td, .ref q2, .ref q3], xQ γ q4 6 (fun t9 => some (kq t9)), xL γ o 1 h]) 1 6 := by
  refine xME.ofH (cc := cL_differences) (maxL := 4) (ret := (some .int)) (hh := [(0, 9, 12, 19)]) (by decide +kernel) rfl (Nat.le_of_ble_eq_true rfl) ?_
  intro p e s m below meth c hx hb hr hml hts hown hlocks htab hP hK hEx A hA hD ls hl
  have hS : va_S A s.heap s.heap [] := va_S.rf
  generalize hargs : ([.ref q0, .int x, .ref o] : List Value).toArray = args at hts ⊢
  obtain ⟨Q, hQ⟩ : ∃ Q9, Q9 = MQ below (xMQ γ (List.map Prod.fst ([xO q0 2 [.ref q1, .ref q4, .int (nI kc), .int td, .ref q2, .ref q3], xQ γ q4 6 (fun t9 => some (kq t9)), xL γ o 1 h])) A (fun r9 w9 => r9 = some (.int 1) ∧ w9 = [xO q0 2 [.ref q1, .ref q4, .int (nI kc), .int td, .ref q2, .ref q3], xQ γ q4 6 (fun t9 => some (kq t9)), xL γ o 1 h])) args s 1 6 A := ⟨_, rfl⟩
  rw [← hQ]
  have hown : s.vm.findClass RL = some m.cls := hown
  have hl : lv_has ls 4 [(0, .ref q0), (1, .int x), (2, .ref o)] := hl
  refine lv_aload_n hx hb dL_differences_0 rfl (lv_at hl 2 rfl) ?_
  refine lv_iconst (v := 0) hx hb dL_differences_1 (by decide) ?_
  refine lv_aload_n hx hb dL_differences_2 rfl (lv_at hl 0 rfl) ?_
  refine lv_iload_n hx hb dL_differences_3 rfl (lv_at hl 1 rfl) ?_
  refine xXV (q0 := 0) (ci := 2) (As := [.int x]) (rest := [.int 0, .ref o]) ⟨hx, hb, hml, hown, hts⟩ (c_X2_differences_x γ l hlt sa q0 q1 q2 q3 q4 kc td kq x hkc hxb) (cwV 1 hts gL_differences_X2_differences rfl rfl rfl hdv_X2_differences ⟨(Nat.le_of_ble_eq_true rfl), (Nat.le_of_ble_eq_true rfl)⟩) hK hP (fun U hU hW => hEx.1.warm hW hU) [0, 1] rfl rfl rfl rfl hl.1 rfl (Nat.le_of_ble_eq_true rfl) dL_differences_4 ⟨(Nat.le_of_ble_eq_true rfl), (Nat.le_of_ble_eq_true rfl)⟩ (fun H1 ce9 q9 hz9 hk9 hce hcv hcl => ?_)
  refine vx_catch (E := "java/lang/IndexOutOfBoundsException") (name := "java/lang/IndexOutOfBoundsException") (pc := 4) hown [] ⟨0, 9, 12, 19⟩ [] (htab.trans rfl) (fun _ h => nomatch h) rfl (by decide) (hts _ wdL_differences_h19) (va_Nw.use rfl hEx.1.1.1) hce hcv hcl ?_
  refine W.eq (g2 := F0 m 12 ls [.ref q9]) rfl ?_
  have hP := xkept hP hk9
  have hS : va_S A s.heap H1 [] := ⟨hz9, fun q h _ => hk9 q h, fun _ h => by cases h⟩
  refine lv_astore_n (lv' := [(3, .ref q9), (0, .ref q0), (1, .int x), (2, .ref o)]) hx hb dL_differences_12 rfl hl (by decide) rfl (fun ls hl => ?_)
  refine lv_iconst (v := 1) hx hb dL_differences_13 (by decide) ?_
  subst hQ
  exact xM_i hx hb hr hlocks dL_differences_14 hP rfl hS (Nat.le_of_ble_eq_true rfl) (Nat.le_of_ble_eq_true rfl) (⟨rfl, rfl⟩)

theorem wdL_canReach_h19 : Cond.classLink RL 19 "java/lang/IndexOutOfBoundsException" ∈ wsL_canReach := by decide +kernel
set_option maxHeartbeats 4000000 in
set_option maxRecDepth 100000 in
theorem c_L_canReach_x (γ : xG) (l : Launch) (hlt : l.stackTraces = false) (sa : Nat → Nat) (q0 q1 q2 q3 q4 kc : Nat) (td : Int32) (kq : Nat → Nat) (x : Int32) (hkc : kc ≤ 6) (hxb : xInB x 0 (nI kc - 1) = false) (o : Nat) (h : Nat → Int64) : xME γ l yL_canReach wsL_canReach ({ frames := 8, cells := 1, slots := 6, locals := 125 } : Room) [.ref q0, .int x, .ref o] (xW1 sa) ([xO q0 2 [.ref q1, .ref q4, .int (nI kc), .int td, .ref q2, .ref q3], xQ γ q4 6 (fun t9 => some (kq t9)), xL γ o 1 h]) (fun r9 w9 => r9 = some (.int 1) ∧ w9 = [xO q0 2 [.ref q1, .ref q4, .int (nI kc), .int td, .ref q2, .ref q3], xQ γ q4 6 (fun t9 => some (kq t9)), xL γ o 1 h]) 1 6 := by
  refine xME.ofH (cc := cL_canReach) (maxL := 4) (ret := (some .int)) (hh := [(0, 16, 19, 19)]) (by decide +kernel) rfl (Nat.le_of_ble_eq_true rfl) ?_
  intro p e s m below meth c hx hb hr hml hts hown hlocks htab hP hK hEx A hA hD ls hl
  have hS : va_S A s.heap s.heap [] := va_S.rf
  generalize hargs : ([.ref q0, .int x, .ref o] : List Value).toArray = args at hts ⊢
  obtain ⟨Q, hQ⟩ : ∃ Q9, Q9 = MQ below (xMQ γ (List.map Prod.fst ([xO q0 2 [.ref q1, .ref q4, .int (nI kc), .int td, .ref q2, .ref q3], xQ γ q4 6 (fun t9 => some (kq t9)), xL γ o 1 h])) A (fun r9 w9 => r9 = some (.int 1) ∧ w9 = [xO q0 2 [.ref q1, .ref q4, .int (nI kc), .int td, .ref q2, .ref q3], xQ γ q4 6 (fun t9 => some (kq t9)), xL γ o 1 h])) args s 1 6 A := ⟨_, rfl⟩
  rw [← hQ]
  have hown : s.vm.findClass RL = some m.cls := hown
  have hl : lv_has ls 4 [(0, .ref q0), (1, .int x), (2, .ref o)] := hl
  refine lv_aload_n hx hb dL_canReach_0 rfl (lv_at hl 2 rfl) ?_
  refine lv_iconst (v := 0) hx hb dL_canReach_1 (by decide) ?_
  refine lv_aload_n hx hb dL_canReach_2 rfl (lv_at hl 0 rfl) ?_
  refine lv_iload_n hx hb dL_canReach_3 rfl (lv_at hl 1 rfl) ?_
  refine xXV (q0 := 0) (ci := 2) (As := [.int x]) (rest := [.int 0, .ref o]) ⟨hx, hb, hml, hown, hts⟩ (c_X2_canReach_x γ l hlt sa q0 q1 q2 q3 q4 kc td kq x hkc hxb) (cwV 1 hts gL_canReach_X2_canReach rfl rfl rfl hdv_X2_canReach ⟨(Nat.le_of_ble_eq_true rfl), (Nat.le_of_ble_eq_true rfl)⟩) hK hP (fun U hU hW => hEx.1.warm hW hU) [0, 1] rfl rfl rfl rfl hl.1 rfl (Nat.le_of_ble_eq_true rfl) dL_canReach_4 ⟨(Nat.le_of_ble_eq_true rfl), (Nat.le_of_ble_eq_true rfl)⟩ (fun H1 ce9 q9 hz9 hk9 hce hcv hcl => ?_)
  refine vx_catch (E := "java/lang/IndexOutOfBoundsException") (name := "java/lang/IndexOutOfBoundsException") (pc := 4) hown [] ⟨0, 16, 19, 19⟩ [] (htab.trans rfl) (fun _ h => nomatch h) rfl (by decide) (hts _ wdL_canReach_h19) (va_Nw.use rfl hEx.1.1.1) hce hcv hcl ?_
  refine W.eq (g2 := F0 m 19 ls [.ref q9]) rfl ?_
  have hP := xkept hP hk9
  have hS : va_S A s.heap H1 [] := ⟨hz9, fun q h _ => hk9 q h, fun _ h => by cases h⟩
  refine lv_astore_n (lv' := [(3, .ref q9), (0, .ref q0), (1, .int x), (2, .ref o)]) hx hb dL_canReach_19 rfl hl (by decide) rfl (fun ls hl => ?_)
  refine lv_iconst (v := 1) hx hb dL_canReach_20 (by decide) ?_
  subst hQ
  exact xM_i hx hb hr hlocks dL_canReach_21 hP rfl hS (Nat.le_of_ble_eq_true rfl) (Nat.le_of_ble_eq_true rfl) (⟨rfl, rfl⟩)

theorem wdL_fewestTips_h19 : Cond.classLink RL 19 "java/lang/IndexOutOfBoundsException" ∈ wsL_fewestTips := by decide +kernel
set_option maxHeartbeats 4000000 in
set_option maxRecDepth 100000 in
theorem c_L_fewestTips_x (γ : xG) (l : Launch) (hlt : l.stackTraces = false) (sa : Nat → Nat) (q0 q1 q2 q3 q4 kc : Nat) (td : Int32) (kq : Nat → Nat) (x : Int32) (hkc : kc ≤ 6) (hxb : xInB x 0 (nI kc - 1) = false) (o : Nat) (h : Nat → Int64) : xME γ l yL_fewestTips wsL_fewestTips ({ frames := 8, cells := 1, slots := 6, locals := 125 } : Room) [.ref q0, .int x, .ref o] (xW1 sa) ([xO q0 2 [.ref q1, .ref q4, .int (nI kc), .int td, .ref q2, .ref q3], xQ γ q4 6 (fun t9 => some (kq t9)), xL γ o 1 h]) (fun r9 w9 => r9 = some (.int 1) ∧ w9 = [xO q0 2 [.ref q1, .ref q4, .int (nI kc), .int td, .ref q2, .ref q3], xQ γ q4 6 (fun t9 => some (kq t9)), xL γ o 1 h]) 1 6 := by
  refine xME.ofH (cc := cL_fewestTips) (maxL := 4) (ret := (some .int)) (hh := [(0, 9, 12, 19)]) (by decide +kernel) rfl (Nat.le_of_ble_eq_true rfl) ?_
  intro p e s m below meth c hx hb hr hml hts hown hlocks htab hP hK hEx A hA hD ls hl
  have hS : va_S A s.heap s.heap [] := va_S.rf
  generalize hargs : ([.ref q0, .int x, .ref o] : List Value).toArray = args at hts ⊢
  obtain ⟨Q, hQ⟩ : ∃ Q9, Q9 = MQ below (xMQ γ (List.map Prod.fst ([xO q0 2 [.ref q1, .ref q4, .int (nI kc), .int td, .ref q2, .ref q3], xQ γ q4 6 (fun t9 => some (kq t9)), xL γ o 1 h])) A (fun r9 w9 => r9 = some (.int 1) ∧ w9 = [xO q0 2 [.ref q1, .ref q4, .int (nI kc), .int td, .ref q2, .ref q3], xQ γ q4 6 (fun t9 => some (kq t9)), xL γ o 1 h])) args s 1 6 A := ⟨_, rfl⟩
  rw [← hQ]
  have hown : s.vm.findClass RL = some m.cls := hown
  have hl : lv_has ls 4 [(0, .ref q0), (1, .int x), (2, .ref o)] := hl
  refine lv_aload_n hx hb dL_fewestTips_0 rfl (lv_at hl 2 rfl) ?_
  refine lv_iconst (v := 0) hx hb dL_fewestTips_1 (by decide) ?_
  refine lv_aload_n hx hb dL_fewestTips_2 rfl (lv_at hl 0 rfl) ?_
  refine lv_iload_n hx hb dL_fewestTips_3 rfl (lv_at hl 1 rfl) ?_
  refine xXV (q0 := 0) (ci := 2) (As := [.int x]) (rest := [.int 0, .ref o]) ⟨hx, hb, hml, hown, hts⟩ (c_X2_fewestTips_x γ l hlt sa q0 q1 q2 q3 q4 kc td kq x hkc hxb) (cwV 1 hts gL_fewestTips_X2_fewestTips rfl rfl rfl hdv_X2_fewestTips ⟨(Nat.le_of_ble_eq_true rfl), (Nat.le_of_ble_eq_true rfl)⟩) hK hP (fun U hU hW => hEx.1.warm hW hU) [0, 1] rfl rfl rfl rfl hl.1 rfl (Nat.le_of_ble_eq_true rfl) dL_fewestTips_4 ⟨(Nat.le_of_ble_eq_true rfl), (Nat.le_of_ble_eq_true rfl)⟩ (fun H1 ce9 q9 hz9 hk9 hce hcv hcl => ?_)
  refine vx_catch (E := "java/lang/IndexOutOfBoundsException") (name := "java/lang/IndexOutOfBoundsException") (pc := 4) hown [] ⟨0, 9, 12, 19⟩ [] (htab.trans rfl) (fun _ h => nomatch h) rfl (by decide) (hts _ wdL_fewestTips_h19) (va_Nw.use rfl hEx.1.1.1) hce hcv hcl ?_
  refine W.eq (g2 := F0 m 12 ls [.ref q9]) rfl ?_
  have hP := xkept hP hk9
  have hS : va_S A s.heap H1 [] := ⟨hz9, fun q h _ => hk9 q h, fun _ h => by cases h⟩
  refine lv_astore_n (lv' := [(3, .ref q9), (0, .ref q0), (1, .int x), (2, .ref o)]) hx hb dL_fewestTips_12 rfl hl (by decide) rfl (fun ls hl => ?_)
  refine lv_iconst (v := 1) hx hb dL_fewestTips_13 (by decide) ?_
  subst hQ
  exact xM_i hx hb hr hlocks dL_fewestTips_14 hP rfl hS (Nat.le_of_ble_eq_true rfl) (Nat.le_of_ble_eq_true rfl) (⟨rfl, rfl⟩)

theorem wdL_reach_h19 : Cond.classLink RL 19 "java/lang/IndexOutOfBoundsException" ∈ wsL_reach := by decide +kernel
set_option maxHeartbeats 4000000 in
set_option maxRecDepth 100000 in
theorem c_L_reach_x1 (γ : xG) (l : Launch) (hlt : l.stackTraces = false) (sa : Nat → Nat) (q0 q1 q2 q3 q4 kc : Nat) (td : Int32) (kq : Nat → Nat) (x : Int32) (hkc : kc ≤ 6) (hxb : xInB x 0 (nI kc - 1) = false) (o : Nat) (h : Nat → Int64) : xME γ l yL_reach wsL_reach ({ frames := 8, cells := 1, slots := 6, locals := 127 } : Room) [.ref q0, .int x, .ref o] (xW1 sa) ([xO q0 2 [.ref q1, .ref q4, .int (nI kc), .int td, .ref q2, .ref q3], xQ γ q4 6 (fun t9 => some (kq t9)), xL γ o 1 h]) (fun r9 w9 => r9 = some (.int 1) ∧ w9 = [xO q0 2 [.ref q1, .ref q4, .int (nI kc), .int td, .ref q2, .ref q3], xQ γ q4 6 (fun t9 => some (kq t9)), xL γ o 1 h]) 1 6 := by
  refine xME.ofH (cc := cL_reach) (maxL := 4) (ret := (some .int)) (hh := [(0, 9, 12, 19), (0, 9, 15, 28)]) (by decide +kernel) rfl (Nat.le_of_ble_eq_true rfl) ?_
  intro p e s m below meth c hx hb hr hml hts hown hlocks htab hP hK hEx A hA hD ls hl
  have hS : va_S A s.heap s.heap [] := va_S.rf
  generalize hargs : ([.ref q0, .int x, .ref o] : List Value).toArray = args at hts ⊢
  obtain ⟨Q, hQ⟩ : ∃ Q9, Q9 = MQ below (xMQ γ (List.map Prod.fst ([xO q0 2 [.ref q1, .ref q4, .int (nI kc), .int td, .ref q2, .ref q3], xQ γ q4 6 (fun t9 => some (kq t9)), xL γ o 1 h])) A (fun r9 w9 => r9 = some (.int 1) ∧ w9 = [xO q0 2 [.ref q1, .ref q4, .int (nI kc), .int td, .ref q2, .ref q3], xQ γ q4 6 (fun t9 => some (kq t9)), xL γ o 1 h])) args s 1 6 A := ⟨_, rfl⟩
  rw [← hQ]
  have hown : s.vm.findClass RL = some m.cls := hown
  have hl : lv_has ls 4 [(0, .ref q0), (1, .int x), (2, .ref o)] := hl
  refine lv_aload_n hx hb dL_reach_0 rfl (lv_at hl 2 rfl) ?_
  refine lv_iconst (v := 0) hx hb dL_reach_1 (by decide) ?_
  refine lv_aload_n hx hb dL_reach_2 rfl (lv_at hl 0 rfl) ?_
  refine lv_iload_n hx hb dL_reach_3 rfl (lv_at hl 1 rfl) ?_
  refine xXV (q0 := 0) (ci := 2) (As := [.int x]) (rest := [.int 0, .ref o]) ⟨hx, hb, hml, hown, hts⟩ (c_X2_reach_x1 γ l hlt sa q0 q1 q2 q3 q4 kc td kq x hkc hxb) (cwV 1 hts gL_reach_X2_reach rfl rfl rfl hdv_X2_reach ⟨(Nat.le_of_ble_eq_true rfl), (Nat.le_of_ble_eq_true rfl)⟩) hK hP (fun U hU hW => hEx.1.warm hW hU) [0, 1] rfl rfl rfl rfl hl.1 rfl (Nat.le_of_ble_eq_true rfl) dL_reach_4 ⟨(Nat.le_of_ble_eq_true rfl), (Nat.le_of_ble_eq_true rfl)⟩ (fun H1 ce9 q9 hz9 hk9 hce hcv hcl => ?_)
  refine vx_catch (E := "java/lang/IndexOutOfBoundsException") (name := "java/lang/IndexOutOfBoundsException") (pc := 4) hown [] ⟨0, 9, 12, 19⟩ [⟨0, 9, 15, 28⟩] (htab.trans rfl) (fun _ h => nomatch h) rfl (by decide) (hts _ wdL_reach_h19) (va_Nw.use rfl hEx.1.1.1) hce hcv hcl ?_
  refine W.eq (g2 := F0 m 12 ls [.ref q9]) rfl ?_
  have hP := xkept hP hk9
  have hS : va_S A s.heap H1 [] := ⟨hz9, fun q h _ => hk9 q h, fun _ h => by cases h⟩
  refine lv_astore_n (lv' := [(3, .ref q9), (0, .ref q0), (1, .int x), (2, .ref o)]) hx hb dL_reach_12 rfl hl (by decide) rfl (fun ls hl => ?_)
  refine lv_iconst (v := 1) hx hb dL_reach_13 (by decide) ?_
  subst hQ
  exact xM_i hx hb hr hlocks dL_reach_14 hP rfl hS (Nat.le_of_ble_eq_true rfl) (Nat.le_of_ble_eq_true rfl) (⟨rfl, rfl⟩)

theorem wdL_reach_h28 : Cond.classLink RL 28 "java/lang/IllegalStateException" ∈ wsL_reach := by decide +kernel
set_option maxHeartbeats 4000000 in
set_option maxRecDepth 100000 in
theorem c_L_reach_x2 (γ : xG) (l : Launch) (hlt : l.stackTraces = false) (sa : Nat → Nat) (q0 q1 q2 q3 q4 kc : Nat) (td : Int32) (a1 n : Nat) (f : xRow) (kq ka : Nat → Nat) (kn : Nat → Int32) (ks : Nat → xRow) (k : Nat) (hn0 : 3 ≤ n) (hn1 : n ≤ 12) (hk : k < kc) (hkc : kc ≤ 6) (hcb : xCB n f (ks k) = false) (o : Nat) (h : Nat → Int64) : xME γ l yL_reach wsL_reach ({ frames := 8, cells := 1, slots := 6, locals := 126 } : Room) [.ref q0, .int (nI k), .ref o] (xW1 sa) ([xO (kq k) 0 [.ref (ka k), .int (nI n)], xA γ (ka k) 12 (ks k), xO q0 2 [.ref q1, .ref q4, .int (nI kc), .int td, .ref q2, .ref q3], xO q1 0 [.ref a1, .int (nI n)], xA γ a1 12 f, xQ γ q4 6 (fun t9 => some (kq t9)), xL γ o 1 h]) (fun r9 w9 => r9 = some (.int 2) ∧ w9 = [xO (kq k) 0 [.ref (ka k), .int (nI n)], xA γ (ka k) 12 (ks k), xO q0 2 [.ref q1, .ref q4, .int (nI kc), .int td, .ref q2, .ref q3], xO q1 0 [.ref a1, .int (nI n)], xA γ a1 12 f, xQ γ q4 6 (fun t9 => some (kq t9)), xL γ o 1 h]) 1 6 := by
  refine xME.ofH (cc := cL_reach) (maxL := 4) (ret := (some .int)) (hh := [(0, 9, 12, 19), (0, 9, 15, 28)]) (by decide +kernel) rfl (Nat.le_of_ble_eq_true rfl) ?_
  intro p e s m below meth c hx hb hr hml hts hown hlocks htab hP hK hEx A hA hD ls hl
  have hS : va_S A s.heap s.heap [] := va_S.rf
  generalize hargs : ([.ref q0, .int (nI k), .ref o] : List Value).toArray = args at hts ⊢
  obtain ⟨Q, hQ⟩ : ∃ Q9, Q9 = MQ below (xMQ γ (List.map Prod.fst ([xO (kq k) 0 [.ref (ka k), .int (nI n)], xA γ (ka k) 12 (ks k), xO q0 2 [.ref q1, .ref q4, .int (nI kc), .int td, .ref q2, .ref q3], xO q1 0 [.ref a1, .int (nI n)], xA γ a1 12 f, xQ γ q4 6 (fun t9 => some (kq t9)), xL γ o 1 h])) A (fun r9 w9 => r9 = some (.int 2) ∧ w9 = [xO (kq k) 0 [.ref (ka k), .int (nI n)], xA γ (ka k) 12 (ks k), xO q0 2 [.ref q1, .ref q4, .int (nI kc), .int td, .ref q2, .ref q3], xO q1 0 [.ref a1, .int (nI n)], xA γ a1 12 f, xQ γ q4 6 (fun t9 => some (kq t9)), xL γ o 1 h])) args s 1 6 A := ⟨_, rfl⟩
  rw [← hQ]
  have hown : s.vm.findClass RL = some m.cls := hown
  have hl : lv_has ls 4 [(0, .ref q0), (1, .int (nI k)), (2, .ref o)] := hl
  refine lv_aload_n hx hb dL_reach_0 rfl (lv_at hl 2 rfl) ?_
  refine lv_iconst (v := 0) hx hb dL_reach_1 (by decide) ?_
  refine lv_aload_n hx hb dL_reach_2 rfl (lv_at hl 0 rfl) ?_
  refine lv_iload_n hx hb dL_reach_3 rfl (lv_at hl 1 rfl) ?_
  refine xXV (q0 := 2) (ci := 2) (As := [.int (nI k)]) (rest := [.int 0, .ref o]) ⟨hx, hb, hml, hown, hts⟩ (c_X2_reach_x2 γ l hlt sa q0 q1 q2 q3 q4 kc td a1 n f kq ka kn ks k hn0 hn1 hk hkc hcb) (cwV 1 hts gL_reach_X2_reach rfl rfl rfl hdv_X2_reach ⟨(Nat.le_of_ble_eq_true rfl), (Nat.le_of_ble_eq_true rfl)⟩) hK hP (fun U hU hW => hEx.1.warm hW hU) [2, 3, 4, 5, 0, 1] rfl rfl rfl rfl hl.1 rfl (Nat.le_of_ble_eq_true rfl) dL_reach_4 ⟨(Nat.le_of_ble_eq_true rfl), (Nat.le_of_ble_eq_true rfl)⟩ (fun H1 ce9 q9 hz9 hk9 hce hcv hcl => ?_)
  refine vx_catch (E := "java/lang/IllegalStateException") (name := "java/lang/IllegalStateException") (pc := 4) hown [⟨0, 9, 12, 19⟩] ⟨0, 9, 15, 28⟩ [] (htab.trans rfl) (fun z hz => Or.inr (by rw [List.mem_singleton.mp hz]; exact ⟨by decide, "java/lang/IndexOutOfBoundsException", hts _ wdL_reach_h19, hEx.2.2⟩)) rfl (by decide) (hts _ wdL_reach_h28) (va_Nw.use rfl hEx.1.1.2.2.1) hce hcv hcl ?_
  refine W.eq (g2 := F0 m 15 ls [.ref q9]) rfl ?_
  have hP := xkept hP hk9
  have hS : va_S A s.heap H1 [] := ⟨hz9, fun q h _ => hk9 q h, fun _ h => by cases h⟩
  refine lv_astore_n (lv' := [(3, .ref q9), (0, .ref q0), (1, .int (nI k)), (2, .ref o)]) hx hb dL_reach_15 rfl hl (by decide) rfl (fun ls hl => ?_)
  refine lv_iconst (v := 2) hx hb dL_reach_16 (by decide) ?_
  subst hQ
  exact xM_i hx hb hr hlocks dL_reach_17 hP rfl hS (Nat.le_of_ble_eq_true rfl) (Nat.le_of_ble_eq_true rfl) (⟨rfl, rfl⟩)

theorem wdL_numberIn_h19 : Cond.classLink RL 19 "java/lang/IndexOutOfBoundsException" ∈ wsL_numberIn := by decide +kernel
set_option maxHeartbeats 4000000 in
set_option maxRecDepth 100000 in
theorem c_L_numberIn_x1 (γ : xG) (l : Launch) (hlt : l.stackTraces = false) (sa : Nat → Nat) (q0 q1 q2 q3 q4 kc : Nat) (td : Int32) (kq : Nat → Nat) (y x : Int32) (hkc : kc ≤ 6) (hxb : xInB y 0 (nI kc - 1) = false) (o : Nat) (h : Nat → Int64) : xME γ l yL_numberIn wsL_numberIn ({ frames := 8, cells := 1, slots := 6, locals := 127 } : Room) [.ref q0, .int y, .int x, .ref o] (xW1 sa) ([xO q0 2 [.ref q1, .ref q4, .int (nI kc), .int td, .ref q2, .ref q3], xQ γ q4 6 (fun t9 => some (kq t9)), xL γ o 1 h]) (fun r9 w9 => r9 = some (.int 1) ∧ w9 = [xO q0 2 [.ref q1, .ref q4, .int (nI kc), .int td, .ref q2, .ref q3], xQ γ q4 6 (fun t9 => some (kq t9)), xL γ o 1 h]) 1 6 := by
  refine xME.ofH (cc := cL_numberIn) (maxL := 5) (ret := (some .int)) (hh := [(0, 10, 13, 19)]) (by decide +kernel) rfl (Nat.le_of_ble_eq_true rfl) ?_
  intro p e s m below meth c hx hb hr hml hts hown hlocks htab hP hK hEx A hA hD ls hl
  have hS : va_S A s.heap s.heap [] := va_S.rf
  generalize hargs : ([.ref q0, .int y, .int x, .ref o] : List Value).toArray = args at hts ⊢
  obtain ⟨Q, hQ⟩ : ∃ Q9, Q9 = MQ below (xMQ γ (List.map Prod.fst ([xO q0 2 [.ref q1, .ref q4, .int (nI kc), .int td, .ref q2, .ref q3], xQ γ q4 6 (fun t9 => some (kq t9)), xL γ o 1 h])) A (fun r9 w9 => r9 = some (.int 1) ∧ w9 = [xO q0 2 [.ref q1, .ref q4, .int (nI kc), .int td, .ref q2, .ref q3], xQ γ q4 6 (fun t9 => some (kq t9)), xL γ o 1 h])) args s 1 6 A := ⟨_, rfl⟩
  rw [← hQ]
  have hown : s.vm.findClass RL = some m.cls := hown
  have hl : lv_has ls 5 [(0, .ref q0), (1, .int y), (2, .int x), (3, .ref o)] := hl
  refine lv_aload_n hx hb dL_numberIn_0 rfl (lv_at hl 3 rfl) ?_
  refine lv_iconst (v := 0) hx hb dL_numberIn_1 (by decide) ?_
  refine lv_aload_n hx hb dL_numberIn_2 rfl (lv_at hl 0 rfl) ?_
  refine lv_iload_n hx hb dL_numberIn_3 rfl (lv_at hl 1 rfl) ?_
  refine lv_iload_n hx hb dL_numberIn_4 rfl (lv_at hl 2 rfl) ?_
  refine xXV (q0 := 0) (ci := 2) (As := [.int y, .int x]) (rest := [.int 0, .ref o]) ⟨hx, hb, hml, hown, hts⟩ (c_X2_numberIn_x1 γ l hlt sa q0 q1 q2 q3 q4 kc td kq y x hkc hxb) (cwV 2 hts gL_numberIn_X2_numberIn rfl rfl rfl hdv_X2_numberIn ⟨(Nat.le_of_ble_eq_true rfl), (Nat.le_of_ble_eq_true rfl)⟩) hK hP (fun U hU hW => hEx.1.warm hW hU) [0, 1] rfl rfl rfl rfl hl.1 rfl (Nat.le_of_ble_eq_true rfl) dL_numberIn_5 ⟨(Nat.le_of_ble_eq_true rfl), (Nat.le_of_ble_eq_true rfl)⟩ (fun H1 ce9 q9 hz9 hk9 hce hcv hcl => ?_)
  refine vx_catch (E := "java/lang/IndexOutOfBoundsException") (name := "java/lang/IndexOutOfBoundsException") (pc := 5) hown [] ⟨0, 10, 13, 19⟩ [] (htab.trans rfl) (fun _ h => nomatch h) rfl (by decide) (hts _ wdL_numberIn_h19) (va_Nw.use rfl hEx.1.1.1) hce hcv hcl ?_
  refine W.eq (g2 := F0 m 13 ls [.ref q9]) rfl ?_
  have hP := xkept hP hk9
  have hS : va_S A s.heap H1 [] := ⟨hz9, fun q h _ => hk9 q h, fun _ h => by cases h⟩
  refine lv_astore (lv' := [(4, .ref q9), (0, .ref q0), (1, .int y), (2, .int x), (3, .ref o)]) hx hb dL_numberIn_13 hl (by decide) rfl (fun ls hl => ?_)
  refine lv_iconst (v := 1) hx hb dL_numberIn_15 (by decide) ?_
  subst hQ
  exact xM_i hx hb hr hlocks dL_numberIn_16 hP rfl hS (Nat.le_of_ble_eq_true rfl) (Nat.le_of_ble_eq_true rfl) (⟨rfl, rfl⟩)

set_option maxHeartbeats 4000000 in
set_option maxRecDepth 100000 in
theorem c_L_numberIn_x2 (γ : xG) (l : Launch) (hlt : l.stackTraces = false) (sa : Nat → Nat) (q0 q1 q2 q3 q4 kc : Nat) (td : Int32) (a1 n : Nat) (f : xRow) (kq : Nat → Nat) (k : Nat) (x : Int32) (hn0 : 3 ≤ n) (hn1 : n ≤ 12) (hk : k < kc) (hkc : kc ≤ 6) (hxb : xInB x 0 (nI n - 1) = false) (o : Nat) (h : Nat → Int64) : xME γ l yL_numberIn wsL_numberIn ({ frames := 8, cells := 1, slots := 6, locals := 126 } : Room) [.ref q0, .int (nI k), .int x, .ref o] (xW1 sa) ([xO q0 2 [.ref q1, .ref q4, .int (nI kc), .int td, .ref q2, .ref q3], xO q1 0 [.ref a1, .int (nI n)], xA γ a1 12 f, xQ γ q4 6 (fun t9 => some (kq t9)), xL γ o 1 h]) (fun r9 w9 => r9 = some (.int 1) ∧ w9 = [xO q0 2 [.ref q1, .ref q4, .int (nI kc), .int td, .ref q2, .ref q3], xO q1 0 [.ref a1, .int (nI n)], xA γ a1 12 f, xQ γ q4 6 (fun t9 => some (kq t9)), xL γ o 1 h]) 1 6 := by
  refine xME.ofH (cc := cL_numberIn) (maxL := 5) (ret := (some .int)) (hh := [(0, 10, 13, 19)]) (by decide +kernel) rfl (Nat.le_of_ble_eq_true rfl) ?_
  intro p e s m below meth c hx hb hr hml hts hown hlocks htab hP hK hEx A hA hD ls hl
  have hS : va_S A s.heap s.heap [] := va_S.rf
  generalize hargs : ([.ref q0, .int (nI k), .int x, .ref o] : List Value).toArray = args at hts ⊢
  obtain ⟨Q, hQ⟩ : ∃ Q9, Q9 = MQ below (xMQ γ (List.map Prod.fst ([xO q0 2 [.ref q1, .ref q4, .int (nI kc), .int td, .ref q2, .ref q3], xO q1 0 [.ref a1, .int (nI n)], xA γ a1 12 f, xQ γ q4 6 (fun t9 => some (kq t9)), xL γ o 1 h])) A (fun r9 w9 => r9 = some (.int 1) ∧ w9 = [xO q0 2 [.ref q1, .ref q4, .int (nI kc), .int td, .ref q2, .ref q3], xO q1 0 [.ref a1, .int (nI n)], xA γ a1 12 f, xQ γ q4 6 (fun t9 => some (kq t9)), xL γ o 1 h])) args s 1 6 A := ⟨_, rfl⟩
  rw [← hQ]
  have hown : s.vm.findClass RL = some m.cls := hown
  have hl : lv_has ls 5 [(0, .ref q0), (1, .int (nI k)), (2, .int x), (3, .ref o)] := hl
  refine lv_aload_n hx hb dL_numberIn_0 rfl (lv_at hl 3 rfl) ?_
  refine lv_iconst (v := 0) hx hb dL_numberIn_1 (by decide) ?_
  refine lv_aload_n hx hb dL_numberIn_2 rfl (lv_at hl 0 rfl) ?_
  refine lv_iload_n hx hb dL_numberIn_3 rfl (lv_at hl 1 rfl) ?_
  refine lv_iload_n hx hb dL_numberIn_4 rfl (lv_at hl 2 rfl) ?_
  refine xXV (q0 := 0) (ci := 2) (As := [.int (nI k), .int x]) (rest := [.int 0, .ref o]) ⟨hx, hb, hml, hown, hts⟩ (c_X2_numberIn_x2 γ l hlt sa q0 q1 q2 q3 q4 kc td a1 n f kq k x hn0 hn1 hk hkc hxb) (cwV 2 hts gL_numberIn_X2_numberIn rfl rfl rfl hdv_X2_numberIn ⟨(Nat.le_of_ble_eq_true rfl), (Nat.le_of_ble_eq_true rfl)⟩) hK hP (fun U hU hW => hEx.1.warm hW hU) [0, 1, 2, 3] rfl rfl rfl rfl hl.1 rfl (Nat.le_of_ble_eq_true rfl) dL_numberIn_5 ⟨(Nat.le_of_ble_eq_true rfl), (Nat.le_of_ble_eq_true rfl)⟩ (fun H1 ce9 q9 hz9 hk9 hce hcv hcl => ?_)
  refine vx_catch (E := "java/lang/IndexOutOfBoundsException") (name := "java/lang/IndexOutOfBoundsException") (pc := 5) hown [] ⟨0, 10, 13, 19⟩ [] (htab.trans rfl) (fun _ h => nomatch h) rfl (by decide) (hts _ wdL_numberIn_h19) (va_Nw.use rfl hEx.1.1.1) hce hcv hcl ?_
  refine W.eq (g2 := F0 m 13 ls [.ref q9]) rfl ?_
  have hP := xkept hP hk9
  have hS : va_S A s.heap H1 [] := ⟨hz9, fun q h _ => hk9 q h, fun _ h => by cases h⟩
  refine lv_astore (lv' := [(4, .ref q9), (0, .ref q0), (1, .int (nI k)), (2, .int x), (3, .ref o)]) hx hb dL_numberIn_13 hl (by decide) rfl (fun ls hl => ?_)
  refine lv_iconst (v := 1) hx hb dL_numberIn_15 (by decide) ?_
  subst hQ
  exact xM_i hx hb hr hlocks dL_numberIn_16 hP rfl hS (Nat.le_of_ble_eq_true rfl) (Nat.le_of_ble_eq_true rfl) (⟨rfl, rfl⟩)

theorem wdL_tipsTo_h19 : Cond.classLink RL 19 "java/lang/IndexOutOfBoundsException" ∈ wsL_tipsTo := by decide +kernel
set_option maxHeartbeats 4000000 in
set_option maxRecDepth 100000 in
theorem c_L_tipsTo_x1 (γ : xG) (l : Launch) (hlt : l.stackTraces = false) (sa : Nat → Nat) (q0 q1 q2 q3 q4 kc : Nat) (td : Int32) (kq : Nat → Nat) (y x : Int32) (hkc : kc ≤ 6) (hxb : xInB y 0 (nI kc - 1) = false) (o : Nat) (h : Nat → Int64) : xME γ l yL_tipsTo wsL_tipsTo ({ frames := 8, cells := 1, slots := 6, locals := 127 } : Room) [.ref q0, .int y, .int x, .ref o] (xW1 sa) ([xO q0 2 [.ref q1, .ref q4, .int (nI kc), .int td, .ref q2, .ref q3], xQ γ q4 6 (fun t9 => some (kq t9)), xL γ o 1 h]) (fun r9 w9 => r9 = some (.int 1) ∧ w9 = [xO q0 2 [.ref q1, .ref q4, .int (nI kc), .int td, .ref q2, .ref q3], xQ γ q4 6 (fun t9 => some (kq t9)), xL γ o 1 h]) 1 6 := by
  refine xME.ofH (cc := cL_tipsTo) (maxL := 5) (ret := (some .int)) (hh := [(0, 10, 13, 19), (0, 10, 17, 28)]) (by decide +kernel) rfl (Nat.le_of_ble_eq_true rfl) ?_
  intro p e s m below meth c hx hb hr hml hts hown hlocks htab hP hK hEx A hA hD ls hl
  have hS : va_S A s.heap s.heap [] := va_S.rf
  generalize hargs : ([.ref q0, .int y, .int x, .ref o] : List Value).toArray = args at hts ⊢
  obtain ⟨Q, hQ⟩ : ∃ Q9, Q9 = MQ below (xMQ γ (List.map Prod.fst ([xO q0 2 [.ref q1, .ref q4, .int (nI kc), .int td, .ref q2, .ref q3], xQ γ q4 6 (fun t9 => some (kq t9)), xL γ o 1 h])) A (fun r9 w9 => r9 = some (.int 1) ∧ w9 = [xO q0 2 [.ref q1, .ref q4, .int (nI kc), .int td, .ref q2, .ref q3], xQ γ q4 6 (fun t9 => some (kq t9)), xL γ o 1 h])) args s 1 6 A := ⟨_, rfl⟩
  rw [← hQ]
  have hown : s.vm.findClass RL = some m.cls := hown
  have hl : lv_has ls 5 [(0, .ref q0), (1, .int y), (2, .int x), (3, .ref o)] := hl
  refine lv_aload_n hx hb dL_tipsTo_0 rfl (lv_at hl 3 rfl) ?_
  refine lv_iconst (v := 0) hx hb dL_tipsTo_1 (by decide) ?_
  refine lv_aload_n hx hb dL_tipsTo_2 rfl (lv_at hl 0 rfl) ?_
  refine lv_iload_n hx hb dL_tipsTo_3 rfl (lv_at hl 1 rfl) ?_
  refine lv_iload_n hx hb dL_tipsTo_4 rfl (lv_at hl 2 rfl) ?_
  refine xXV (q0 := 0) (ci := 2) (As := [.int y, .int x]) (rest := [.int 0, .ref o]) ⟨hx, hb, hml, hown, hts⟩ (c_X2_tipsTo_x1 γ l hlt sa q0 q1 q2 q3 q4 kc td kq y x hkc hxb) (cwV 2 hts gL_tipsTo_X2_tipsTo rfl rfl rfl hdv_X2_tipsTo ⟨(Nat.le_of_ble_eq_true rfl), (Nat.le_of_ble_eq_true rfl)⟩) hK hP (fun U hU hW => hEx.1.warm hW hU) [0, 1] rfl rfl rfl rfl hl.1 rfl (Nat.le_of_ble_eq_true rfl) dL_tipsTo_5 ⟨(Nat.le_of_ble_eq_true rfl), (Nat.le_of_ble_eq_true rfl)⟩ (fun H1 ce9 q9 hz9 hk9 hce hcv hcl => ?_)
  refine vx_catch (E := "java/lang/IndexOutOfBoundsException") (name := "java/lang/IndexOutOfBoundsException") (pc := 5) hown [] ⟨0, 10, 13, 19⟩ [⟨0, 10, 17, 28⟩] (htab.trans rfl) (fun _ h => nomatch h) rfl (by decide) (hts _ wdL_tipsTo_h19) (va_Nw.use rfl hEx.1.1.1) hce hcv hcl ?_
  refine W.eq (g2 := F0 m 13 ls [.ref q9]) rfl ?_
  have hP := xkept hP hk9
  have hS : va_S A s.heap H1 [] := ⟨hz9, fun q h _ => hk9 q h, fun _ h => by cases h⟩
  refine lv_astore (lv' := [(4, .ref q9), (0, .ref q0), (1, .int y), (2, .int x), (3, .ref o)]) hx hb dL_tipsTo_13 hl (by decide) rfl (fun ls hl => ?_)
  refine lv_iconst (v := 1) hx hb dL_tipsTo_15 (by decide) ?_
  subst hQ
  exact xM_i hx hb hr hlocks dL_tipsTo_16 hP rfl hS (Nat.le_of_ble_eq_true rfl) (Nat.le_of_ble_eq_true rfl) (⟨rfl, rfl⟩)

set_option maxHeartbeats 4000000 in
set_option maxRecDepth 100000 in
theorem c_L_tipsTo_x2 (γ : xG) (l : Launch) (hlt : l.stackTraces = false) (sa : Nat → Nat) (q0 q1 q2 q3 q4 kc : Nat) (td : Int32) (a1 n : Nat) (f : xRow) (kq : Nat → Nat) (k : Nat) (x : Int32) (hn0 : 3 ≤ n) (hn1 : n ≤ 12) (hk : k < kc) (hkc : kc ≤ 6) (hxb : xInB x 0 (nI n - 1) = false) (o : Nat) (h : Nat → Int64) : xME γ l yL_tipsTo wsL_tipsTo ({ frames := 8, cells := 1, slots := 6, locals := 126 } : Room) [.ref q0, .int (nI k), .int x, .ref o] (xW1 sa) ([xO q0 2 [.ref q1, .ref q4, .int (nI kc), .int td, .ref q2, .ref q3], xO q1 0 [.ref a1, .int (nI n)], xA γ a1 12 f, xQ γ q4 6 (fun t9 => some (kq t9)), xL γ o 1 h]) (fun r9 w9 => r9 = some (.int 1) ∧ w9 = [xO q0 2 [.ref q1, .ref q4, .int (nI kc), .int td, .ref q2, .ref q3], xO q1 0 [.ref a1, .int (nI n)], xA γ a1 12 f, xQ γ q4 6 (fun t9 => some (kq t9)), xL γ o 1 h]) 1 6 := by
  refine xME.ofH (cc := cL_tipsTo) (maxL := 5) (ret := (some .int)) (hh := [(0, 10, 13, 19), (0, 10, 17, 28)]) (by decide +kernel) rfl (Nat.le_of_ble_eq_true rfl) ?_
  intro p e s m below meth c hx hb hr hml hts hown hlocks htab hP hK hEx A hA hD ls hl
  have hS : va_S A s.heap s.heap [] := va_S.rf
  generalize hargs : ([.ref q0, .int (nI k), .int x, .ref o] : List Value).toArray = args at hts ⊢
  obtain ⟨Q, hQ⟩ : ∃ Q9, Q9 = MQ below (xMQ γ (List.map Prod.fst ([xO q0 2 [.ref q1, .ref q4, .int (nI kc), .int td, .ref q2, .ref q3], xO q1 0 [.ref a1, .int (nI n)], xA γ a1 12 f, xQ γ q4 6 (fun t9 => some (kq t9)), xL γ o 1 h])) A (fun r9 w9 => r9 = some (.int 1) ∧ w9 = [xO q0 2 [.ref q1, .ref q4, .int (nI kc), .int td, .ref q2, .ref q3], xO q1 0 [.ref a1, .int (nI n)], xA γ a1 12 f, xQ γ q4 6 (fun t9 => some (kq t9)), xL γ o 1 h])) args s 1 6 A := ⟨_, rfl⟩
  rw [← hQ]
  have hown : s.vm.findClass RL = some m.cls := hown
  have hl : lv_has ls 5 [(0, .ref q0), (1, .int (nI k)), (2, .int x), (3, .ref o)] := hl
  refine lv_aload_n hx hb dL_tipsTo_0 rfl (lv_at hl 3 rfl) ?_
  refine lv_iconst (v := 0) hx hb dL_tipsTo_1 (by decide) ?_
  refine lv_aload_n hx hb dL_tipsTo_2 rfl (lv_at hl 0 rfl) ?_
  refine lv_iload_n hx hb dL_tipsTo_3 rfl (lv_at hl 1 rfl) ?_
  refine lv_iload_n hx hb dL_tipsTo_4 rfl (lv_at hl 2 rfl) ?_
  refine xXV (q0 := 0) (ci := 2) (As := [.int (nI k), .int x]) (rest := [.int 0, .ref o]) ⟨hx, hb, hml, hown, hts⟩ (c_X2_tipsTo_x2 γ l hlt sa q0 q1 q2 q3 q4 kc td a1 n f kq k x hn0 hn1 hk hkc hxb) (cwV 2 hts gL_tipsTo_X2_tipsTo rfl rfl rfl hdv_X2_tipsTo ⟨(Nat.le_of_ble_eq_true rfl), (Nat.le_of_ble_eq_true rfl)⟩) hK hP (fun U hU hW => hEx.1.warm hW hU) [0, 1, 2, 3] rfl rfl rfl rfl hl.1 rfl (Nat.le_of_ble_eq_true rfl) dL_tipsTo_5 ⟨(Nat.le_of_ble_eq_true rfl), (Nat.le_of_ble_eq_true rfl)⟩ (fun H1 ce9 q9 hz9 hk9 hce hcv hcl => ?_)
  refine vx_catch (E := "java/lang/IndexOutOfBoundsException") (name := "java/lang/IndexOutOfBoundsException") (pc := 5) hown [] ⟨0, 10, 13, 19⟩ [⟨0, 10, 17, 28⟩] (htab.trans rfl) (fun _ h => nomatch h) rfl (by decide) (hts _ wdL_tipsTo_h19) (va_Nw.use rfl hEx.1.1.1) hce hcv hcl ?_
  refine W.eq (g2 := F0 m 13 ls [.ref q9]) rfl ?_
  have hP := xkept hP hk9
  have hS : va_S A s.heap H1 [] := ⟨hz9, fun q h _ => hk9 q h, fun _ h => by cases h⟩
  refine lv_astore (lv' := [(4, .ref q9), (0, .ref q0), (1, .int (nI k)), (2, .int x), (3, .ref o)]) hx hb dL_tipsTo_13 hl (by decide) rfl (fun ls hl => ?_)
  refine lv_iconst (v := 1) hx hb dL_tipsTo_15 (by decide) ?_
  subst hQ
  exact xM_i hx hb hr hlocks dL_tipsTo_16 hP rfl hS (Nat.le_of_ble_eq_true rfl) (Nat.le_of_ble_eq_true rfl) (⟨rfl, rfl⟩)

theorem wdL_tipsTo_h28 : Cond.classLink RL 28 "java/lang/IllegalStateException" ∈ wsL_tipsTo := by decide +kernel
set_option maxHeartbeats 4000000 in
set_option maxRecDepth 100000 in
theorem c_L_tipsTo_x3 (γ : xG) (l : Launch) (hlt : l.stackTraces = false) (sa : Nat → Nat) (q0 q1 q2 q3 q4 kc : Nat) (td : Int32) (a1 n : Nat) (f : xRow) (kq ka : Nat → Nat) (kn : Nat → Int32) (ks : Nat → xRow) (k i9 : Nat) (hn0 : 3 ≤ n) (hn1 : n ≤ 12) (hk : k < kc) (hkc : kc ≤ 6) (hi : i9 < n) (hcb : xCB n f (ks k) = false) (o : Nat) (h : Nat → Int64) : xME γ l yL_tipsTo wsL_tipsTo ({ frames := 8, cells := 1, slots := 6, locals := 126 } : Room) [.ref q0, .int (nI k), .int (nI i9), .ref o] (xW1 sa) ([xO (kq k) 0 [.ref (ka k), .int (nI n)], xA γ (ka k) 12 (ks k), xO q0 2 [.ref q1, .ref q4, .int (nI kc), .int td, .ref q2, .ref q3], xO q1 0 [.ref a1, .int (nI n)], xA γ a1 12 f, xQ γ q4 6 (fun t9 => some (kq t9)), xL γ o 1 h]) (fun r9 w9 => r9 = some (.int 2) ∧ w9 = [xO (kq k) 0 [.ref (ka k), .int (nI n)], xA γ (ka k) 12 (ks k), xO q0 2 [.ref q1, .ref q4, .int (nI kc), .int td, .ref q2, .ref q3], xO q1 0 [.ref a1, .int (nI n)], xA γ a1 12 f, xQ γ q4 6 (fun t9 => some (kq t9)), xL γ o 1 h]) 1 6 := by
  refine xME.ofH (cc := cL_tipsTo) (maxL := 5) (ret := (some .int)) (hh := [(0, 10, 13, 19), (0, 10, 17, 28)]) (by decide +kernel) rfl (Nat.le_of_ble_eq_true rfl) ?_
  intro p e s m below meth c hx hb hr hml hts hown hlocks htab hP hK hEx A hA hD ls hl
  have hS : va_S A s.heap s.heap [] := va_S.rf
  generalize hargs : ([.ref q0, .int (nI k), .int (nI i9), .ref o] : List Value).toArray = args at hts ⊢
  obtain ⟨Q, hQ⟩ : ∃ Q9, Q9 = MQ below (xMQ γ (List.map Prod.fst ([xO (kq k) 0 [.ref (ka k), .int (nI n)], xA γ (ka k) 12 (ks k), xO q0 2 [.ref q1, .ref q4, .int (nI kc), .int td, .ref q2, .ref q3], xO q1 0 [.ref a1, .int (nI n)], xA γ a1 12 f, xQ γ q4 6 (fun t9 => some (kq t9)), xL γ o 1 h])) A (fun r9 w9 => r9 = some (.int 2) ∧ w9 = [xO (kq k) 0 [.ref (ka k), .int (nI n)], xA γ (ka k) 12 (ks k), xO q0 2 [.ref q1, .ref q4, .int (nI kc), .int td, .ref q2, .ref q3], xO q1 0 [.ref a1, .int (nI n)], xA γ a1 12 f, xQ γ q4 6 (fun t9 => some (kq t9)), xL γ o 1 h])) args s 1 6 A := ⟨_, rfl⟩
  rw [← hQ]
  have hown : s.vm.findClass RL = some m.cls := hown
  have hl : lv_has ls 5 [(0, .ref q0), (1, .int (nI k)), (2, .int (nI i9)), (3, .ref o)] := hl
  refine lv_aload_n hx hb dL_tipsTo_0 rfl (lv_at hl 3 rfl) ?_
  refine lv_iconst (v := 0) hx hb dL_tipsTo_1 (by decide) ?_
  refine lv_aload_n hx hb dL_tipsTo_2 rfl (lv_at hl 0 rfl) ?_
  refine lv_iload_n hx hb dL_tipsTo_3 rfl (lv_at hl 1 rfl) ?_
  refine lv_iload_n hx hb dL_tipsTo_4 rfl (lv_at hl 2 rfl) ?_
  refine xXV (q0 := 2) (ci := 2) (As := [.int (nI k), .int (nI i9)]) (rest := [.int 0, .ref o]) ⟨hx, hb, hml, hown, hts⟩ (c_X2_tipsTo_x3 γ l hlt sa q0 q1 q2 q3 q4 kc td a1 n f kq ka kn ks k i9 hn0 hn1 hk hkc hi hcb) (cwV 2 hts gL_tipsTo_X2_tipsTo rfl rfl rfl hdv_X2_tipsTo ⟨(Nat.le_of_ble_eq_true rfl), (Nat.le_of_ble_eq_true rfl)⟩) hK hP (fun U hU hW => hEx.1.warm hW hU) [2, 3, 4, 5, 0, 1] rfl rfl rfl rfl hl.1 rfl (Nat.le_of_ble_eq_true rfl) dL_tipsTo_5 ⟨(Nat.le_of_ble_eq_true rfl), (Nat.le_of_ble_eq_true rfl)⟩ (fun H1 ce9 q9 hz9 hk9 hce hcv hcl => ?_)
  refine vx_catch (E := "java/lang/IllegalStateException") (name := "java/lang/IllegalStateException") (pc := 5) hown [⟨0, 10, 13, 19⟩] ⟨0, 10, 17, 28⟩ [] (htab.trans rfl) (fun z hz => Or.inr (by rw [List.mem_singleton.mp hz]; exact ⟨by decide, "java/lang/IndexOutOfBoundsException", hts _ wdL_tipsTo_h19, hEx.2.2⟩)) rfl (by decide) (hts _ wdL_tipsTo_h28) (va_Nw.use rfl hEx.1.1.2.2.1) hce hcv hcl ?_
  refine W.eq (g2 := F0 m 17 ls [.ref q9]) rfl ?_
  have hP := xkept hP hk9
  have hS : va_S A s.heap H1 [] := ⟨hz9, fun q h _ => hk9 q h, fun _ h => by cases h⟩
  refine lv_astore (lv' := [(4, .ref q9), (0, .ref q0), (1, .int (nI k)), (2, .int (nI i9)), (3, .ref o)]) hx hb dL_tipsTo_17 hl (by decide) rfl (fun ls hl => ?_)
  refine lv_iconst (v := 2) hx hb dL_tipsTo_19 (by decide) ?_
  subst hQ
  exact xM_i hx hb hr hlocks dL_tipsTo_20 hP rfl hS (Nat.le_of_ble_eq_true rfl) (Nat.le_of_ble_eq_true rfl) (⟨rfl, rfl⟩)

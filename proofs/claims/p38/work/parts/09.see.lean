/-! RingSeesaw, what it answers to good calls (rows laid by wip/whole/spec_see.py) -/
theorem flX2_requirePlace_10 : Cond.fieldLink RX2 10 "RingSeesaw" "ring" "LRingSeesaw$Ring;" ∈ wsX2_requirePlace := by decide +kernel
theorem iwX2_requirePlace_2 : ∀ w ∈ wsX20, w ∈ wsX2_requirePlace := by decide +kernel
set_option maxHeartbeats 4000000 in
set_option maxRecDepth 100000 in
theorem c_X2_requirePlace (γ : xG) (l : Launch) (q0 q1 q2 q3 q4 kc : Nat) (td : Int32) (a1 n : Nat) (f : xRow) (k : Nat) (hn0 : 3 ≤ n) (hn1 : n ≤ 12) (hk : k < n) : xR γ l yX2_requirePlace wsX2_requirePlace ({ frames := 1, cells := 0, slots := 0, locals := 20 } : Room) [.ref q0, .int (nI k)] ([xO q0 2 [.ref q1, .ref q4, .int (nI kc), .int td, .ref q2, .ref q3], xO q1 0 [.ref a1, .int (nI n)], xA γ a1 12 f]) none := by
  refine xR.of (cc := cX2_requirePlace) (maxL := 2) (ret := none) (by decide +kernel) rfl (Nat.le_of_ble_eq_true rfl) ?_
  intro p e s m below meth c hx hb hr hml hts hown hlocks hP hK ls hl
  generalize hargs : ([.ref q0, .int (nI k)] : List Value).toArray = args at hts ⊢
  obtain ⟨Q, hQ⟩ : ∃ Q9, Q9 = MQ below (xRQ none) args s 0 0 (fun _ => False) := ⟨_, rfl⟩
  rw [← hQ]
  have hown : s.vm.findClass RX2 = some m.cls := hown
  have hl : lv_has ls 2 [(0, .ref q0), (1, .int (nI k))] := hl
  refine lv_iload_n hx hb dX2_requirePlace_0 rfl (lv_at hl 1 rfl) ?_
  refine lv_if_lt (tgt := 15) hx hb dX2_requirePlace_1 (by decide) (fun c => absurd c (nI_nlt (a := k) (b := 0) (by omega) (by omega))) (fun _ => ?_)
  refine lv_iload_n hx hb dX2_requirePlace_4 rfl (lv_at hl 1 rfl) ?_
  refine lv_aload_n hx hb dX2_requirePlace_5 rfl (lv_at hl 0 rfl) ?_
  refine va_get (D := γ.1) (ci := 2) (v := .ref q1) (C := RX2) (T := TX2) (N := 6) hx hb hts iwX2_requirePlace_2 hown hK hP 0 rfl rfl 0 (by decide) (hts _ flX2_requirePlace_10) (fun _ h9 => h9) rfl dX2_requirePlace_6 ?_
  refine xVR (q0 := 1) (ci := 0) (As := []) (rest := [.int (nI k)]) (stk := [.int (nI n), .int (nI k)]) ⟨hx, hb, hml, hown, hts⟩ (c_X0_size γ l q1 a1 n f) (cwV 0 hts gX2_requirePlace_X0_size rfl rfl rfl hdv_X0_size ⟨(Nat.le_of_ble_eq_true rfl), (Nat.le_of_ble_eq_true rfl)⟩) hK hP [1, 2] rfl rfl rfl rfl hl.1 rfl (Nat.le_of_ble_eq_true rfl) dX2_requirePlace_9 ⟨(Nat.le_of_ble_eq_true rfl), (Nat.le_of_ble_eq_true rfl)⟩ rfl ?_
  refine lv_icmp_lt (tgt := 25) hx hb dX2_requirePlace_12 (by decide) (fun _ => ?_) (fun c => absurd (nI_lt (a := k) (b := n) (by omega) (by omega)) c)
  subst hQ
  exact xR_v hx hb hr hlocks dX2_requirePlace_25

set_option maxHeartbeats 4000000 in
set_option maxRecDepth 100000 in
theorem c_X2_requireNumber (γ : xG) (l : Launch) (q0 q1 q2 q3 q4 kc : Nat) (td : Int32) (x : Int32) (h1 : ¬ x < (-999)) (h2 : x ≤ 999) : xR γ l yX2_requireNumber wsX2_requireNumber ({ frames := 0, cells := 0, slots := 0, locals := 0 } : Room) [.ref q0, .int x] ([xO q0 2 [.ref q1, .ref q4, .int (nI kc), .int td, .ref q2, .ref q3]]) none := by
  refine xR.of (cc := cX2_requireNumber) (maxL := 2) (ret := none) (by decide +kernel) rfl (Nat.le_of_ble_eq_true rfl) ?_
  intro p e s m below meth c hx hb hr hml hts hown hlocks hP hK ls hl
  generalize hargs : ([.ref q0, .int x] : List Value).toArray = args at hts ⊢
  obtain ⟨Q, hQ⟩ : ∃ Q9, Q9 = MQ below (xRQ none) args s 0 0 (fun _ => False) := ⟨_, rfl⟩
  rw [← hQ]
  have hown : s.vm.findClass RX2 = some m.cls := hown
  have hl : lv_has ls 2 [(0, .ref q0), (1, .int x)] := hl
  refine lv_iload_n hx hb dX2_requireNumber_0 rfl (lv_at hl 1 rfl) ?_
  refine lv_sipush (v := (-999)) hx hb dX2_requireNumber_1 (by decide) ?_
  refine lv_icmp_lt (tgt := 14) hx hb dX2_requireNumber_4 (by decide) (fun c => absurd c (h1)) (fun _ => ?_)
  refine lv_iload_n hx hb dX2_requireNumber_7 rfl (lv_at hl 1 rfl) ?_
  refine lv_sipush (v := 999) hx hb dX2_requireNumber_8 (by decide) ?_
  refine lv_icmp_le (tgt := 24) hx hb dX2_requireNumber_11 (by decide) (fun _ => ?_) (fun c => absurd (h2) c)
  subst hQ
  exact xR_v hx hb hr hlocks dX2_requireNumber_24

set_option maxHeartbeats 4000000 in
set_option maxRecDepth 100000 in
theorem c_X2_requireTimes (γ : xG) (l : Launch) (q0 q1 q2 q3 q4 kc : Nat) (td : Int32) (x : Int32) (h1 : ¬ x < (-50)) (h2 : x ≤ 50) : xR γ l yX2_requireTimes wsX2_requireTimes ({ frames := 0, cells := 0, slots := 0, locals := 0 } : Room) [.ref q0, .int x] ([xO q0 2 [.ref q1, .ref q4, .int (nI kc), .int td, .ref q2, .ref q3]]) none := by
  refine xR.of (cc := cX2_requireTimes) (maxL := 2) (ret := none) (by decide +kernel) rfl (Nat.le_of_ble_eq_true rfl) ?_
  intro p e s m below meth c hx hb hr hml hts hown hlocks hP hK ls hl
  generalize hargs : ([.ref q0, .int x] : List Value).toArray = args at hts ⊢
  obtain ⟨Q, hQ⟩ : ∃ Q9, Q9 = MQ below (xRQ none) args s 0 0 (fun _ => False) := ⟨_, rfl⟩
  rw [← hQ]
  have hown : s.vm.findClass RX2 = some m.cls := hown
  have hl : lv_has ls 2 [(0, .ref q0), (1, .int x)] := hl
  refine lv_iload_n hx hb dX2_requireTimes_0 rfl (lv_at hl 1 rfl) ?_
  refine lv_bipush (v := (-50)) hx hb dX2_requireTimes_1 (by decide) ?_
  refine lv_icmp_lt (tgt := 12) hx hb dX2_requireTimes_3 (by decide) (fun c => absurd c (h1)) (fun _ => ?_)
  refine lv_iload_n hx hb dX2_requireTimes_6 rfl (lv_at hl 1 rfl) ?_
  refine lv_bipush (v := 50) hx hb dX2_requireTimes_7 (by decide) ?_
  refine lv_icmp_le (tgt := 22) hx hb dX2_requireTimes_9 (by decide) (fun _ => ?_) (fun c => absurd (h2) c)
  subst hQ
  exact xR_v hx hb hr hlocks dX2_requireTimes_22

theorem hdv_X0_canBecome : yX0_canBecome.cls = RX0 ∧ yX0_canBecome.cls ≠ "java/lang/invoke/MethodHandle" ∧ yX0_canBecome.cls ≠ "java/lang/invoke/VarHandle" ∧ (parseMethodDescriptor yX0_canBecome.desc).map (fun d => d.parameters.length) = some 1 := by decide +kernel
theorem flX2_requireWayTo_10 : Cond.fieldLink RX2 10 "RingSeesaw" "ring" "LRingSeesaw$Ring;" ∈ wsX2_requireWayTo := by decide +kernel
theorem iwX2_requireWayTo_2 : ∀ w ∈ wsX20, w ∈ wsX2_requireWayTo := by decide +kernel
set_option maxHeartbeats 4000000 in
set_option maxRecDepth 100000 in
theorem c_X2_requireWayTo (γ : xG) (l : Launch) (q0 q1 q2 q3 q4 kc : Nat) (td : Int32) (a1 n : Nat) (f : xRow) (qk ak : Nat) (g : xRow) (hn0 : 3 ≤ n) (hn1 : n ≤ 12) (hcb : xCB n f g = true) : xR γ l yX2_requireWayTo wsX2_requireWayTo ({ frames := 3, cells := 0, slots := 0, locals := 65 } : Room) [.ref q0, .ref qk] ([xO q0 2 [.ref q1, .ref q4, .int (nI kc), .int td, .ref q2, .ref q3], xO q1 0 [.ref a1, .int (nI n)], xA γ a1 12 f, xO qk 0 [.ref ak, .int (nI n)], xA γ ak 12 g]) none := by
  refine xR.of (cc := cX2_requireWayTo) (maxL := 2) (ret := none) (by decide +kernel) rfl (Nat.le_of_ble_eq_true rfl) ?_
  intro p e s m below meth c hx hb hr hml hts hown hlocks hP hK ls hl
  generalize hargs : ([.ref q0, .ref qk] : List Value).toArray = args at hts ⊢
  obtain ⟨Q, hQ⟩ : ∃ Q9, Q9 = MQ below (xRQ none) args s 0 0 (fun _ => False) := ⟨_, rfl⟩
  rw [← hQ]
  have hown : s.vm.findClass RX2 = some m.cls := hown
  have hl : lv_has ls 2 [(0, .ref q0), (1, .ref qk)] := hl
  refine lv_aload_n hx hb dX2_requireWayTo_0 rfl (lv_at hl 0 rfl) ?_
  refine va_get (D := γ.1) (ci := 2) (v := .ref q1) (C := RX2) (T := TX2) (N := 6) hx hb hts iwX2_requireWayTo_2 hown hK hP 0 rfl rfl 0 (by decide) (hts _ flX2_requireWayTo_10) (fun _ h9 => h9) rfl dX2_requireWayTo_1 ?_
  refine lv_aload_n hx hb dX2_requireWayTo_4 rfl (lv_at hl 1 rfl) ?_
  refine xVR (q0 := 1) (ci := 0) (As := [.ref qk]) (rest := []) (stk := [.int (if xCB n f g = true then 1 else 0)]) ⟨hx, hb, hml, hown, hts⟩ (c_X0_canBecome γ l q1 a1 qk ak n f g (by omega) (by omega)) (cwV 1 hts gX2_requireWayTo_X0_canBecome rfl rfl rfl hdv_X0_canBecome ⟨(Nat.le_of_ble_eq_true rfl), (Nat.le_of_ble_eq_true rfl)⟩) hK hP [1, 2, 3, 4] rfl rfl rfl rfl hl.1 rfl (Nat.le_of_ble_eq_true rfl) dX2_requireWayTo_5 ⟨(Nat.le_of_ble_eq_true rfl), (Nat.le_of_ble_eq_true rfl)⟩ rfl ?_
  refine lv_if_ne (tgt := 21) hx hb dX2_requireWayTo_8 (by decide) (fun _ => ?_) (fun c => absurd c (fun h => by rw [xB_f h] at hcb; cases hcb))
  subst hQ
  exact xR_v hx hb hr hlocks dX2_requireWayTo_21

theorem flX2_keptRing_20 : Cond.fieldLink RX2 20 "RingSeesaw" "keptCount" "I" ∈ wsX2_keptRing := by decide +kernel
theorem iwX2_keptRing_2 : ∀ w ∈ wsX20, w ∈ wsX2_keptRing := by decide +kernel
theorem flX2_keptRing_16 : Cond.fieldLink RX2 16 "RingSeesaw" "kept" "[LRingSeesaw$Ring;" ∈ wsX2_keptRing := by decide +kernel
set_option maxHeartbeats 4000000 in
set_option maxRecDepth 100000 in
theorem c_X2_keptRing (γ : xG) (l : Launch) (q0 q1 q2 q3 q4 kc : Nat) (td : Int32) (kq : Nat → Nat) (k : Nat) (hk : k < kc) (hkc : kc ≤ 6) : xR γ l yX2_keptRing wsX2_keptRing ({ frames := 0, cells := 0, slots := 0, locals := 0 } : Room) [.ref q0, .int (nI k)] ([xO q0 2 [.ref q1, .ref q4, .int (nI kc), .int td, .ref q2, .ref q3], xQ γ q4 6 (fun t9 => some (kq t9))]) (some (.ref (kq k))) := by
  refine xR.of (cc := cX2_keptRing) (maxL := 3) (ret := (some (.object "RingSeesaw$Ring"))) (by decide +kernel) rfl (Nat.le_of_ble_eq_true rfl) ?_
  intro p e s m below meth c hx hb hr hml hts hown hlocks hP hK ls hl
  generalize hargs : ([.ref q0, .int (nI k)] : List Value).toArray = args at hts ⊢
  obtain ⟨Q, hQ⟩ : ∃ Q9, Q9 = MQ below (xRQ (some (.ref (kq k)))) args s 0 0 (fun _ => False) := ⟨_, rfl⟩
  rw [← hQ]
  have hown : s.vm.findClass RX2 = some m.cls := hown
  have hl : lv_has ls 3 [(0, .ref q0), (1, .int (nI k))] := hl
  refine lv_iload_n hx hb dX2_keptRing_0 rfl (lv_at hl 1 rfl) ?_
  refine lv_if_lt (tgt := 21) hx hb dX2_keptRing_1 (by decide) (fun c => absurd c (nI_nlt (a := k) (b := 0) (by omega) (by omega))) (fun _ => ?_)
  refine lv_iload_n hx hb dX2_keptRing_4 rfl (lv_at hl 1 rfl) ?_
  refine lv_aload_n hx hb dX2_keptRing_5 rfl (lv_at hl 0 rfl) ?_
  refine va_get (D := γ.1) (ci := 2) (v := .int (nI kc)) (C := RX2) (T := TX2) (N := 6) hx hb hts iwX2_keptRing_2 hown hK hP 0 rfl rfl 2 (by decide) (hts _ flX2_keptRing_20) (fun _ h9 => h9) rfl dX2_keptRing_6 ?_
  refine lv_icmp_ge (tgt := 21) hx hb dX2_keptRing_9 (by decide) (fun c => absurd c (nI_ge (a := k) (b := kc) (by omega) (by omega))) (fun _ => ?_)
  refine lv_iload_n hx hb dX2_keptRing_12 rfl (lv_at hl 1 rfl) ?_
  refine lv_aload_n hx hb dX2_keptRing_13 rfl (lv_at hl 0 rfl) ?_
  refine va_get (D := γ.1) (ci := 2) (v := .ref q4) (C := RX2) (T := TX2) (N := 6) hx hb hts iwX2_keptRing_2 hown hK hP 0 rfl rfl 1 (by decide) (hts _ flX2_keptRing_16) (fun _ h9 => h9) rfl dX2_keptRing_14 ?_
  refine va_alen (v := nI 6) hx hb hK hP 1 1 rfl rfl rfl dX2_keptRing_17 ?_
  refine lv_icmp_lt (tgt := 31) hx hb dX2_keptRing_18 (by decide) (fun _ => ?_) (fun c => absurd (nI_lt (a := k) (b := 6) (by omega) (by omega)) c)
  refine lv_aload_n hx hb dX2_keptRing_31 rfl (lv_at hl 0 rfl) ?_
  refine va_get (D := γ.1) (ci := 2) (v := .ref q4) (C := RX2) (T := TX2) (N := 6) hx hb hts iwX2_keptRing_2 hown hK hP 0 rfl rfl 1 (by decide) (hts _ flX2_keptRing_16) (fun _ h9 => h9) rfl dX2_keptRing_32 ?_
  refine lv_iload_n hx hb dX2_keptRing_35 rfl (lv_at hl 1 rfl) ?_
  refine x_aald (f := fun t9 => some (kq t9)) (v := kq k) hx hb hK hP 1 rfl k rfl (by omega) (by omega) (rfl) dX2_keptRing_36 ?_
  refine lv_astore_n (lv' := [(2, .ref (kq k)), (0, .ref q0), (1, .int (nI k))]) hx hb dX2_keptRing_37 rfl hl (by decide) rfl (fun ls hl => ?_)
  refine lv_aload_n hx hb dX2_keptRing_38 rfl (lv_at hl 0 rfl) ?_
  refine lv_ifnonnull (tgt := 52) hx hb dX2_keptRing_39 (by decide) ?_
  refine lv_aload_n hx hb dX2_keptRing_52 rfl (lv_at hl 0 rfl) ?_
  subst hQ
  exact xR_a hx hb hr (Or.inl ⟨_, rfl⟩) hlocks dX2_keptRing_53 rfl

theorem flX2_places_10 : Cond.fieldLink RX2 10 "RingSeesaw" "ring" "LRingSeesaw$Ring;" ∈ wsX2_places := by decide +kernel
theorem iwX2_places_2 : ∀ w ∈ wsX20, w ∈ wsX2_places := by decide +kernel
set_option maxHeartbeats 4000000 in
set_option maxRecDepth 100000 in
theorem c_X2_places (γ : xG) (l : Launch) (q0 q1 q2 q3 q4 kc : Nat) (td : Int32) (a1 n : Nat) (f : xRow) (hn0 : 3 ≤ n) (hn1 : n ≤ 12) : xR γ l yX2_places wsX2_places ({ frames := 1, cells := 0, slots := 0, locals := 20 } : Room) [.ref q0] ([xO q0 2 [.ref q1, .ref q4, .int (nI kc), .int td, .ref q2, .ref q3], xO q1 0 [.ref a1, .int (nI n)], xA γ a1 12 f]) (some (.int (nI n))) := by
  refine xR.of (cc := cX2_places) (maxL := 1) (ret := (some .int)) (by decide +kernel) rfl (Nat.le_of_ble_eq_true rfl) ?_
  intro p e s m below meth c hx hb hr hml hts hown hlocks hP hK ls hl
  generalize hargs : ([.ref q0] : List Value).toArray = args at hts ⊢
  obtain ⟨Q, hQ⟩ : ∃ Q9, Q9 = MQ below (xRQ (some (.int (nI n)))) args s 0 0 (fun _ => False) := ⟨_, rfl⟩
  rw [← hQ]
  have hown : s.vm.findClass RX2 = some m.cls := hown
  have hl : lv_has ls 1 [(0, .ref q0)] := hl
  refine lv_aload_n hx hb dX2_places_0 rfl (lv_at hl 0 rfl) ?_
  refine va_get (D := γ.1) (ci := 2) (v := .ref q1) (C := RX2) (T := TX2) (N := 6) hx hb hts iwX2_places_2 hown hK hP 0 rfl rfl 0 (by decide) (hts _ flX2_places_10) (fun _ h9 => h9) rfl dX2_places_1 ?_
  refine xVR (q0 := 1) (ci := 0) (As := []) (rest := []) (stk := [.int (nI n)]) ⟨hx, hb, hml, hown, hts⟩ (c_X0_size γ l q1 a1 n f) (cwV 0 hts gX2_places_X0_size rfl rfl rfl hdv_X0_size ⟨(Nat.le_of_ble_eq_true rfl), (Nat.le_of_ble_eq_true rfl)⟩) hK hP [1, 2] rfl rfl rfl rfl hl.1 rfl (Nat.le_of_ble_eq_true rfl) dX2_places_4 ⟨(Nat.le_of_ble_eq_true rfl), (Nat.le_of_ble_eq_true rfl)⟩ rfl ?_
  subst hQ
  exact xR_i hx hb hr hlocks dX2_places_7 (rfl)

theorem flX2_sum_10 : Cond.fieldLink RX2 10 "RingSeesaw" "ring" "LRingSeesaw$Ring;" ∈ wsX2_sum := by decide +kernel
theorem iwX2_sum_2 : ∀ w ∈ wsX20, w ∈ wsX2_sum := by decide +kernel
set_option maxHeartbeats 4000000 in
set_option maxRecDepth 100000 in
theorem c_X2_sum (γ : xG) (l : Launch) (q0 q1 q2 q3 q4 kc : Nat) (td : Int32) (a1 n : Nat) (f : xRow) (hn0 : 3 ≤ n) (hn1 : n ≤ 12) : xR γ l yX2_sum wsX2_sum ({ frames := 2, cells := 0, slots := 0, locals := 43 } : Room) [.ref q0] ([xO q0 2 [.ref q1, .ref q4, .int (nI kc), .int td, .ref q2, .ref q3], xO q1 0 [.ref a1, .int (nI n)], xA γ a1 12 f]) (some (.int (xTot f n))) := by
  refine xR.of (cc := cX2_sum) (maxL := 1) (ret := (some .int)) (by decide +kernel) rfl (Nat.le_of_ble_eq_true rfl) ?_
  intro p e s m below meth c hx hb hr hml hts hown hlocks hP hK ls hl
  generalize hargs : ([.ref q0] : List Value).toArray = args at hts ⊢
  obtain ⟨Q, hQ⟩ : ∃ Q9, Q9 = MQ below (xRQ (some (.int (xTot f n)))) args s 0 0 (fun _ => False) := ⟨_, rfl⟩
  rw [← hQ]
  have hown : s.vm.findClass RX2 = some m.cls := hown
  have hl : lv_has ls 1 [(0, .ref q0)] := hl
  refine lv_aload_n hx hb dX2_sum_0 rfl (lv_at hl 0 rfl) ?_
  refine va_get (D := γ.1) (ci := 2) (v := .ref q1) (C := RX2) (T := TX2) (N := 6) hx hb hts iwX2_sum_2 hown hK hP 0 rfl rfl 0 (by decide) (hts _ flX2_sum_10) (fun _ h9 => h9) rfl dX2_sum_1 ?_
  refine xVR (q0 := 1) (ci := 0) (As := []) (rest := []) (stk := [.int (xTot f n)]) ⟨hx, hb, hml, hown, hts⟩ (c_X0_total γ l q1 a1 n f (by omega) (by omega)) (cwV 0 hts gX2_sum_X0_total rfl rfl rfl hdv_X0_total ⟨(Nat.le_of_ble_eq_true rfl), (Nat.le_of_ble_eq_true rfl)⟩) hK hP [1, 2] rfl rfl rfl rfl hl.1 rfl (Nat.le_of_ble_eq_true rfl) dX2_sum_4 ⟨(Nat.le_of_ble_eq_true rfl), (Nat.le_of_ble_eq_true rfl)⟩ rfl ?_
  subst hQ
  exact xR_i hx hb hr hlocks dX2_sum_7 (rfl)

theorem flX2_moment_10 : Cond.fieldLink RX2 10 "RingSeesaw" "ring" "LRingSeesaw$Ring;" ∈ wsX2_moment := by decide +kernel
theorem iwX2_moment_2 : ∀ w ∈ wsX20, w ∈ wsX2_moment := by decide +kernel
set_option maxHeartbeats 4000000 in
set_option maxRecDepth 100000 in
theorem c_X2_moment (γ : xG) (l : Launch) (q0 q1 q2 q3 q4 kc : Nat) (td : Int32) (a1 n : Nat) (f : xRow) (hn0 : 3 ≤ n) (hn1 : n ≤ 12) : xR γ l yX2_moment wsX2_moment ({ frames := 2, cells := 0, slots := 0, locals := 44 } : Room) [.ref q0] ([xO q0 2 [.ref q1, .ref q4, .int (nI kc), .int td, .ref q2, .ref q3], xO q1 0 [.ref a1, .int (nI n)], xA γ a1 12 f]) (some (.int (xMm n f))) := by
  refine xR.of (cc := cX2_moment) (maxL := 1) (ret := (some .int)) (by decide +kernel) rfl (Nat.le_of_ble_eq_true rfl) ?_
  intro p e s m below meth c hx hb hr hml hts hown hlocks hP hK ls hl
  generalize hargs : ([.ref q0] : List Value).toArray = args at hts ⊢
  obtain ⟨Q, hQ⟩ : ∃ Q9, Q9 = MQ below (xRQ (some (.int (xMm n f)))) args s 0 0 (fun _ => False) := ⟨_, rfl⟩
  rw [← hQ]
  have hown : s.vm.findClass RX2 = some m.cls := hown
  have hl : lv_has ls 1 [(0, .ref q0)] := hl
  refine lv_aload_n hx hb dX2_moment_0 rfl (lv_at hl 0 rfl) ?_
  refine va_get (D := γ.1) (ci := 2) (v := .ref q1) (C := RX2) (T := TX2) (N := 6) hx hb hts iwX2_moment_2 hown hK hP 0 rfl rfl 0 (by decide) (hts _ flX2_moment_10) (fun _ h9 => h9) rfl dX2_moment_1 ?_
  refine xVR (q0 := 1) (ci := 0) (As := []) (rest := []) (stk := [.int (xMm n f)]) ⟨hx, hb, hml, hown, hts⟩ (c_X0_momentLeft γ l q1 a1 n f (by omega) (by omega)) (cwV 0 hts gX2_moment_X0_momentLeft rfl rfl rfl hdv_X0_momentLeft ⟨(Nat.le_of_ble_eq_true rfl), (Nat.le_of_ble_eq_true rfl)⟩) hK hP [1, 2] rfl rfl rfl rfl hl.1 rfl (Nat.le_of_ble_eq_true rfl) dX2_moment_4 ⟨(Nat.le_of_ble_eq_true rfl), (Nat.le_of_ble_eq_true rfl)⟩ rfl ?_
  subst hQ
  exact xR_i hx hb hr hlocks dX2_moment_7 (rfl)

theorem hdv_X0_span : yX0_span.cls = RX0 ∧ yX0_span.cls ≠ "java/lang/invoke/MethodHandle" ∧ yX0_span.cls ≠ "java/lang/invoke/VarHandle" ∧ (parseMethodDescriptor yX0_span.desc).map (fun d => d.parameters.length) = some 0 := by decide +kernel
theorem flX2_spread_10 : Cond.fieldLink RX2 10 "RingSeesaw" "ring" "LRingSeesaw$Ring;" ∈ wsX2_spread := by decide +kernel
theorem iwX2_spread_2 : ∀ w ∈ wsX20, w ∈ wsX2_spread := by decide +kernel
set_option maxHeartbeats 4000000 in
set_option maxRecDepth 100000 in
theorem c_X2_spread (γ : xG) (l : Launch) (q0 q1 q2 q3 q4 kc : Nat) (td : Int32) (a1 n : Nat) (f : xRow) (hn0 : 3 ≤ n) (hn1 : n ≤ 12) : xR γ l yX2_spread wsX2_spread ({ frames := 3, cells := 0, slots := 0, locals := 65 } : Room) [.ref q0] ([xO q0 2 [.ref q1, .ref q4, .int (nI kc), .int td, .ref q2, .ref q3], xO q1 0 [.ref a1, .int (nI n)], xA γ a1 12 f]) (some (.int (xSpn n f))) := by
  refine xR.of (cc := cX2_spread) (maxL := 1) (ret := (some .int)) (by decide +kernel) rfl (Nat.le_of_ble_eq_true rfl) ?_
  intro p e s m below meth c hx hb hr hml hts hown hlocks hP hK ls hl
  generalize hargs : ([.ref q0] : List Value).toArray = args at hts ⊢
  obtain ⟨Q, hQ⟩ : ∃ Q9, Q9 = MQ below (xRQ (some (.int (xSpn n f)))) args s 0 0 (fun _ => False) := ⟨_, rfl⟩
  rw [← hQ]
  have hown : s.vm.findClass RX2 = some m.cls := hown
  have hl : lv_has ls 1 [(0, .ref q0)] := hl
  refine lv_aload_n hx hb dX2_spread_0 rfl (lv_at hl 0 rfl) ?_
  refine va_get (D := γ.1) (ci := 2) (v := .ref q1) (C := RX2) (T := TX2) (N := 6) hx hb hts iwX2_spread_2 hown hK hP 0 rfl rfl 0 (by decide) (hts _ flX2_spread_10) (fun _ h9 => h9) rfl dX2_spread_1 ?_
  refine xVR (q0 := 1) (ci := 0) (As := []) (rest := []) (stk := [.int (xSpn n f)]) ⟨hx, hb, hml, hown, hts⟩ (c_X0_span γ l q1 a1 n f (by omega) (by omega)) (cwV 0 hts gX2_spread_X0_span rfl rfl rfl hdv_X0_span ⟨(Nat.le_of_ble_eq_true rfl), (Nat.le_of_ble_eq_true rfl)⟩) hK hP [1, 2] rfl rfl rfl rfl hl.1 rfl (Nat.le_of_ble_eq_true rfl) dX2_spread_4 ⟨(Nat.le_of_ble_eq_true rfl), (Nat.le_of_ble_eq_true rfl)⟩ rfl ?_
  subst hQ
  exact xR_i hx hb hr hlocks dX2_spread_7 (rfl)

theorem flX2_highest_10 : Cond.fieldLink RX2 10 "RingSeesaw" "ring" "LRingSeesaw$Ring;" ∈ wsX2_highest := by decide +kernel
theorem iwX2_highest_2 : ∀ w ∈ wsX20, w ∈ wsX2_highest := by decide +kernel
set_option maxHeartbeats 4000000 in
set_option maxRecDepth 100000 in
theorem c_X2_highest (γ : xG) (l : Launch) (q0 q1 q2 q3 q4 kc : Nat) (td : Int32) (a1 n : Nat) (f : xRow) (hn0 : 3 ≤ n) (hn1 : n ≤ 12) : xR γ l yX2_highest wsX2_highest ({ frames := 2, cells := 0, slots := 0, locals := 43 } : Room) [.ref q0] ([xO q0 2 [.ref q1, .ref q4, .int (nI kc), .int td, .ref q2, .ref q3], xO q1 0 [.ref a1, .int (nI n)], xA γ a1 12 f]) (some (.int (nI (xTopI f (n - 1))))) := by
  refine xR.of (cc := cX2_highest) (maxL := 1) (ret := (some .int)) (by decide +kernel) rfl (Nat.le_of_ble_eq_true rfl) ?_
  intro p e s m below meth c hx hb hr hml hts hown hlocks hP hK ls hl
  generalize hargs : ([.ref q0] : List Value).toArray = args at hts ⊢
  obtain ⟨Q, hQ⟩ : ∃ Q9, Q9 = MQ below (xRQ (some (.int (nI (xTopI f (n - 1)))))) args s 0 0 (fun _ => False) := ⟨_, rfl⟩
  rw [← hQ]
  have hown : s.vm.findClass RX2 = some m.cls := hown
  have hl : lv_has ls 1 [(0, .ref q0)] := hl
  refine lv_aload_n hx hb dX2_highest_0 rfl (lv_at hl 0 rfl) ?_
  refine va_get (D := γ.1) (ci := 2) (v := .ref q1) (C := RX2) (T := TX2) (N := 6) hx hb hts iwX2_highest_2 hown hK hP 0 rfl rfl 0 (by decide) (hts _ flX2_highest_10) (fun _ h9 => h9) rfl dX2_highest_1 ?_
  refine xVR (q0 := 1) (ci := 0) (As := []) (rest := []) (stk := [.int (nI (xTopI f (n - 1)))]) ⟨hx, hb, hml, hown, hts⟩ (c_X0_firstGreatest γ l q1 a1 n f (by omega) (by omega)) (cwV 0 hts gX2_highest_X0_firstGreatest rfl rfl rfl hdv_X0_firstGreatest ⟨(Nat.le_of_ble_eq_true rfl), (Nat.le_of_ble_eq_true rfl)⟩) hK hP [1, 2] rfl rfl rfl rfl hl.1 rfl (Nat.le_of_ble_eq_true rfl) dX2_highest_4 ⟨(Nat.le_of_ble_eq_true rfl), (Nat.le_of_ble_eq_true rfl)⟩ rfl ?_
  subst hQ
  exact xR_i hx hb hr hlocks dX2_highest_7 (rfl)

theorem flX2_nextToTip_10 : Cond.fieldLink RX2 10 "RingSeesaw" "ring" "LRingSeesaw$Ring;" ∈ wsX2_nextToTip := by decide +kernel
theorem iwX2_nextToTip_2 : ∀ w ∈ wsX20, w ∈ wsX2_nextToTip := by decide +kernel
set_option maxHeartbeats 4000000 in
set_option maxRecDepth 100000 in
theorem c_X2_nextToTip (γ : xG) (l : Launch) (q0 q1 q2 q3 q4 kc : Nat) (td : Int32) (a1 n : Nat) (f : xRow) (hn0 : 3 ≤ n) (hn1 : n ≤ 12) : xR γ l yX2_nextToTip wsX2_nextToTip ({ frames := 3, cells := 0, slots := 0, locals := 63 } : Room) [.ref q0] ([xO q0 2 [.ref q1, .ref q4, .int (nI kc), .int td, .ref q2, .ref q3], xO q1 0 [.ref a1, .int (nI n)], xA γ a1 12 f]) (some (.int (xFi (xSt n f) n))) := by
  refine xR.of (cc := cX2_nextToTip) (maxL := 1) (ret := (some .int)) (by decide +kernel) rfl (Nat.le_of_ble_eq_true rfl) ?_
  intro p e s m below meth c hx hb hr hml hts hown hlocks hP hK ls hl
  generalize hargs : ([.ref q0] : List Value).toArray = args at hts ⊢
  obtain ⟨Q, hQ⟩ : ∃ Q9, Q9 = MQ below (xRQ (some (.int (xFi (xSt n f) n)))) args s 0 0 (fun _ => False) := ⟨_, rfl⟩
  rw [← hQ]
  have hown : s.vm.findClass RX2 = some m.cls := hown
  have hl : lv_has ls 1 [(0, .ref q0)] := hl
  refine lv_aload_n hx hb dX2_nextToTip_0 rfl (lv_at hl 0 rfl) ?_
  refine va_get (D := γ.1) (ci := 2) (v := .ref q1) (C := RX2) (T := TX2) (N := 6) hx hb hts iwX2_nextToTip_2 hown hK hP 0 rfl rfl 0 (by decide) (hts _ flX2_nextToTip_10) (fun _ h9 => h9) rfl dX2_nextToTip_1 ?_
  refine xVR (q0 := 1) (ci := 0) (As := []) (rest := []) (stk := [.int (xFi (xSt n f) n)]) ⟨hx, hb, hml, hown, hts⟩ (c_X0_firstSteep γ l q1 a1 n f (by omega) (by omega)) (cwV 0 hts gX2_nextToTip_X0_firstSteep rfl rfl rfl hdv_X0_firstSteep ⟨(Nat.le_of_ble_eq_true rfl), (Nat.le_of_ble_eq_true rfl)⟩) hK hP [1, 2] rfl rfl rfl rfl hl.1 rfl (Nat.le_of_ble_eq_true rfl) dX2_nextToTip_4 ⟨(Nat.le_of_ble_eq_true rfl), (Nat.le_of_ble_eq_true rfl)⟩ rfl ?_
  subst hQ
  exact xR_i hx hb hr hlocks dX2_nextToTip_7 (rfl)

theorem flX2_targets_20 : Cond.fieldLink RX2 20 "RingSeesaw" "keptCount" "I" ∈ wsX2_targets := by decide +kernel
theorem iwX2_targets_2 : ∀ w ∈ wsX20, w ∈ wsX2_targets := by decide +kernel
set_option maxHeartbeats 4000000 in
set_option maxRecDepth 100000 in
theorem c_X2_targets (γ : xG) (l : Launch) (q0 q1 q2 q3 q4 kc : Nat) (td : Int32) : xR γ l yX2_targets wsX2_targets ({ frames := 0, cells := 0, slots := 0, locals := 0 } : Room) [.ref q0] ([xO q0 2 [.ref q1, .ref q4, .int (nI kc), .int td, .ref q2, .ref q3]]) (some (.int (nI kc))) := by
  refine xR.of (cc := cX2_targets) (maxL := 1) (ret := (some .int)) (by decide +kernel) rfl (Nat.le_of_ble_eq_true rfl) ?_
  intro p e s m below meth c hx hb hr hml hts hown hlocks hP hK ls hl
  generalize hargs : ([.ref q0] : List Value).toArray = args at hts ⊢
  obtain ⟨Q, hQ⟩ : ∃ Q9, Q9 = MQ below (xRQ (some (.int (nI kc)))) args s 0 0 (fun _ => False) := ⟨_, rfl⟩
  rw [← hQ]
  have hown : s.vm.findClass RX2 = some m.cls := hown
  have hl : lv_has ls 1 [(0, .ref q0)] := hl
  refine lv_aload_n hx hb dX2_targets_0 rfl (lv_at hl 0 rfl) ?_
  refine va_get (D := γ.1) (ci := 2) (v := .int (nI kc)) (C := RX2) (T := TX2) (N := 6) hx hb hts iwX2_targets_2 hown hK hP 0 rfl rfl 2 (by decide) (hts _ flX2_targets_20) (fun _ h9 => h9) rfl dX2_targets_1 ?_
  subst hQ
  exact xR_i hx hb hr hlocks dX2_targets_4 (rfl)

theorem flX2_tips_24 : Cond.fieldLink RX2 24 "RingSeesaw" "tipsDone" "I" ∈ wsX2_tips := by decide +kernel
theorem iwX2_tips_2 : ∀ w ∈ wsX20, w ∈ wsX2_tips := by decide +kernel
set_option maxHeartbeats 4000000 in
set_option maxRecDepth 100000 in
theorem c_X2_tips (γ : xG) (l : Launch) (q0 q1 q2 q3 q4 kc : Nat) (td : Int32) : xR γ l yX2_tips wsX2_tips ({ frames := 0, cells := 0, slots := 0, locals := 0 } : Room) [.ref q0] ([xO q0 2 [.ref q1, .ref q4, .int (nI kc), .int td, .ref q2, .ref q3]]) (some (.int td)) := by
  refine xR.of (cc := cX2_tips) (maxL := 1) (ret := (some .int)) (by decide +kernel) rfl (Nat.le_of_ble_eq_true rfl) ?_
  intro p e s m below meth c hx hb hr hml hts hown hlocks hP hK ls hl
  generalize hargs : ([.ref q0] : List Value).toArray = args at hts ⊢
  obtain ⟨Q, hQ⟩ : ∃ Q9, Q9 = MQ below (xRQ (some (.int td))) args s 0 0 (fun _ => False) := ⟨_, rfl⟩
  rw [← hQ]
  have hown : s.vm.findClass RX2 = some m.cls := hown
  have hl : lv_has ls 1 [(0, .ref q0)] := hl
  refine lv_aload_n hx hb dX2_tips_0 rfl (lv_at hl 0 rfl) ?_
  refine va_get (D := γ.1) (ci := 2) (v := .int td) (C := RX2) (T := TX2) (N := 6) hx hb hts iwX2_tips_2 hown hK hP 0 rfl rfl 3 (by decide) (hts _ flX2_tips_24) (fun _ h9 => h9) rfl dX2_tips_1 ?_
  subst hQ
  exact xR_i hx hb hr hlocks dX2_tips_4 (rfl)

theorem hdv_X2_requirePlace : yX2_requirePlace.cls = RX2 ∧ yX2_requirePlace.cls ≠ "java/lang/invoke/MethodHandle" ∧ yX2_requirePlace.cls ≠ "java/lang/invoke/VarHandle" ∧ (parseMethodDescriptor yX2_requirePlace.desc).map (fun d => d.parameters.length) = some 1 := by decide +kernel
theorem flX2_numberAt_10 : Cond.fieldLink RX2 10 "RingSeesaw" "ring" "LRingSeesaw$Ring;" ∈ wsX2_numberAt := by decide +kernel
theorem iwX2_numberAt_2 : ∀ w ∈ wsX20, w ∈ wsX2_numberAt := by decide +kernel
set_option maxHeartbeats 4000000 in
set_option maxRecDepth 100000 in
theorem c_X2_numberAt (γ : xG) (l : Launch) (q0 q1 q2 q3 q4 kc : Nat) (td : Int32) (a1 n : Nat) (f : xRow) (k : Nat) (hn0 : 3 ≤ n) (hn1 : n ≤ 12) (hk : k < n) : xR γ l yX2_numberAt wsX2_numberAt ({ frames := 2, cells := 0, slots := 0, locals := 41 } : Room) [.ref q0, .int (nI k)] ([xO q0 2 [.ref q1, .ref q4, .int (nI kc), .int td, .ref q2, .ref q3], xO q1 0 [.ref a1, .int (nI n)], xA γ a1 12 f]) (some (.int (f k))) := by
  refine xR.of (cc := cX2_numberAt) (maxL := 2) (ret := (some .int)) (by decide +kernel) rfl (Nat.le_of_ble_eq_true rfl) ?_
  intro p e s m below meth c hx hb hr hml hts hown hlocks hP hK ls hl
  generalize hargs : ([.ref q0, .int (nI k)] : List Value).toArray = args at hts ⊢
  obtain ⟨Q, hQ⟩ : ∃ Q9, Q9 = MQ below (xRQ (some (.int (f k)))) args s 0 0 (fun _ => False) := ⟨_, rfl⟩
  rw [← hQ]
  have hown : s.vm.findClass RX2 = some m.cls := hown
  have hl : lv_has ls 2 [(0, .ref q0), (1, .int (nI k))] := hl
  refine lv_aload_n hx hb dX2_numberAt_0 rfl (lv_at hl 0 rfl) ?_
  refine lv_iload_n hx hb dX2_numberAt_1 rfl (lv_at hl 1 rfl) ?_
  refine xVR (q0 := 0) (ci := 2) (As := [.int (nI k)]) (rest := []) (stk := []) ⟨hx, hb, hml, hown, hts⟩ (c_X2_requirePlace γ l q0 q1 q2 q3 q4 kc td a1 n f k (by omega) (by omega) (by omega)) (cwV 1 hts gX2_numberAt_X2_requirePlace rfl rfl rfl hdv_X2_requirePlace ⟨(Nat.le_of_ble_eq_true rfl), (Nat.le_of_ble_eq_true rfl)⟩) hK hP [0, 1, 2] rfl rfl rfl rfl hl.1 rfl (Nat.le_of_ble_eq_true rfl) dX2_numberAt_2 ⟨(Nat.le_of_ble_eq_true rfl), (Nat.le_of_ble_eq_true rfl)⟩ rfl ?_
  refine lv_aload_n hx hb dX2_numberAt_5 rfl (lv_at hl 0 rfl) ?_
  refine va_get (D := γ.1) (ci := 2) (v := .ref q1) (C := RX2) (T := TX2) (N := 6) hx hb hts iwX2_numberAt_2 hown hK hP 0 rfl rfl 0 (by decide) (hts _ flX2_numberAt_10) (fun _ h9 => h9) rfl dX2_numberAt_6 ?_
  refine lv_iload_n hx hb dX2_numberAt_9 rfl (lv_at hl 1 rfl) ?_
  refine xVR (q0 := 1) (ci := 0) (As := [.int (nI k)]) (rest := []) (stk := [.int (f k)]) ⟨hx, hb, hml, hown, hts⟩ (c_X0_at γ l q1 a1 (nI n) f k (by omega)) (cwV 1 hts gX2_numberAt_X0_at rfl rfl rfl hdv_X0_at ⟨(Nat.le_of_ble_eq_true rfl), (Nat.le_of_ble_eq_true rfl)⟩) hK hP [1, 2] rfl rfl rfl rfl hl.1 rfl (Nat.le_of_ble_eq_true rfl) dX2_numberAt_10 ⟨(Nat.le_of_ble_eq_true rfl), (Nat.le_of_ble_eq_true rfl)⟩ rfl ?_
  subst hQ
  exact xR_i hx hb hr hlocks dX2_numberAt_13 (rfl)

theorem flX2_isSteep_10 : Cond.fieldLink RX2 10 "RingSeesaw" "ring" "LRingSeesaw$Ring;" ∈ wsX2_isSteep := by decide +kernel
theorem iwX2_isSteep_2 : ∀ w ∈ wsX20, w ∈ wsX2_isSteep := by decide +kernel
set_option maxHeartbeats 4000000 in
set_option maxRecDepth 100000 in
theorem c_X2_isSteep (γ : xG) (l : Launch) (q0 q1 q2 q3 q4 kc : Nat) (td : Int32) (a1 n : Nat) (f : xRow) (k : Nat) (hn0 : 3 ≤ n) (hn1 : n ≤ 12) (hk : k < n) : xR γ l yX2_isSteep wsX2_isSteep ({ frames := 2, cells := 0, slots := 0, locals := 42 } : Room) [.ref q0, .int (nI k)] ([xO q0 2 [.ref q1, .ref q4, .int (nI kc), .int td, .ref q2, .ref q3], xO q1 0 [.ref a1, .int (nI n)], xA γ a1 12 f]) (some (.int (if xSt n f k = true then 1 else 0))) := by
  refine xR.of (cc := cX2_isSteep) (maxL := 2) (ret := (some .boolean)) (by decide +kernel) rfl (Nat.le_of_ble_eq_true rfl) ?_
  intro p e s m below meth c hx hb hr hml hts hown hlocks hP hK ls hl
  generalize hargs : ([.ref q0, .int (nI k)] : List Value).toArray = args at hts ⊢
  obtain ⟨Q, hQ⟩ : ∃ Q9, Q9 = MQ below (xRQ (some (.int (if xSt n f k = true then 1 else 0)))) args s 0 0 (fun _ => False) := ⟨_, rfl⟩
  rw [← hQ]
  have hown : s.vm.findClass RX2 = some m.cls := hown
  have hl : lv_has ls 2 [(0, .ref q0), (1, .int (nI k))] := hl
  refine lv_aload_n hx hb dX2_isSteep_0 rfl (lv_at hl 0 rfl) ?_
  refine lv_iload_n hx hb dX2_isSteep_1 rfl (lv_at hl 1 rfl) ?_
  refine xVR (q0 := 0) (ci := 2) (As := [.int (nI k)]) (rest := []) (stk := []) ⟨hx, hb, hml, hown, hts⟩ (c_X2_requirePlace γ l q0 q1 q2 q3 q4 kc td a1 n f k (by omega) (by omega) (by omega)) (cwV 1 hts gX2_isSteep_X2_requirePlace rfl rfl rfl hdv_X2_requirePlace ⟨(Nat.le_of_ble_eq_true rfl), (Nat.le_of_ble_eq_true rfl)⟩) hK hP [0, 1, 2] rfl rfl rfl rfl hl.1 rfl (Nat.le_of_ble_eq_true rfl) dX2_isSteep_2 ⟨(Nat.le_of_ble_eq_true rfl), (Nat.le_of_ble_eq_true rfl)⟩ rfl ?_
  refine lv_aload_n hx hb dX2_isSteep_5 rfl (lv_at hl 0 rfl) ?_
  refine va_get (D := γ.1) (ci := 2) (v := .ref q1) (C := RX2) (T := TX2) (N := 6) hx hb hts iwX2_isSteep_2 hown hK hP 0 rfl rfl 0 (by decide) (hts _ flX2_isSteep_10) (fun _ h9 => h9) rfl dX2_isSteep_6 ?_
  refine lv_iload_n hx hb dX2_isSteep_9 rfl (lv_at hl 1 rfl) ?_
  refine xVR (q0 := 1) (ci := 0) (As := [.int (nI k)]) (rest := []) (stk := [.int (if xSt n f k = true then 1 else 0)]) ⟨hx, hb, hml, hown, hts⟩ (c_X0_steepAt γ l q1 a1 n f k (by omega) (by omega) (by omega)) (cwV 1 hts gX2_isSteep_X0_steepAt rfl rfl rfl hdv_X0_steepAt ⟨(Nat.le_of_ble_eq_true rfl), (Nat.le_of_ble_eq_true rfl)⟩) hK hP [1, 2] rfl rfl rfl rfl hl.1 rfl (Nat.le_of_ble_eq_true rfl) dX2_isSteep_10 ⟨(Nat.le_of_ble_eq_true rfl), (Nat.le_of_ble_eq_true rfl)⟩ rfl ?_
  subst hQ
  exact xR_z hx hb hr hlocks dX2_isSteep_13 (xB_z _) (rfl)

theorem hdv_X0_tiltOn : yX0_tiltOn.cls = RX0 ∧ yX0_tiltOn.cls ≠ "java/lang/invoke/MethodHandle" ∧ yX0_tiltOn.cls ≠ "java/lang/invoke/VarHandle" ∧ (parseMethodDescriptor yX0_tiltOn.desc).map (fun d => d.parameters.length) = some 1 := by decide +kernel
theorem flX2_tilt_10 : Cond.fieldLink RX2 10 "RingSeesaw" "ring" "LRingSeesaw$Ring;" ∈ wsX2_tilt := by decide +kernel
theorem iwX2_tilt_2 : ∀ w ∈ wsX20, w ∈ wsX2_tilt := by decide +kernel
set_option maxHeartbeats 4000000 in
set_option maxRecDepth 100000 in
theorem c_X2_tilt (γ : xG) (l : Launch) (q0 q1 q2 q3 q4 kc : Nat) (td : Int32) (a1 n : Nat) (f : xRow) (k : Nat) (hn0 : 3 ≤ n) (hn1 : n ≤ 12) (hk : k < n) : xR γ l yX2_tilt wsX2_tilt ({ frames := 2, cells := 0, slots := 0, locals := 44 } : Room) [.ref q0, .int (nI k)] ([xO q0 2 [.ref q1, .ref q4, .int (nI kc), .int td, .ref q2, .ref q3], xO q1 0 [.ref a1, .int (nI n)], xA γ a1 12 f]) (some (.int (xTlt n f k))) := by
  refine xR.of (cc := cX2_tilt) (maxL := 2) (ret := (some .int)) (by decide +kernel) rfl (Nat.le_of_ble_eq_true rfl) ?_
  intro p e s m below meth c hx hb hr hml hts hown hlocks hP hK ls hl
  generalize hargs : ([.ref q0, .int (nI k)] : List Value).toArray = args at hts ⊢
  obtain ⟨Q, hQ⟩ : ∃ Q9, Q9 = MQ below (xRQ (some (.int (xTlt n f k)))) args s 0 0 (fun _ => False) := ⟨_, rfl⟩
  rw [← hQ]
  have hown : s.vm.findClass RX2 = some m.cls := hown
  have hl : lv_has ls 2 [(0, .ref q0), (1, .int (nI k))] := hl
  refine lv_aload_n hx hb dX2_tilt_0 rfl (lv_at hl 0 rfl) ?_
  refine lv_iload_n hx hb dX2_tilt_1 rfl (lv_at hl 1 rfl) ?_
  refine xVR (q0 := 0) (ci := 2) (As := [.int (nI k)]) (rest := []) (stk := []) ⟨hx, hb, hml, hown, hts⟩ (c_X2_requirePlace γ l q0 q1 q2 q3 q4 kc td a1 n f k (by omega) (by omega) (by omega)) (cwV 1 hts gX2_tilt_X2_requirePlace rfl rfl rfl hdv_X2_requirePlace ⟨(Nat.le_of_ble_eq_true rfl), (Nat.le_of_ble_eq_true rfl)⟩) hK hP [0, 1, 2] rfl rfl rfl rfl hl.1 rfl (Nat.le_of_ble_eq_true rfl) dX2_tilt_2 ⟨(Nat.le_of_ble_eq_true rfl), (Nat.le_of_ble_eq_true rfl)⟩ rfl ?_
  refine lv_aload_n hx hb dX2_tilt_5 rfl (lv_at hl 0 rfl) ?_
  refine va_get (D := γ.1) (ci := 2) (v := .ref q1) (C := RX2) (T := TX2) (N := 6) hx hb hts iwX2_tilt_2 hown hK hP 0 rfl rfl 0 (by decide) (hts _ flX2_tilt_10) (fun _ h9 => h9) rfl dX2_tilt_6 ?_
  refine lv_iload_n hx hb dX2_tilt_9 rfl (lv_at hl 1 rfl) ?_
  refine xVR (q0 := 1) (ci := 0) (As := [.int (nI k)]) (rest := []) (stk := [.int (xTlt n f k)]) ⟨hx, hb, hml, hown, hts⟩ (c_X0_tiltOn γ l q1 a1 n f k (by omega) (by omega) (by omega)) (cwV 1 hts gX2_tilt_X0_tiltOn rfl rfl rfl hdv_X0_tiltOn ⟨(Nat.le_of_ble_eq_true rfl), (Nat.le_of_ble_eq_true rfl)⟩) hK hP [1, 2] rfl rfl rfl rfl hl.1 rfl (Nat.le_of_ble_eq_true rfl) dX2_tilt_10 ⟨(Nat.le_of_ble_eq_true rfl), (Nat.le_of_ble_eq_true rfl)⟩ rfl ?_
  subst hQ
  exact xR_i hx hb hr hlocks dX2_tilt_13 (rfl)

theorem flX2_steepPlaces_10 : Cond.fieldLink RX2 10 "RingSeesaw" "ring" "LRingSeesaw$Ring;" ∈ wsX2_steepPlaces := by decide +kernel
theorem iwX2_steepPlaces_2 : ∀ w ∈ wsX20, w ∈ wsX2_steepPlaces := by decide +kernel
set_option maxHeartbeats 4000000 in
set_option maxRecDepth 100000 in
theorem c_X2_steepPlaces (γ : xG) (l : Launch) (q0 q1 q2 q3 q4 kc : Nat) (td : Int32) (a1 n : Nat) (f : xRow) (hn0 : 3 ≤ n) (hn1 : n ≤ 12) : xR γ l yX2_steepPlaces wsX2_steepPlaces ({ frames := 2, cells := 0, slots := 0, locals := 42 } : Room) [.ref q0] ([xO q0 2 [.ref q1, .ref q4, .int (nI kc), .int td, .ref q2, .ref q3], xO q1 0 [.ref a1, .int (nI n)], xA γ a1 12 f]) (some (.int (nI (xCnt (xSt n f) n)))) := by
  refine xR.of (cc := cX2_steepPlaces) (maxL := 3) (ret := (some .int)) (by decide +kernel) rfl (Nat.le_of_ble_eq_true rfl) ?_
  intro p e s m below meth c hx hb hr hml hts hown hlocks hP hK ls hl
  generalize hargs : ([.ref q0] : List Value).toArray = args at hts ⊢
  obtain ⟨Q, hQ⟩ : ∃ Q9, Q9 = MQ below (xRQ (some (.int (nI (xCnt (xSt n f) n))))) args s 0 0 (fun _ => False) := ⟨_, rfl⟩
  rw [← hQ]
  have hown : s.vm.findClass RX2 = some m.cls := hown
  have hl : lv_has ls 3 [(0, .ref q0)] := hl
  refine lv_iconst (v := 0) hx hb dX2_steepPlaces_0 (by decide) ?_
  refine lv_istore_n (lv' := [(1, .int 0), (0, .ref q0)]) hx hb dX2_steepPlaces_1 rfl hl (by decide) rfl (fun ls hl => ?_)
  refine lv_iconst (v := 0) hx hb dX2_steepPlaces_2 (by decide) ?_
  refine lv_istore_n (lv' := [(2, .int 0), (1, .int 0), (0, .ref q0)]) hx hb dX2_steepPlaces_3 rfl hl (by decide) rfl (fun ls hl => ?_)
  have loop4 : ∀ j : Nat, ∀ (k : Nat), k + j = n → ∀ ls : Array Slot, lv_has ls 3 [(0, .ref q0), (1, .int (nI (xCnt (xSt n f) k))), (2, .int (nI k))] → W p l e ({ frames := 2, cells := 0, slots := 0, locals := 42 } : Room) s m args below meth c s.heap [] 0 0 Q (F0 m 4 ls []) := by
    intro j
    induction j with
    | zero =>
      intro k hj ls hl
      refine lv_iload_n hx hb dX2_steepPlaces_4 rfl (lv_at hl 2 rfl) ?_
      refine lv_aload_n hx hb dX2_steepPlaces_5 rfl (lv_at hl 0 rfl) ?_
      refine va_get (D := γ.1) (ci := 2) (v := .ref q1) (C := RX2) (T := TX2) (N := 6) hx hb hts iwX2_steepPlaces_2 hown hK hP 0 rfl rfl 0 (by decide) (hts _ flX2_steepPlaces_10) (fun _ h9 => h9) rfl dX2_steepPlaces_6 ?_
      refine xVR (q0 := 1) (ci := 0) (As := []) (rest := [.int (nI k)]) (stk := [.int (nI n), .int (nI k)]) ⟨hx, hb, hml, hown, hts⟩ (c_X0_size γ l q1 a1 n f) (cwV 0 hts gX2_steepPlaces_X0_size rfl rfl rfl hdv_X0_size ⟨(Nat.le_of_ble_eq_true rfl), (Nat.le_of_ble_eq_true rfl)⟩) hK hP [1, 2] rfl rfl rfl rfl hl.1 rfl (Nat.le_of_ble_eq_true rfl) dX2_steepPlaces_9 ⟨(Nat.le_of_ble_eq_true rfl), (Nat.le_of_ble_eq_true rfl)⟩ rfl ?_
      refine lv_icmp_ge (tgt := 35) hx hb dX2_steepPlaces_12 (by decide) (fun _ => ?_) (fun c => absurd (nI_le (a := n) (b := k) (by omega) (by omega)) c)
      refine lv_iload_n hx hb dX2_steepPlaces_35 rfl (lv_at hl 1 rfl) ?_
      subst hQ
      exact xR_i hx hb hr hlocks dX2_steepPlaces_36 (by rw [show k = n by omega])
    | succ j ih4 =>
      intro k hj ls hl
      refine lv_iload_n hx hb dX2_steepPlaces_4 rfl (lv_at hl 2 rfl) ?_
      refine lv_aload_n hx hb dX2_steepPlaces_5 rfl (lv_at hl 0 rfl) ?_
      refine va_get (D := γ.1) (ci := 2) (v := .ref q1) (C := RX2) (T := TX2) (N := 6) hx hb hts iwX2_steepPlaces_2 hown hK hP 0 rfl rfl 0 (by decide) (hts _ flX2_steepPlaces_10) (fun _ h9 => h9) rfl dX2_steepPlaces_6 ?_
      refine xVR (q0 := 1) (ci := 0) (As := []) (rest := [.int (nI k)]) (stk := [.int (nI n), .int (nI k)]) ⟨hx, hb, hml, hown, hts⟩ (c_X0_size γ l q1 a1 n f) (cwV 0 hts gX2_steepPlaces_X0_size rfl rfl rfl hdv_X0_size ⟨(Nat.le_of_ble_eq_true rfl), (Nat.le_of_ble_eq_true rfl)⟩) hK hP [1, 2] rfl rfl rfl rfl hl.1 rfl (Nat.le_of_ble_eq_true rfl) dX2_steepPlaces_9 ⟨(Nat.le_of_ble_eq_true rfl), (Nat.le_of_ble_eq_true rfl)⟩ rfl ?_
      refine lv_icmp_ge (tgt := 35) hx hb dX2_steepPlaces_12 (by decide) (fun c => absurd c (nI_ge (a := k) (b := n) (by omega) (by omega))) (fun _ => ?_)
      refine lv_aload_n hx hb dX2_steepPlaces_15 rfl (lv_at hl 0 rfl) ?_
      refine va_get (D := γ.1) (ci := 2) (v := .ref q1) (C := RX2) (T := TX2) (N := 6) hx hb hts iwX2_steepPlaces_2 hown hK hP 0 rfl rfl 0 (by decide) (hts _ flX2_steepPlaces_10) (fun _ h9 => h9) rfl dX2_steepPlaces_16 ?_
      refine lv_iload_n hx hb dX2_steepPlaces_19 rfl (lv_at hl 2 rfl) ?_
      refine xVR (q0 := 1) (ci := 0) (As := [.int (nI k)]) (rest := []) (stk := [.int (if xSt n f k = true then 1 else 0)]) ⟨hx, hb, hml, hown, hts⟩ (c_X0_steepAt γ l q1 a1 n f k (by omega) (by omega) (by omega)) (cwV 1 hts gX2_steepPlaces_X0_steepAt rfl rfl rfl hdv_X0_steepAt ⟨(Nat.le_of_ble_eq_true rfl), (Nat.le_of_ble_eq_true rfl)⟩) hK hP [1, 2] rfl rfl rfl rfl hl.1 rfl (Nat.le_of_ble_eq_true rfl) dX2_steepPlaces_20 ⟨(Nat.le_of_ble_eq_true rfl), (Nat.le_of_ble_eq_true rfl)⟩ rfl ?_
      refine lv_if_eq (tgt := 29) hx hb dX2_steepPlaces_23 (by decide) (fun c9 => ?_) (fun c9 => ?_)
      · rw [← xCnt_f (P := (xSt n f)) (xB_f c9)] at hl
        refine lv_iinc (v := nI (k + 1)) (lv' := [(2, .int (nI (k + 1))), (0, .ref q0), (1, .int (nI (xCnt (xSt n f) (k + 1))))]) hx hb dX2_steepPlaces_29 hl (k := 2) rfl (nI_add k 1) (by decide) rfl (fun ls hl => ?_)
        refine lv_goto (tgt := 4) hx hb dX2_steepPlaces_32 (by decide) ?_
        exact ih4 (k + 1) (by omega) ls (lv_sub hl [1, 2, 0] rfl)
      · refine lv_iinc (v := nI (xCnt (xSt n f) (k + 1))) (lv' := [(1, .int (nI (xCnt (xSt n f) (k + 1)))), (0, .ref q0), (2, .int (nI k))]) hx hb dX2_steepPlaces_26 hl (k := 1) rfl ((nI_1 _).trans (congrArg nI (xCnt_t (P := (xSt n f)) (xB_t c9)).symm)) (by decide) rfl (fun ls hl => ?_)
        refine lv_iinc (v := nI (k + 1)) (lv' := [(2, .int (nI (k + 1))), (1, .int (nI (xCnt (xSt n f) (k + 1)))), (0, .ref q0)]) hx hb dX2_steepPlaces_29 hl (k := 2) rfl (nI_add k 1) (by decide) rfl (fun ls hl => ?_)
        refine lv_goto (tgt := 4) hx hb dX2_steepPlaces_32 (by decide) ?_
        exact ih4 (k + 1) (by omega) ls (lv_sub hl [2, 1, 0] rfl)
  exact loop4 n 0 (by omega) ls (lv_sub hl [2, 1, 0] rfl)

theorem flX2_levelAxes_10 : Cond.fieldLink RX2 10 "RingSeesaw" "ring" "LRingSeesaw$Ring;" ∈ wsX2_levelAxes := by decide +kernel
theorem iwX2_levelAxes_2 : ∀ w ∈ wsX20, w ∈ wsX2_levelAxes := by decide +kernel
set_option maxHeartbeats 4000000 in
set_option maxRecDepth 100000 in
theorem c_X2_levelAxes (γ : xG) (l : Launch) (q0 q1 q2 q3 q4 kc : Nat) (td : Int32) (a1 n : Nat) (f : xRow) (hn0 : 3 ≤ n) (hn1 : n ≤ 12) : xR γ l yX2_levelAxes wsX2_levelAxes ({ frames := 2, cells := 0, slots := 0, locals := 44 } : Room) [.ref q0] ([xO q0 2 [.ref q1, .ref q4, .int (nI kc), .int td, .ref q2, .ref q3], xO q1 0 [.ref a1, .int (nI n)], xA γ a1 12 f]) (some (.int (nI (xCnt (xLv n f) n)))) := by
  refine xR.of (cc := cX2_levelAxes) (maxL := 3) (ret := (some .int)) (by decide +kernel) rfl (Nat.le_of_ble_eq_true rfl) ?_
  intro p e s m below meth c hx hb hr hml hts hown hlocks hP hK ls hl
  generalize hargs : ([.ref q0] : List Value).toArray = args at hts ⊢
  obtain ⟨Q, hQ⟩ : ∃ Q9, Q9 = MQ below (xRQ (some (.int (nI (xCnt (xLv n f) n))))) args s 0 0 (fun _ => False) := ⟨_, rfl⟩
  rw [← hQ]
  have hown : s.vm.findClass RX2 = some m.cls := hown
  have hl : lv_has ls 3 [(0, .ref q0)] := hl
  refine lv_iconst (v := 0) hx hb dX2_levelAxes_0 (by decide) ?_
  refine lv_istore_n (lv' := [(1, .int 0), (0, .ref q0)]) hx hb dX2_levelAxes_1 rfl hl (by decide) rfl (fun ls hl => ?_)
  refine lv_iconst (v := 0) hx hb dX2_levelAxes_2 (by decide) ?_
  refine lv_istore_n (lv' := [(2, .int 0), (1, .int 0), (0, .ref q0)]) hx hb dX2_levelAxes_3 rfl hl (by decide) rfl (fun ls hl => ?_)
  have loop4 : ∀ j : Nat, ∀ (k : Nat), k + j = n → ∀ ls : Array Slot, lv_has ls 3 [(0, .ref q0), (1, .int (nI (xCnt (xLv n f) k))), (2, .int (nI k))] → W p l e ({ frames := 2, cells := 0, slots := 0, locals := 44 } : Room) s m args below meth c s.heap [] 0 0 Q (F0 m 4 ls []) := by
    intro j
    induction j with
    | zero =>
      intro k hj ls hl
      refine lv_iload_n hx hb dX2_levelAxes_4 rfl (lv_at hl 2 rfl) ?_
      refine lv_aload_n hx hb dX2_levelAxes_5 rfl (lv_at hl 0 rfl) ?_
      refine va_get (D := γ.1) (ci := 2) (v := .ref q1) (C := RX2) (T := TX2) (N := 6) hx hb hts iwX2_levelAxes_2 hown hK hP 0 rfl rfl 0 (by decide) (hts _ flX2_levelAxes_10) (fun _ h9 => h9) rfl dX2_levelAxes_6 ?_
      refine xVR (q0 := 1) (ci := 0) (As := []) (rest := [.int (nI k)]) (stk := [.int (nI n), .int (nI k)]) ⟨hx, hb, hml, hown, hts⟩ (c_X0_size γ l q1 a1 n f) (cwV 0 hts gX2_levelAxes_X0_size rfl rfl rfl hdv_X0_size ⟨(Nat.le_of_ble_eq_true rfl), (Nat.le_of_ble_eq_true rfl)⟩) hK hP [1, 2] rfl rfl rfl rfl hl.1 rfl (Nat.le_of_ble_eq_true rfl) dX2_levelAxes_9 ⟨(Nat.le_of_ble_eq_true rfl), (Nat.le_of_ble_eq_true rfl)⟩ rfl ?_
      refine lv_icmp_ge (tgt := 35) hx hb dX2_levelAxes_12 (by decide) (fun _ => ?_) (fun c => absurd (nI_le (a := n) (b := k) (by omega) (by omega)) c)
      refine lv_iload_n hx hb dX2_levelAxes_35 rfl (lv_at hl 1 rfl) ?_
      subst hQ
      exact xR_i hx hb hr hlocks dX2_levelAxes_36 (by rw [show k = n by omega])
    | succ j ih4 =>
      intro k hj ls hl
      refine lv_iload_n hx hb dX2_levelAxes_4 rfl (lv_at hl 2 rfl) ?_
      refine lv_aload_n hx hb dX2_levelAxes_5 rfl (lv_at hl 0 rfl) ?_
      refine va_get (D := γ.1) (ci := 2) (v := .ref q1) (C := RX2) (T := TX2) (N := 6) hx hb hts iwX2_levelAxes_2 hown hK hP 0 rfl rfl 0 (by decide) (hts _ flX2_levelAxes_10) (fun _ h9 => h9) rfl dX2_levelAxes_6 ?_
      refine xVR (q0 := 1) (ci := 0) (As := []) (rest := [.int (nI k)]) (stk := [.int (nI n), .int (nI k)]) ⟨hx, hb, hml, hown, hts⟩ (c_X0_size γ l q1 a1 n f) (cwV 0 hts gX2_levelAxes_X0_size rfl rfl rfl hdv_X0_size ⟨(Nat.le_of_ble_eq_true rfl), (Nat.le_of_ble_eq_true rfl)⟩) hK hP [1, 2] rfl rfl rfl rfl hl.1 rfl (Nat.le_of_ble_eq_true rfl) dX2_levelAxes_9 ⟨(Nat.le_of_ble_eq_true rfl), (Nat.le_of_ble_eq_true rfl)⟩ rfl ?_
      refine lv_icmp_ge (tgt := 35) hx hb dX2_levelAxes_12 (by decide) (fun c => absurd c (nI_ge (a := k) (b := n) (by omega) (by omega))) (fun _ => ?_)
      refine lv_aload_n hx hb dX2_levelAxes_15 rfl (lv_at hl 0 rfl) ?_
      refine va_get (D := γ.1) (ci := 2) (v := .ref q1) (C := RX2) (T := TX2) (N := 6) hx hb hts iwX2_levelAxes_2 hown hK hP 0 rfl rfl 0 (by decide) (hts _ flX2_levelAxes_10) (fun _ h9 => h9) rfl dX2_levelAxes_16 ?_
      refine lv_iload_n hx hb dX2_levelAxes_19 rfl (lv_at hl 2 rfl) ?_
      refine xVR (q0 := 1) (ci := 0) (As := [.int (nI k)]) (rest := []) (stk := [.int (xTlt n f k)]) ⟨hx, hb, hml, hown, hts⟩ (c_X0_tiltOn γ l q1 a1 n f k (by omega) (by omega) (by omega)) (cwV 1 hts gX2_levelAxes_X0_tiltOn rfl rfl rfl hdv_X0_tiltOn ⟨(Nat.le_of_ble_eq_true rfl), (Nat.le_of_ble_eq_true rfl)⟩) hK hP [1, 2] rfl rfl rfl rfl hl.1 rfl (Nat.le_of_ble_eq_true rfl) dX2_levelAxes_20 ⟨(Nat.le_of_ble_eq_true rfl), (Nat.le_of_ble_eq_true rfl)⟩ rfl ?_
      refine lv_if_ne (tgt := 29) hx hb dX2_levelAxes_23 (by decide) (fun c9 => ?_) (fun c9 => ?_)
      · rw [← xCnt_f (P := (xLv n f)) (xLv_f c9)] at hl
        refine lv_iinc (v := nI (k + 1)) (lv' := [(2, .int (nI (k + 1))), (0, .ref q0), (1, .int (nI (xCnt (xLv n f) (k + 1))))]) hx hb dX2_levelAxes_29 hl (k := 2) rfl (nI_add k 1) (by decide) rfl (fun ls hl => ?_)
        refine lv_goto (tgt := 4) hx hb dX2_levelAxes_32 (by decide) ?_
        exact ih4 (k + 1) (by omega) ls (lv_sub hl [1, 2, 0] rfl)
      · refine lv_iinc (v := nI (xCnt (xLv n f) (k + 1))) (lv' := [(1, .int (nI (xCnt (xLv n f) (k + 1)))), (0, .ref q0), (2, .int (nI k))]) hx hb dX2_levelAxes_26 hl (k := 1) rfl ((nI_1 _).trans (congrArg nI (xCnt_t (P := (xLv n f)) (xLv_t c9)).symm)) (by decide) rfl (fun ls hl => ?_)
        refine lv_iinc (v := nI (k + 1)) (lv' := [(2, .int (nI (k + 1))), (1, .int (nI (xCnt (xLv n f) (k + 1)))), (0, .ref q0)]) hx hb dX2_levelAxes_29 hl (k := 2) rfl (nI_add k 1) (by decide) rfl (fun ls hl => ?_)
        refine lv_goto (tgt := 4) hx hb dX2_levelAxes_32 (by decide) ?_
        exact ih4 (k + 1) (by omega) ls (lv_sub hl [2, 1, 0] rfl)
  exact loop4 n 0 (by omega) ls (lv_sub hl [2, 1, 0] rfl)

theorem flX2_bestAxis_10 : Cond.fieldLink RX2 10 "RingSeesaw" "ring" "LRingSeesaw$Ring;" ∈ wsX2_bestAxis := by decide +kernel
theorem iwX2_bestAxis_2 : ∀ w ∈ wsX20, w ∈ wsX2_bestAxis := by decide +kernel
theorem wdX2_bestAxis_m72a : Cond.methodLink RX2 72 Lib.Math.abs.name ∈ wsX2_bestAxis := by decide +kernel
theorem wdX2_bestAxis_m72b : Cond.static Lib.Math.abs.name ∈ wsX2_bestAxis := by decide +kernel
theorem wdX2_bestAxis_m72c : Cond.initialized "java/lang/Math" ∈ wsX2_bestAxis := by decide +kernel
theorem wdX2_bestAxis_m72d : Cond.code Lib.Math.abs.name Lib.Math.abs.code 1 (some .int) ∈ wsX2_bestAxis := by decide +kernel
set_option maxHeartbeats 4000000 in
set_option maxRecDepth 100000 in
theorem c_X2_bestAxis (γ : xG) (l : Launch) (q0 q1 q2 q3 q4 kc : Nat) (td : Int32) (a1 n : Nat) (f : xRow) (hn0 : 3 ≤ n) (hn1 : n ≤ 12) : xR γ l yX2_bestAxis wsX2_bestAxis ({ frames := 2, cells := 0, slots := 0, locals := 44 } : Room) [.ref q0] ([xO q0 2 [.ref q1, .ref q4, .int (nI kc), .int td, .ref q2, .ref q3], xO q1 0 [.ref a1, .int (nI n)], xA γ a1 12 f]) (some (.int (nI (xBa (xTlt n f) (n - 1))))) := by
  refine xR.of (cc := cX2_bestAxis) (maxL := 3) (ret := (some .int)) (by decide +kernel) rfl (Nat.le_of_ble_eq_true rfl) ?_
  intro p e s m below meth c hx hb hr hml hts hown hlocks hP hK ls hl
  generalize hargs : ([.ref q0] : List Value).toArray = args at hts ⊢
  obtain ⟨Q, hQ⟩ : ∃ Q9, Q9 = MQ below (xRQ (some (.int (nI (xBa (xTlt n f) (n - 1)))))) args s 0 0 (fun _ => False) := ⟨_, rfl⟩
  rw [← hQ]
  have hown : s.vm.findClass RX2 = some m.cls := hown
  have hl : lv_has ls 3 [(0, .ref q0)] := hl
  refine lv_iconst (v := 0) hx hb dX2_bestAxis_0 (by decide) ?_
  refine lv_istore_n (lv' := [(1, .int 0), (0, .ref q0)]) hx hb dX2_bestAxis_1 rfl hl (by decide) rfl (fun ls hl => ?_)
  refine lv_iconst (v := 1) hx hb dX2_bestAxis_2 (by decide) ?_
  refine lv_istore_n (lv' := [(2, .int 1), (1, .int 0), (0, .ref q0)]) hx hb dX2_bestAxis_3 rfl hl (by decide) rfl (fun ls hl => ?_)
  have loop4 : ∀ j : Nat, ∀ (k : Nat), k + 1 + j = n → ∀ ls : Array Slot, lv_has ls 3 [(0, .ref q0), (1, .int (nI (xBa (xTlt n f) k))), (2, .int (nI (k + 1)))] → W p l e ({ frames := 2, cells := 0, slots := 0, locals := 44 } : Room) s m args below meth c s.heap [] 0 0 Q (F0 m 4 ls []) := by
    intro j
    induction j with
    | zero =>
      intro k hj ls hl
      refine lv_iload_n hx hb dX2_bestAxis_4 rfl (lv_at hl 2 rfl) ?_
      refine lv_aload_n hx hb dX2_bestAxis_5 rfl (lv_at hl 0 rfl) ?_
      refine va_get (D := γ.1) (ci := 2) (v := .ref q1) (C := RX2) (T := TX2) (N := 6) hx hb hts iwX2_bestAxis_2 hown hK hP 0 rfl rfl 0 (by decide) (hts _ flX2_bestAxis_10) (fun _ h9 => h9) rfl dX2_bestAxis_6 ?_
      refine xVR (q0 := 1) (ci := 0) (As := []) (rest := [.int (nI (k + 1))]) (stk := [.int (nI n), .int (nI (k + 1))]) ⟨hx, hb, hml, hown, hts⟩ (c_X0_size γ l q1 a1 n f) (cwV 0 hts gX2_bestAxis_X0_size rfl rfl rfl hdv_X0_size ⟨(Nat.le_of_ble_eq_true rfl), (Nat.le_of_ble_eq_true rfl)⟩) hK hP [1, 2] rfl rfl rfl rfl hl.1 rfl (Nat.le_of_ble_eq_true rfl) dX2_bestAxis_9 ⟨(Nat.le_of_ble_eq_true rfl), (Nat.le_of_ble_eq_true rfl)⟩ rfl ?_
      refine lv_icmp_ge (tgt := 48) hx hb dX2_bestAxis_12 (by decide) (fun _ => ?_) (fun c => absurd (nI_le (a := n) (b := k + 1) (by omega) (by omega)) c)
      refine lv_iload_n hx hb dX2_bestAxis_48 rfl (lv_at hl 1 rfl) ?_
      subst hQ
      exact xR_i hx hb hr hlocks dX2_bestAxis_49 (by rw [show k = n - 1 by omega])
    | succ j ih4 =>
      intro k hj ls hl
      refine lv_iload_n hx hb dX2_bestAxis_4 rfl (lv_at hl 2 rfl) ?_
      refine lv_aload_n hx hb dX2_bestAxis_5 rfl (lv_at hl 0 rfl) ?_
      refine va_get (D := γ.1) (ci := 2) (v := .ref q1) (C := RX2) (T := TX2) (N := 6) hx hb hts iwX2_bestAxis_2 hown hK hP 0 rfl rfl 0 (by decide) (hts _ flX2_bestAxis_10) (fun _ h9 => h9) rfl dX2_bestAxis_6 ?_
      refine xVR (q0 := 1) (ci := 0) (As := []) (rest := [.int (nI (k + 1))]) (stk := [.int (nI n), .int (nI (k + 1))]) ⟨hx, hb, hml, hown, hts⟩ (c_X0_size γ l q1 a1 n f) (cwV 0 hts gX2_bestAxis_X0_size rfl rfl rfl hdv_X0_size ⟨(Nat.le_of_ble_eq_true rfl), (Nat.le_of_ble_eq_true rfl)⟩) hK hP [1, 2] rfl rfl rfl rfl hl.1 rfl (Nat.le_of_ble_eq_true rfl) dX2_bestAxis_9 ⟨(Nat.le_of_ble_eq_true rfl), (Nat.le_of_ble_eq_true rfl)⟩ rfl ?_
      refine lv_icmp_ge (tgt := 48) hx hb dX2_bestAxis_12 (by decide) (fun c => absurd c (nI_ge (a := k + 1) (b := n) (by omega) (by omega))) (fun _ => ?_)
      have ht := xBa_le (xTlt n f) k
      refine lv_aload_n hx hb dX2_bestAxis_15 rfl (lv_at hl 0 rfl) ?_
      refine va_get (D := γ.1) (ci := 2) (v := .ref q1) (C := RX2) (T := TX2) (N := 6) hx hb hts iwX2_bestAxis_2 hown hK hP 0 rfl rfl 0 (by decide) (hts _ flX2_bestAxis_10) (fun _ h9 => h9) rfl dX2_bestAxis_16 ?_
      refine lv_iload_n hx hb dX2_bestAxis_19 rfl (lv_at hl 2 rfl) ?_
      refine xVR (q0 := 1) (ci := 0) (As := [.int (nI (k + 1))]) (rest := []) (stk := [.int (xTlt n f (k + 1))]) ⟨hx, hb, hml, hown, hts⟩ (c_X0_tiltOn γ l q1 a1 n f (k + 1) (by omega) (by omega) (by omega)) (cwV 1 hts gX2_bestAxis_X0_tiltOn rfl rfl rfl hdv_X0_tiltOn ⟨(Nat.le_of_ble_eq_true rfl), (Nat.le_of_ble_eq_true rfl)⟩) hK hP [1, 2] rfl rfl rfl rfl hl.1 rfl (Nat.le_of_ble_eq_true rfl) dX2_bestAxis_20 ⟨(Nat.le_of_ble_eq_true rfl), (Nat.le_of_ble_eq_true rfl)⟩ rfl ?_
      refine va_mabs hx hb (hml.trans hl.1.symm) hown (hts _ wdX2_bestAxis_m72a) (hts _ wdX2_bestAxis_m72b) (hts _ wdX2_bestAxis_m72c) (hts _ wdX2_bestAxis_m72d) (Nat.le_of_ble_eq_true rfl) (Nat.le_of_ble_eq_true rfl) (Nat.le_of_ble_eq_true rfl) (Nat.le_of_ble_eq_true rfl) dX2_bestAxis_23 ?_
      refine lv_aload_n hx hb dX2_bestAxis_26 rfl (lv_at hl 0 rfl) ?_
      refine va_get (D := γ.1) (ci := 2) (v := .ref q1) (C := RX2) (T := TX2) (N := 6) hx hb hts iwX2_bestAxis_2 hown hK hP 0 rfl rfl 0 (by decide) (hts _ flX2_bestAxis_10) (fun _ h9 => h9) rfl dX2_bestAxis_27 ?_
      refine lv_iload_n hx hb dX2_bestAxis_30 rfl (lv_at hl 1 rfl) ?_
      refine xVR (q0 := 1) (ci := 0) (As := [.int (nI (xBa (xTlt n f) k))]) (rest := [.int (if 0 ≤ (xTlt n f (k + 1)) then (xTlt n f (k + 1)) else 0 - (xTlt n f (k + 1)))]) (stk := [.int (xTlt n f (xBa (xTlt n f) k)), .int (if 0 ≤ (xTlt n f (k + 1)) then (xTlt n f (k + 1)) else 0 - (xTlt n f (k + 1)))]) ⟨hx, hb, hml, hown, hts⟩ (c_X0_tiltOn γ l q1 a1 n f (xBa (xTlt n f) k) (by omega) (by omega) (by omega)) (cwV 1 hts gX2_bestAxis_X0_tiltOn rfl rfl rfl hdv_X0_tiltOn ⟨(Nat.le_of_ble_eq_true rfl), (Nat.le_of_ble_eq_true rfl)⟩) hK hP [1, 2] rfl rfl rfl rfl hl.1 rfl (Nat.le_of_ble_eq_true rfl) dX2_bestAxis_31 ⟨(Nat.le_of_ble_eq_true rfl), (Nat.le_of_ble_eq_true rfl)⟩ rfl ?_
      refine va_mabs hx hb (hml.trans hl.1.symm) hown (hts _ wdX2_bestAxis_m72a) (hts _ wdX2_bestAxis_m72b) (hts _ wdX2_bestAxis_m72c) (hts _ wdX2_bestAxis_m72d) (Nat.le_of_ble_eq_true rfl) (Nat.le_of_ble_eq_true rfl) (Nat.le_of_ble_eq_true rfl) (Nat.le_of_ble_eq_true rfl) dX2_bestAxis_34 ?_
      refine lv_icmp_ge (tgt := 42) hx hb dX2_bestAxis_37 (by decide) (fun c37 => ?_) (fun c37 => ?_)
      · rw [← xBa_f (G := xTlt n f) c37] at hl
        refine lv_iinc (v := nI (k + 1 + 1)) (lv' := [(2, .int (nI (k + 1 + 1))), (0, .ref q0), (1, .int (nI (xBa (xTlt n f) (k + 1))))]) hx hb dX2_bestAxis_42 hl (k := 2) rfl (nI_add (k + 1) 1) (by decide) rfl (fun ls hl => ?_)
        refine lv_goto (tgt := 4) hx hb dX2_bestAxis_45 (by decide) ?_
        exact ih4 (k + 1) (by omega) ls (lv_sub hl [1, 2, 0] rfl)
      · refine lv_iload_n hx hb dX2_bestAxis_40 rfl (lv_at hl 2 rfl) ?_
        refine x_top (y := nI (xBa (xTlt n f) (k + 1))) (by rw [xBa_t (G := xTlt n f) c37]) ?_
        refine lv_istore_n (lv' := [(1, .int (nI (xBa (xTlt n f) (k + 1)))), (0, .ref q0), (2, .int (nI (k + 1)))]) hx hb dX2_bestAxis_41 rfl hl (by decide) rfl (fun ls hl => ?_)
        refine lv_iinc (v := nI (k + 1 + 1)) (lv' := [(2, .int (nI (k + 1 + 1))), (1, .int (nI (xBa (xTlt n f) (k + 1)))), (0, .ref q0)]) hx hb dX2_bestAxis_42 hl (k := 2) rfl (nI_add (k + 1) 1) (by decide) rfl (fun ls hl => ?_)
        refine lv_goto (tgt := 4) hx hb dX2_bestAxis_45 (by decide) ?_
        exact ih4 (k + 1) (by omega) ls (lv_sub hl [2, 1, 0] rfl)
  exact loop4 (n - 1) 0 (by omega) ls (lv_sub hl [2, 1, 0] rfl)

theorem hdv_X0_clear : yX0_clear.cls = RX0 ∧ yX0_clear.cls ≠ "java/lang/invoke/MethodHandle" ∧ yX0_clear.cls ≠ "java/lang/invoke/VarHandle" ∧ (parseMethodDescriptor yX0_clear.desc).map (fun d => d.parameters.length) = some 1 := by decide +kernel
theorem flX2_lay_10 : Cond.fieldLink RX2 10 "RingSeesaw" "ring" "LRingSeesaw$Ring;" ∈ wsX2_lay := by decide +kernel
theorem iwX2_lay_2 : ∀ w ∈ wsX20, w ∈ wsX2_lay := by decide +kernel
theorem flX2_lay_20 : Cond.fieldLink RX2 20 "RingSeesaw" "keptCount" "I" ∈ wsX2_lay := by decide +kernel
set_option maxHeartbeats 4000000 in
set_option maxRecDepth 100000 in
theorem c_X2_lay (γ : xG) (l : Launch) (q0 q1 q2 q3 q4 kc : Nat) (td : Int32) (a1 n : Nat) (f : xRow) (k : Nat) (hn0 : 3 ≤ n) (hn1 : n ≤ 12) (h1 : 3 ≤ k) (h2 : k ≤ 12) : xM γ l yX2_lay wsX2_lay ({ frames := 2, cells := 0, slots := 0, locals := 44 } : Room) [.ref q0, .int (nI k)] ([xO q0 2 [.ref q1, .ref q4, .int (nI kc), .int td, .ref q2, .ref q3], xO q1 0 [.ref a1, .int (nI n)], xA γ a1 12 f]) (fun r9 w9 => r9 = some (.int (nI n)) ∧ w9 = [xO q0 2 [.ref q1, .ref q4, .int (nI 0), .int td, .ref q2, .ref q3], xO q1 0 [.ref a1, .int (nI k)], xA γ a1 12 (fun _ => 0)]) 0 0 := by
  refine xM.of (cc := cX2_lay) (maxL := 3) (ret := (some .int)) (by decide +kernel) rfl (Nat.le_of_ble_eq_true rfl) ?_
  intro p e s m below meth c hx hb hr hml hts hown hlocks hin hP hK A hA hD ls hl
  have hS : va_S A s.heap s.heap [] := va_S.rf
  generalize hargs : ([.ref q0, .int (nI k)] : List Value).toArray = args at hts ⊢
  obtain ⟨Q, hQ⟩ : ∃ Q9, Q9 = MQ below (xMQ γ (List.map Prod.fst ([xO q0 2 [.ref q1, .ref q4, .int (nI kc), .int td, .ref q2, .ref q3], xO q1 0 [.ref a1, .int (nI n)], xA γ a1 12 f])) A (fun r9 w9 => r9 = some (.int (nI n)) ∧ w9 = [xO q0 2 [.ref q1, .ref q4, .int (nI 0), .int td, .ref q2, .ref q3], xO q1 0 [.ref a1, .int (nI k)], xA γ a1 12 (fun _ => 0)])) args s 0 0 A := ⟨_, rfl⟩
  rw [← hQ]
  have hown : s.vm.findClass RX2 = some m.cls := hown
  have hl : lv_has ls 3 [(0, .ref q0), (1, .int (nI k))] := hl
  refine lv_iload_n hx hb dX2_lay_0 rfl (lv_at hl 1 rfl) ?_
  refine lv_iconst (v := 3) hx hb dX2_lay_1 (by decide) ?_
  refine lv_icmp_lt (tgt := 11) hx hb dX2_lay_2 (by decide) (fun c => absurd c (nI_nlt (a := k) (b := 3) (by omega) (by omega))) (fun _ => ?_)
  refine lv_iload_n hx hb dX2_lay_5 rfl (lv_at hl 1 rfl) ?_
  refine lv_bipush (v := 12) hx hb dX2_lay_6 (by decide) ?_
  refine lv_icmp_le (tgt := 21) hx hb dX2_lay_8 (by decide) (fun _ => ?_) (fun c => absurd (nI_le (a := k) (b := 12) (by omega) (by omega)) c)
  refine lv_aload_n hx hb dX2_lay_21 rfl (lv_at hl 0 rfl) ?_
  refine va_get (D := γ.1) (ci := 2) (v := .ref q1) (C := RX2) (T := TX2) (N := 6) hx hb hts iwX2_lay_2 hown hK hP 0 rfl rfl 0 (by decide) (hts _ flX2_lay_10) (fun _ h9 => h9) rfl dX2_lay_22 ?_
  refine xVR (q0 := 1) (ci := 0) (As := []) (rest := []) (stk := [.int (nI n)]) ⟨hx, hb, hml, hown, hts⟩ (c_X0_size γ l q1 a1 n f) (cwV 0 hts gX2_lay_X0_size rfl rfl rfl hdv_X0_size ⟨(Nat.le_of_ble_eq_true rfl), (Nat.le_of_ble_eq_true rfl)⟩) hK hP [1, 2] rfl rfl rfl rfl hl.1 rfl (Nat.le_of_ble_eq_true rfl) dX2_lay_25 ⟨(Nat.le_of_ble_eq_true rfl), (Nat.le_of_ble_eq_true rfl)⟩ rfl ?_
  refine lv_istore_n (lv' := [(2, .int (nI n)), (0, .ref q0), (1, .int (nI k))]) hx hb dX2_lay_28 rfl hl (by decide) rfl (fun ls hl => ?_)
  refine lv_aload_n hx hb dX2_lay_29 rfl (lv_at hl 1 rfl) ?_
  refine va_get (D := γ.1) (ci := 2) (v := .ref q1) (C := RX2) (T := TX2) (N := 6) hx hb hts iwX2_lay_2 hown hK hP 0 rfl rfl 0 (by decide) (hts _ flX2_lay_10) (fun _ h9 => h9) rfl dX2_lay_30 ?_
  refine lv_iload_n hx hb dX2_lay_33 rfl (lv_at hl 2 rfl) ?_
  refine xVM (q0 := 1) (ci := 0) (As := [.int (nI k)]) (rest := []) ⟨hx, hb, hml, hown, hts⟩ (c_X0_clear γ l q1 a1 (nI n) f (nI k)) (cwV 1 hts gX2_lay_X0_clear rfl rfl rfl hdv_X0_clear ⟨(Nat.le_of_ble_eq_true rfl), (Nat.le_of_ble_eq_true rfl)⟩) hK hP hD hS hA [1, 2] rfl rfl rfl rfl rfl hl.1 rfl (Nat.le_of_ble_eq_true rfl) dX2_lay_34 ⟨(Nat.le_of_ble_eq_true rfl), (Nat.le_of_ble_eq_true rfl)⟩ (fun r9 w9 H locs hw hP hD hS => ?_)
  obtain ⟨rfl, rfl⟩ := hw
  have hP : xP γ ([xO q0 2 [.ref q1, .ref q4, .int (nI kc), .int td, .ref q2, .ref q3], xO q1 0 [.ref a1, .int (nI k)], xA γ a1 12 (fun _ => 0)]) H := hP
  have hD : va_D A ([xO q0 2 [.ref q1, .ref q4, .int (nI kc), .int td, .ref q2, .ref q3], xO q1 0 [.ref a1, .int (nI k)], xA γ a1 12 (fun _ => 0)]) := hD
  refine W.eq (g2 := F0 m 37 ls []) rfl ?_
  refine lv_aload_n hx hb dX2_lay_37 rfl (lv_at hl 1 rfl) ?_
  refine lv_iconst (v := 0) hx hb dX2_lay_38 (by decide) ?_
  refine va_put (D := γ.1) (ci := 2) (v := .int 0) (ty := .int) (C := RX2) (T := TX2) (N := 6) hx hb hts iwX2_lay_2 tyX2 tyX2_ok nmX2 hown hK hP hD hS 0 rfl rfl 2 (by decide) (hts _ flX2_lay_20) (fun _ h9 => h9) rfl (by decide +kernel) rfl rfl (Nat.le_of_ble_eq_true rfl) dX2_lay_39 (fun H locs hP hD hS => ?_)
  have hP : xP γ ([xO q0 2 [.ref q1, .ref q4, .int 0, .int td, .ref q2, .ref q3], xO q1 0 [.ref a1, .int (nI k)], xA γ a1 12 (fun _ => 0)]) H := hP
  have hD : va_D A ([xO q0 2 [.ref q1, .ref q4, .int 0, .int td, .ref q2, .ref q3], xO q1 0 [.ref a1, .int (nI k)], xA γ a1 12 (fun _ => 0)]) := hD
  refine lv_iload_n hx hb dX2_lay_42 rfl (lv_at hl 0 rfl) ?_
  subst hQ
  exact xM_i hx hb hr hlocks dX2_lay_43 hP rfl hS (Nat.le_of_ble_eq_true rfl) (Nat.le_of_ble_eq_true rfl) (⟨rfl, rfl⟩)

theorem hdv_X2_requireNumber : yX2_requireNumber.cls = RX2 ∧ yX2_requireNumber.cls ≠ "java/lang/invoke/MethodHandle" ∧ yX2_requireNumber.cls ≠ "java/lang/invoke/VarHandle" ∧ (parseMethodDescriptor yX2_requireNumber.desc).map (fun d => d.parameters.length) = some 1 := by decide +kernel
theorem flX2_put_10 : Cond.fieldLink RX2 10 "RingSeesaw" "ring" "LRingSeesaw$Ring;" ∈ wsX2_put := by decide +kernel
theorem iwX2_put_2 : ∀ w ∈ wsX20, w ∈ wsX2_put := by decide +kernel
set_option maxHeartbeats 4000000 in
set_option maxRecDepth 100000 in
theorem c_X2_put (γ : xG) (l : Launch) (q0 q1 q2 q3 q4 kc : Nat) (td : Int32) (a1 n : Nat) (f : xRow) (k : Nat) (x : Int32) (hn0 : 3 ≤ n) (hn1 : n ≤ 12) (hk : k < n) (h1 : ¬ x < (-999)) (h2 : x ≤ 999) : xM γ l yX2_put wsX2_put ({ frames := 2, cells := 0, slots := 0, locals := 41 } : Room) [.ref q0, .int (nI k), .int x] ([xO q0 2 [.ref q1, .ref q4, .int (nI kc), .int td, .ref q2, .ref q3], xO q1 0 [.ref a1, .int (nI n)], xA γ a1 12 f]) (fun r9 w9 => r9 = some (.int (f k)) ∧ w9 = [xO q0 2 [.ref q1, .ref q4, .int (nI kc), .int td, .ref q2, .ref q3], xO q1 0 [.ref a1, .int (nI n)], xA γ a1 12 (upd f k x)]) 0 0 := by
  refine xM.of (cc := cX2_put) (maxL := 4) (ret := (some .int)) (by decide +kernel) rfl (Nat.le_of_ble_eq_true rfl) ?_
  intro p e s m below meth c hx hb hr hml hts hown hlocks hin hP hK A hA hD ls hl
  have hS : va_S A s.heap s.heap [] := va_S.rf
  generalize hargs : ([.ref q0, .int (nI k), .int x] : List Value).toArray = args at hts ⊢
  obtain ⟨Q, hQ⟩ : ∃ Q9, Q9 = MQ below (xMQ γ (List.map Prod.fst ([xO q0 2 [.ref q1, .ref q4, .int (nI kc), .int td, .ref q2, .ref q3], xO q1 0 [.ref a1, .int (nI n)], xA γ a1 12 f])) A (fun r9 w9 => r9 = some (.int (f k)) ∧ w9 = [xO q0 2 [.ref q1, .ref q4, .int (nI kc), .int td, .ref q2, .ref q3], xO q1 0 [.ref a1, .int (nI n)], xA γ a1 12 (upd f k x)])) args s 0 0 A := ⟨_, rfl⟩
  rw [← hQ]
  have hown : s.vm.findClass RX2 = some m.cls := hown
  have hl : lv_has ls 4 [(0, .ref q0), (1, .int (nI k)), (2, .int x)] := hl
  refine lv_aload_n hx hb dX2_put_0 rfl (lv_at hl 0 rfl) ?_
  refine lv_iload_n hx hb dX2_put_1 rfl (lv_at hl 1 rfl) ?_
  refine xVR (q0 := 0) (ci := 2) (As := [.int (nI k)]) (rest := []) (stk := []) ⟨hx, hb, hml, hown, hts⟩ (c_X2_requirePlace γ l q0 q1 q2 q3 q4 kc td a1 n f k (by omega) (by omega) (by omega)) (cwV 1 hts gX2_put_X2_requirePlace rfl rfl rfl hdv_X2_requirePlace ⟨(Nat.le_of_ble_eq_true rfl), (Nat.le_of_ble_eq_true rfl)⟩) hK hP [0, 1, 2] rfl rfl rfl rfl hl.1 rfl (Nat.le_of_ble_eq_true rfl) dX2_put_2 ⟨(Nat.le_of_ble_eq_true rfl), (Nat.le_of_ble_eq_true rfl)⟩ rfl ?_
  refine lv_aload_n hx hb dX2_put_5 rfl (lv_at hl 0 rfl) ?_
  refine lv_iload_n hx hb dX2_put_6 rfl (lv_at hl 2 rfl) ?_
  refine xVR (q0 := 0) (ci := 2) (As := [.int x]) (rest := []) (stk := []) ⟨hx, hb, hml, hown, hts⟩ (c_X2_requireNumber γ l q0 q1 q2 q3 q4 kc td x h1 h2) (cwV 1 hts gX2_put_X2_requireNumber rfl rfl rfl hdv_X2_requireNumber ⟨(Nat.le_of_ble_eq_true rfl), (Nat.le_of_ble_eq_true rfl)⟩) hK hP [0] rfl rfl rfl rfl hl.1 rfl (Nat.le_of_ble_eq_true rfl) dX2_put_7 ⟨(Nat.le_of_ble_eq_true rfl), (Nat.le_of_ble_eq_true rfl)⟩ rfl ?_
  refine lv_aload_n hx hb dX2_put_10 rfl (lv_at hl 0 rfl) ?_
  refine va_get (D := γ.1) (ci := 2) (v := .ref q1) (C := RX2) (T := TX2) (N := 6) hx hb hts iwX2_put_2 hown hK hP 0 rfl rfl 0 (by decide) (hts _ flX2_put_10) (fun _ h9 => h9) rfl dX2_put_11 ?_
  refine lv_iload_n hx hb dX2_put_14 rfl (lv_at hl 1 rfl) ?_
  refine xVR (q0 := 1) (ci := 0) (As := [.int (nI k)]) (rest := []) (stk := [.int (f k)]) ⟨hx, hb, hml, hown, hts⟩ (c_X0_at γ l q1 a1 (nI n) f k (by omega)) (cwV 1 hts gX2_put_X0_at rfl rfl rfl hdv_X0_at ⟨(Nat.le_of_ble_eq_true rfl), (Nat.le_of_ble_eq_true rfl)⟩) hK hP [1, 2] rfl rfl rfl rfl hl.1 rfl (Nat.le_of_ble_eq_true rfl) dX2_put_15 ⟨(Nat.le_of_ble_eq_true rfl), (Nat.le_of_ble_eq_true rfl)⟩ rfl ?_
  refine lv_istore_n (lv' := [(3, .int (f k)), (0, .ref q0), (1, .int (nI k)), (2, .int x)]) hx hb dX2_put_18 rfl hl (by decide) rfl (fun ls hl => ?_)
  refine lv_aload_n hx hb dX2_put_19 rfl (lv_at hl 1 rfl) ?_
  refine va_get (D := γ.1) (ci := 2) (v := .ref q1) (C := RX2) (T := TX2) (N := 6) hx hb hts iwX2_put_2 hown hK hP 0 rfl rfl 0 (by decide) (hts _ flX2_put_10) (fun _ h9 => h9) rfl dX2_put_20 ?_
  refine lv_iload_n hx hb dX2_put_23 rfl (lv_at hl 2 rfl) ?_
  refine lv_iload_n hx hb dX2_put_24 rfl (lv_at hl 3 rfl) ?_
  refine xVM (q0 := 1) (ci := 0) (As := [.int (nI k), .int x]) (rest := []) ⟨hx, hb, hml, hown, hts⟩ (c_X0_write γ l q1 a1 (nI n) f k x (by omega)) (cwV 2 hts gX2_put_X0_write rfl rfl rfl hdv_X0_write ⟨(Nat.le_of_ble_eq_true rfl), (Nat.le_of_ble_eq_true rfl)⟩) hK hP hD hS hA [1, 2] rfl rfl rfl rfl rfl hl.1 rfl (Nat.le_of_ble_eq_true rfl) dX2_put_25 ⟨(Nat.le_of_ble_eq_true rfl), (Nat.le_of_ble_eq_true rfl)⟩ (fun r9 w9 H locs hw hP hD hS => ?_)
  obtain ⟨rfl, rfl⟩ := hw
  have hP : xP γ ([xO q0 2 [.ref q1, .ref q4, .int (nI kc), .int td, .ref q2, .ref q3], xO q1 0 [.ref a1, .int (nI n)], xA γ a1 12 (upd f k x)]) H := hP
  have hD : va_D A ([xO q0 2 [.ref q1, .ref q4, .int (nI kc), .int td, .ref q2, .ref q3], xO q1 0 [.ref a1, .int (nI n)], xA γ a1 12 (upd f k x)]) := hD
  refine W.eq (g2 := F0 m 28 ls []) rfl ?_
  refine lv_iload_n hx hb dX2_put_28 rfl (lv_at hl 0 rfl) ?_
  subst hQ
  exact xM_i hx hb hr hlocks dX2_put_29 hP rfl hS (Nat.le_of_ble_eq_true rfl) (Nat.le_of_ble_eq_true rfl) (⟨rfl, rfl⟩)

theorem hdv_X2_requireTimes : yX2_requireTimes.cls = RX2 ∧ yX2_requireTimes.cls ≠ "java/lang/invoke/MethodHandle" ∧ yX2_requireTimes.cls ≠ "java/lang/invoke/VarHandle" ∧ (parseMethodDescriptor yX2_requireTimes.desc).map (fun d => d.parameters.length) = some 1 := by decide +kernel
theorem flX2_tip_10 : Cond.fieldLink RX2 10 "RingSeesaw" "ring" "LRingSeesaw$Ring;" ∈ wsX2_tip := by decide +kernel
theorem iwX2_tip_2 : ∀ w ∈ wsX20, w ∈ wsX2_tip := by decide +kernel
theorem flX2_tip_24 : Cond.fieldLink RX2 24 "RingSeesaw" "tipsDone" "I" ∈ wsX2_tip := by decide +kernel
theorem wdX2_tip_m72a : Cond.methodLink RX2 72 Lib.Math.abs.name ∈ wsX2_tip := by decide +kernel
theorem wdX2_tip_m72b : Cond.static Lib.Math.abs.name ∈ wsX2_tip := by decide +kernel
theorem wdX2_tip_m72c : Cond.initialized "java/lang/Math" ∈ wsX2_tip := by decide +kernel
theorem wdX2_tip_m72d : Cond.code Lib.Math.abs.name Lib.Math.abs.code 1 (some .int) ∈ wsX2_tip := by decide +kernel
set_option maxHeartbeats 4000000 in
set_option maxRecDepth 100000 in
theorem c_X2_tip (γ : xG) (l : Launch) (q0 q1 q2 q3 q4 kc : Nat) (td : Int32) (a1 n : Nat) (f : xRow) (k : Nat) (x : Int32) (hn0 : 3 ≤ n) (hn1 : n ≤ 12) (hk : k < n) (h1 : ¬ x < (-50)) (h2 : x ≤ 50) : xM γ l yX2_tip wsX2_tip ({ frames := 3, cells := 0, slots := 0, locals := 66 } : Room) [.ref q0, .int (nI k), .int x] ([xO q0 2 [.ref q1, .ref q4, .int (nI kc), .int td, .ref q2, .ref q3], xO q1 0 [.ref a1, .int (nI n)], xA γ a1 12 f]) (fun r9 w9 => r9 = some (.int (xTip n f k x k)) ∧ w9 = [xO q0 2 [.ref q1, .ref q4, .int (nI kc), .int (td + xAbs x), .ref q2, .ref q3], xO q1 0 [.ref a1, .int (nI n)], xA γ a1 12 (xTip n f k x)]) 0 0 := by
  refine xM.of (cc := cX2_tip) (maxL := 3) (ret := (some .int)) (by decide +kernel) rfl (Nat.le_of_ble_eq_true rfl) ?_
  intro p e s m below meth c hx hb hr hml hts hown hlocks hin hP hK A hA hD ls hl
  have hS : va_S A s.heap s.heap [] := va_S.rf
  generalize hargs : ([.ref q0, .int (nI k), .int x] : List Value).toArray = args at hts ⊢
  obtain ⟨Q, hQ⟩ : ∃ Q9, Q9 = MQ below (xMQ γ (List.map Prod.fst ([xO q0 2 [.ref q1, .ref q4, .int (nI kc), .int td, .ref q2, .ref q3], xO q1 0 [.ref a1, .int (nI n)], xA γ a1 12 f])) A (fun r9 w9 => r9 = some (.int (xTip n f k x k)) ∧ w9 = [xO q0 2 [.ref q1, .ref q4, .int (nI kc), .int (td + xAbs x), .ref q2, .ref q3], xO q1 0 [.ref a1, .int (nI n)], xA γ a1 12 (xTip n f k x)])) args s 0 0 A := ⟨_, rfl⟩
  rw [← hQ]
  have hown : s.vm.findClass RX2 = some m.cls := hown
  have hl : lv_has ls 3 [(0, .ref q0), (1, .int (nI k)), (2, .int x)] := hl
  refine lv_aload_n hx hb dX2_tip_0 rfl (lv_at hl 0 rfl) ?_
  refine lv_iload_n hx hb dX2_tip_1 rfl (lv_at hl 1 rfl) ?_
  refine xVR (q0 := 0) (ci := 2) (As := [.int (nI k)]) (rest := []) (stk := []) ⟨hx, hb, hml, hown, hts⟩ (c_X2_requirePlace γ l q0 q1 q2 q3 q4 kc td a1 n f k (by omega) (by omega) (by omega)) (cwV 1 hts gX2_tip_X2_requirePlace rfl rfl rfl hdv_X2_requirePlace ⟨(Nat.le_of_ble_eq_true rfl), (Nat.le_of_ble_eq_true rfl)⟩) hK hP [0, 1, 2] rfl rfl rfl rfl hl.1 rfl (Nat.le_of_ble_eq_true rfl) dX2_tip_2 ⟨(Nat.le_of_ble_eq_true rfl), (Nat.le_of_ble_eq_true rfl)⟩ rfl ?_
  refine lv_aload_n hx hb dX2_tip_5 rfl (lv_at hl 0 rfl) ?_
  refine lv_iload_n hx hb dX2_tip_6 rfl (lv_at hl 2 rfl) ?_
  refine xVR (q0 := 0) (ci := 2) (As := [.int x]) (rest := []) (stk := []) ⟨hx, hb, hml, hown, hts⟩ (c_X2_requireTimes γ l q0 q1 q2 q3 q4 kc td x h1 h2) (cwV 1 hts gX2_tip_X2_requireTimes rfl rfl rfl hdv_X2_requireTimes ⟨(Nat.le_of_ble_eq_true rfl), (Nat.le_of_ble_eq_true rfl)⟩) hK hP [0] rfl rfl rfl rfl hl.1 rfl (Nat.le_of_ble_eq_true rfl) dX2_tip_7 ⟨(Nat.le_of_ble_eq_true rfl), (Nat.le_of_ble_eq_true rfl)⟩ rfl ?_
  refine lv_aload_n hx hb dX2_tip_10 rfl (lv_at hl 0 rfl) ?_
  refine va_get (D := γ.1) (ci := 2) (v := .ref q1) (C := RX2) (T := TX2) (N := 6) hx hb hts iwX2_tip_2 hown hK hP 0 rfl rfl 0 (by decide) (hts _ flX2_tip_10) (fun _ h9 => h9) rfl dX2_tip_11 ?_
  refine lv_iload_n hx hb dX2_tip_14 rfl (lv_at hl 1 rfl) ?_
  refine lv_iload_n hx hb dX2_tip_15 rfl (lv_at hl 2 rfl) ?_
  refine xVM (q0 := 1) (ci := 0) (As := [.int (nI k), .int x]) (rest := []) ⟨hx, hb, hml, hown, hts⟩ (c_X0_tipBy γ l q1 a1 n f k x (by omega) (by omega) (by omega)) (cwV 2 hts gX2_tip_X0_tipBy rfl rfl rfl hdv_X0_tipBy ⟨(Nat.le_of_ble_eq_true rfl), (Nat.le_of_ble_eq_true rfl)⟩) hK hP hD hS hA [1, 2] rfl rfl rfl rfl rfl hl.1 rfl (Nat.le_of_ble_eq_true rfl) dX2_tip_16 ⟨(Nat.le_of_ble_eq_true rfl), (Nat.le_of_ble_eq_true rfl)⟩ (fun r9 w9 H locs hw hP hD hS => ?_)
  obtain ⟨rfl, rfl⟩ := hw
  have hP : xP γ ([xO q0 2 [.ref q1, .ref q4, .int (nI kc), .int td, .ref q2, .ref q3], xO q1 0 [.ref a1, .int (nI n)], xA γ a1 12 (xTip n f k x)]) H := hP
  have hD : va_D A ([xO q0 2 [.ref q1, .ref q4, .int (nI kc), .int td, .ref q2, .ref q3], xO q1 0 [.ref a1, .int (nI n)], xA γ a1 12 (xTip n f k x)]) := hD
  refine W.eq (g2 := F0 m 19 ls []) rfl ?_
  refine lv_aload_n hx hb dX2_tip_19 rfl (lv_at hl 0 rfl) ?_
  refine lv_dup hx hb dX2_tip_20 rfl ?_
  refine va_get (D := γ.1) (ci := 2) (v := .int td) (C := RX2) (T := TX2) (N := 6) hx hb hts iwX2_tip_2 hown hK hP 0 rfl rfl 3 (by decide) (hts _ flX2_tip_24) (fun _ h9 => h9) rfl dX2_tip_21 ?_
  refine lv_iload_n hx hb dX2_tip_24 rfl (lv_at hl 2 rfl) ?_
  refine va_mabs hx hb (hml.trans hl.1.symm) hown (hts _ wdX2_tip_m72a) (hts _ wdX2_tip_m72b) (hts _ wdX2_tip_m72c) (hts _ wdX2_tip_m72d) (Nat.le_of_ble_eq_true rfl) (Nat.le_of_ble_eq_true rfl) (Nat.le_of_ble_eq_true rfl) (Nat.le_of_ble_eq_true rfl) dX2_tip_25 ?_
  refine lv_iadd hx hb dX2_tip_28 ?_
  refine va_put (D := γ.1) (ci := 2) (v := .int (td + (if 0 ≤ x then x else 0 - x))) (ty := .int) (C := RX2) (T := TX2) (N := 6) hx hb hts iwX2_tip_2 tyX2 tyX2_ok nmX2 hown hK hP hD hS 0 rfl rfl 3 (by decide) (hts _ flX2_tip_24) (fun _ h9 => h9) rfl (by decide +kernel) rfl rfl (Nat.le_of_ble_eq_true rfl) dX2_tip_29 (fun H locs hP hD hS => ?_)
  have hP : xP γ ([xO q0 2 [.ref q1, .ref q4, .int (nI kc), .int (td + (if 0 ≤ x then x else 0 - x)), .ref q2, .ref q3], xO q1 0 [.ref a1, .int (nI n)], xA γ a1 12 (xTip n f k x)]) H := hP
  have hD : va_D A ([xO q0 2 [.ref q1, .ref q4, .int (nI kc), .int (td + (if 0 ≤ x then x else 0 - x)), .ref q2, .ref q3], xO q1 0 [.ref a1, .int (nI n)], xA γ a1 12 (xTip n f k x)]) := hD
  refine lv_aload_n hx hb dX2_tip_32 rfl (lv_at hl 0 rfl) ?_
  refine va_get (D := γ.1) (ci := 2) (v := .ref q1) (C := RX2) (T := TX2) (N := 6) hx hb hts iwX2_tip_2 hown hK hP 0 rfl rfl 0 (by decide) (hts _ flX2_tip_10) (fun _ h9 => h9) rfl dX2_tip_33 ?_
  refine lv_iload_n hx hb dX2_tip_36 rfl (lv_at hl 1 rfl) ?_
  refine xVR (q0 := 1) (ci := 0) (As := [.int (nI k)]) (rest := []) (stk := [.int ((xTip n f k x) k)]) ⟨hx, hb, hml, hown, hts⟩ (c_X0_at γ l q1 a1 (nI n) (xTip n f k x) k (by omega)) (cwV 1 hts gX2_tip_X0_at rfl rfl rfl hdv_X0_at ⟨(Nat.le_of_ble_eq_true rfl), (Nat.le_of_ble_eq_true rfl)⟩) hK hP [1, 2] rfl rfl rfl rfl hl.1 rfl (Nat.le_of_ble_eq_true rfl) dX2_tip_37 ⟨(Nat.le_of_ble_eq_true rfl), (Nat.le_of_ble_eq_true rfl)⟩ rfl ?_
  subst hQ
  exact xM_i hx hb hr hlocks dX2_tip_40 hP rfl hS (Nat.le_of_ble_eq_true rfl) (Nat.le_of_ble_eq_true rfl) (⟨rfl, rfl⟩)

theorem hdv_X0_rotate : yX0_rotate.cls = RX0 ∧ yX0_rotate.cls ≠ "java/lang/invoke/MethodHandle" ∧ yX0_rotate.cls ≠ "java/lang/invoke/VarHandle" ∧ (parseMethodDescriptor yX0_rotate.desc).map (fun d => d.parameters.length) = some 0 := by decide +kernel
theorem flX2_turn_10 : Cond.fieldLink RX2 10 "RingSeesaw" "ring" "LRingSeesaw$Ring;" ∈ wsX2_turn := by decide +kernel
theorem iwX2_turn_2 : ∀ w ∈ wsX20, w ∈ wsX2_turn := by decide +kernel
set_option maxHeartbeats 4000000 in
set_option maxRecDepth 100000 in
theorem c_X2_turn (γ : xG) (l : Launch) (q0 q1 q2 q3 q4 kc : Nat) (td : Int32) (a1 n : Nat) (f : xRow) (hn0 : 3 ≤ n) (hn1 : n ≤ 12) : xM γ l yX2_turn wsX2_turn ({ frames := 2, cells := 0, slots := 0, locals := 44 } : Room) [.ref q0] ([xO q0 2 [.ref q1, .ref q4, .int (nI kc), .int td, .ref q2, .ref q3], xO q1 0 [.ref a1, .int (nI n)], xA γ a1 12 f]) (fun r9 w9 => r9 = some (.int (f (n - 1))) ∧ w9 = [xO q0 2 [.ref q1, .ref q4, .int (nI kc), .int td, .ref q2, .ref q3], xO q1 0 [.ref a1, .int (nI n)], xA γ a1 12 (xRot n f)]) 0 0 := by
  refine xM.of (cc := cX2_turn) (maxL := 1) (ret := (some .int)) (by decide +kernel) rfl (Nat.le_of_ble_eq_true rfl) ?_
  intro p e s m below meth c hx hb hr hml hts hown hlocks hin hP hK A hA hD ls hl
  have hS : va_S A s.heap s.heap [] := va_S.rf
  generalize hargs : ([.ref q0] : List Value).toArray = args at hts ⊢
  obtain ⟨Q, hQ⟩ : ∃ Q9, Q9 = MQ below (xMQ γ (List.map Prod.fst ([xO q0 2 [.ref q1, .ref q4, .int (nI kc), .int td, .ref q2, .ref q3], xO q1 0 [.ref a1, .int (nI n)], xA γ a1 12 f])) A (fun r9 w9 => r9 = some (.int (f (n - 1))) ∧ w9 = [xO q0 2 [.ref q1, .ref q4, .int (nI kc), .int td, .ref q2, .ref q3], xO q1 0 [.ref a1, .int (nI n)], xA γ a1 12 (xRot n f)])) args s 0 0 A := ⟨_, rfl⟩
  rw [← hQ]
  have hown : s.vm.findClass RX2 = some m.cls := hown
  have hl : lv_has ls 1 [(0, .ref q0)] := hl
  refine lv_aload_n hx hb dX2_turn_0 rfl (lv_at hl 0 rfl) ?_
  refine va_get (D := γ.1) (ci := 2) (v := .ref q1) (C := RX2) (T := TX2) (N := 6) hx hb hts iwX2_turn_2 hown hK hP 0 rfl rfl 0 (by decide) (hts _ flX2_turn_10) (fun _ h9 => h9) rfl dX2_turn_1 ?_
  refine xVM (q0 := 1) (ci := 0) (As := []) (rest := []) ⟨hx, hb, hml, hown, hts⟩ (c_X0_rotate γ l q1 a1 n f (by omega) (by omega)) (cwV 0 hts gX2_turn_X0_rotate rfl rfl rfl hdv_X0_rotate ⟨(Nat.le_of_ble_eq_true rfl), (Nat.le_of_ble_eq_true rfl)⟩) hK hP hD hS hA [1, 2] rfl rfl rfl rfl rfl hl.1 rfl (Nat.le_of_ble_eq_true rfl) dX2_turn_4 ⟨(Nat.le_of_ble_eq_true rfl), (Nat.le_of_ble_eq_true rfl)⟩ (fun r9 w9 H locs hw hP hD hS => ?_)
  obtain ⟨rfl, rfl⟩ := hw
  have hP : xP γ ([xO q0 2 [.ref q1, .ref q4, .int (nI kc), .int td, .ref q2, .ref q3], xO q1 0 [.ref a1, .int (nI n)], xA γ a1 12 (xRot n f)]) H := hP
  have hD : va_D A ([xO q0 2 [.ref q1, .ref q4, .int (nI kc), .int td, .ref q2, .ref q3], xO q1 0 [.ref a1, .int (nI n)], xA γ a1 12 (xRot n f)]) := hD
  refine W.eq (g2 := F0 m 7 ls []) rfl ?_
  refine lv_aload_n hx hb dX2_turn_7 rfl (lv_at hl 0 rfl) ?_
  refine va_get (D := γ.1) (ci := 2) (v := .ref q1) (C := RX2) (T := TX2) (N := 6) hx hb hts iwX2_turn_2 hown hK hP 0 rfl rfl 0 (by decide) (hts _ flX2_turn_10) (fun _ h9 => h9) rfl dX2_turn_8 ?_
  refine lv_iconst (v := 0) hx hb dX2_turn_11 (by decide) ?_
  refine xVR (q0 := 1) (ci := 0) (As := [.int 0]) (rest := []) (stk := [.int ((xRot n f) 0)]) ⟨hx, hb, hml, hown, hts⟩ (c_X0_at γ l q1 a1 (nI n) (xRot n f) 0 (by omega)) (cwV 1 hts gX2_turn_X0_at rfl rfl rfl hdv_X0_at ⟨(Nat.le_of_ble_eq_true rfl), (Nat.le_of_ble_eq_true rfl)⟩) hK hP [1, 2] rfl rfl rfl rfl hl.1 rfl (Nat.le_of_ble_eq_true rfl) dX2_turn_12 ⟨(Nat.le_of_ble_eq_true rfl), (Nat.le_of_ble_eq_true rfl)⟩ rfl ?_
  subst hQ
  exact xM_i hx hb hr hlocks dX2_turn_15 hP rfl hS (Nat.le_of_ble_eq_true rfl) (Nat.le_of_ble_eq_true rfl) (⟨rfl, rfl⟩)

theorem hdv_X0_settleBy : yX0_settleBy.cls = RX0 ∧ yX0_settleBy.cls ≠ "java/lang/invoke/MethodHandle" ∧ yX0_settleBy.cls ≠ "java/lang/invoke/VarHandle" ∧ (parseMethodDescriptor yX0_settleBy.desc).map (fun d => d.parameters.length) = some 1 := by decide +kernel
theorem flX2_settle_10 : Cond.fieldLink RX2 10 "RingSeesaw" "ring" "LRingSeesaw$Ring;" ∈ wsX2_settle := by decide +kernel
theorem iwX2_settle_2 : ∀ w ∈ wsX20, w ∈ wsX2_settle := by decide +kernel
theorem flX2_settle_24 : Cond.fieldLink RX2 24 "RingSeesaw" "tipsDone" "I" ∈ wsX2_settle := by decide +kernel
set_option maxHeartbeats 4000000 in
set_option maxRecDepth 100000 in
theorem c_X2_settle (γ : xG) (l : Launch) (q0 q1 q2 q3 q4 kc : Nat) (td : Int32) (a1 n : Nat) (f : xRow) (k : Nat) (hn0 : 3 ≤ n) (hn1 : n ≤ 12) (h1 : 1 ≤ k) (h2 : k ≤ 200) : xM γ l yX2_settle wsX2_settle ({ frames := 4, cells := 0, slots := 0, locals := 89 } : Room) [.ref q0, .int (nI k)] ([xO q0 2 [.ref q1, .ref q4, .int (nI kc), .int td, .ref q2, .ref q3], xO q1 0 [.ref a1, .int (nI n)], xA γ a1 12 f]) (fun r9 w9 => r9 = some (.int (nI (xStl n k f).1)) ∧ w9 = [xO q0 2 [.ref q1, .ref q4, .int (nI kc), .int (td + nI (xStl n k f).1), .ref q2, .ref q3], xO q1 0 [.ref a1, .int (nI n)], xA γ a1 12 ((xStl n k f).2)]) 0 0 := by
  refine xM.of (cc := cX2_settle) (maxL := 3) (ret := (some .int)) (by decide +kernel) rfl (Nat.le_of_ble_eq_true rfl) ?_
  intro p e s m below meth c hx hb hr hml hts hown hlocks hin hP hK A hA hD ls hl
  have hS : va_S A s.heap s.heap [] := va_S.rf
  generalize hargs : ([.ref q0, .int (nI k)] : List Value).toArray = args at hts ⊢
  obtain ⟨Q, hQ⟩ : ∃ Q9, Q9 = MQ below (xMQ γ (List.map Prod.fst ([xO q0 2 [.ref q1, .ref q4, .int (nI kc), .int td, .ref q2, .ref q3], xO q1 0 [.ref a1, .int (nI n)], xA γ a1 12 f])) A (fun r9 w9 => r9 = some (.int (nI (xStl n k f).1)) ∧ w9 = [xO q0 2 [.ref q1, .ref q4, .int (nI kc), .int (td + nI (xStl n k f).1), .ref q2, .ref q3], xO q1 0 [.ref a1, .int (nI n)], xA γ a1 12 ((xStl n k f).2)])) args s 0 0 A := ⟨_, rfl⟩
  rw [← hQ]
  have hown : s.vm.findClass RX2 = some m.cls := hown
  have hl : lv_has ls 3 [(0, .ref q0), (1, .int (nI k))] := hl
  refine lv_iload_n hx hb dX2_settle_0 rfl (lv_at hl 1 rfl) ?_
  refine lv_iconst (v := 1) hx hb dX2_settle_1 (by decide) ?_
  refine lv_icmp_lt (tgt := 12) hx hb dX2_settle_2 (by decide) (fun c => absurd c (nI_nlt (a := k) (b := 1) (by omega) (by omega))) (fun _ => ?_)
  refine lv_iload_n hx hb dX2_settle_5 rfl (lv_at hl 1 rfl) ?_
  refine lv_sipush (v := 200) hx hb dX2_settle_6 (by decide) ?_
  refine lv_icmp_le (tgt := 22) hx hb dX2_settle_9 (by decide) (fun _ => ?_) (fun c => absurd (nI_le (a := k) (b := 200) (by omega) (by omega)) c)
  refine lv_aload_n hx hb dX2_settle_22 rfl (lv_at hl 0 rfl) ?_
  refine va_get (D := γ.1) (ci := 2) (v := .ref q1) (C := RX2) (T := TX2) (N := 6) hx hb hts iwX2_settle_2 hown hK hP 0 rfl rfl 0 (by decide) (hts _ flX2_settle_10) (fun _ h9 => h9) rfl dX2_settle_23 ?_
  refine lv_iload_n hx hb dX2_settle_26 rfl (lv_at hl 1 rfl) ?_
  refine xVM (q0 := 1) (ci := 0) (As := [.int (nI k)]) (rest := []) ⟨hx, hb, hml, hown, hts⟩ (c_X0_settleBy γ l q1 a1 n f k (by omega) (by omega) (by omega)) (cwV 1 hts gX2_settle_X0_settleBy rfl rfl rfl hdv_X0_settleBy ⟨(Nat.le_of_ble_eq_true rfl), (Nat.le_of_ble_eq_true rfl)⟩) hK hP hD hS hA [1, 2] rfl rfl rfl rfl rfl hl.1 rfl (Nat.le_of_ble_eq_true rfl) dX2_settle_27 ⟨(Nat.le_of_ble_eq_true rfl), (Nat.le_of_ble_eq_true rfl)⟩ (fun r9 w9 H locs hw hP hD hS => ?_)
  obtain ⟨rfl, rfl⟩ := hw
  have hP : xP γ ([xO q0 2 [.ref q1, .ref q4, .int (nI kc), .int td, .ref q2, .ref q3], xO q1 0 [.ref a1, .int (nI n)], xA γ a1 12 ((xStl n k f).2)]) H := hP
  have hD : va_D A ([xO q0 2 [.ref q1, .ref q4, .int (nI kc), .int td, .ref q2, .ref q3], xO q1 0 [.ref a1, .int (nI n)], xA γ a1 12 ((xStl n k f).2)]) := hD
  refine W.eq (g2 := F0 m 30 ls [.int (nI ((xStl n k f).1))]) rfl ?_
  refine lv_istore_n (lv' := [(2, .int (nI ((xStl n k f).1))), (0, .ref q0), (1, .int (nI k))]) hx hb dX2_settle_30 rfl hl (by decide) rfl (fun ls hl => ?_)
  refine lv_aload_n hx hb dX2_settle_31 rfl (lv_at hl 1 rfl) ?_
  refine lv_dup hx hb dX2_settle_32 rfl ?_
  refine va_get (D := γ.1) (ci := 2) (v := .int td) (C := RX2) (T := TX2) (N := 6) hx hb hts iwX2_settle_2 hown hK hP 0 rfl rfl 3 (by decide) (hts _ flX2_settle_24) (fun _ h9 => h9) rfl dX2_settle_33 ?_
  refine lv_iload_n hx hb dX2_settle_36 rfl (lv_at hl 0 rfl) ?_
  refine lv_iadd hx hb dX2_settle_37 ?_
  refine va_put (D := γ.1) (ci := 2) (v := .int (td + (nI ((xStl n k f).1)))) (ty := .int) (C := RX2) (T := TX2) (N := 6) hx hb hts iwX2_settle_2 tyX2 tyX2_ok nmX2 hown hK hP hD hS 0 rfl rfl 3 (by decide) (hts _ flX2_settle_24) (fun _ h9 => h9) rfl (by decide +kernel) rfl rfl (Nat.le_of_ble_eq_true rfl) dX2_settle_38 (fun H locs hP hD hS => ?_)
  have hP : xP γ ([xO q0 2 [.ref q1, .ref q4, .int (nI kc), .int (td + (nI ((xStl n k f).1))), .ref q2, .ref q3], xO q1 0 [.ref a1, .int (nI n)], xA γ a1 12 ((xStl n k f).2)]) H := hP
  have hD : va_D A ([xO q0 2 [.ref q1, .ref q4, .int (nI kc), .int (td + (nI ((xStl n k f).1))), .ref q2, .ref q3], xO q1 0 [.ref a1, .int (nI n)], xA γ a1 12 ((xStl n k f).2)]) := hD
  refine lv_iload_n hx hb dX2_settle_41 rfl (lv_at hl 0 rfl) ?_
  subst hQ
  exact xM_i hx hb hr hlocks dX2_settle_42 hP rfl hS (Nat.le_of_ble_eq_true rfl) (Nat.le_of_ble_eq_true rfl) (⟨rfl, rfl⟩)

theorem hdv_X2_keptRing : yX2_keptRing.cls = RX2 ∧ yX2_keptRing.cls ≠ "java/lang/invoke/MethodHandle" ∧ yX2_keptRing.cls ≠ "java/lang/invoke/VarHandle" ∧ (parseMethodDescriptor yX2_keptRing.desc).map (fun d => d.parameters.length) = some 1 := by decide +kernel
set_option maxHeartbeats 4000000 in
set_option maxRecDepth 100000 in
theorem c_X2_numberIn (γ : xG) (l : Launch) (q0 q1 q2 q3 q4 kc : Nat) (td : Int32) (a1 n : Nat) (f : xRow) (kq ka : Nat → Nat) (kn : Nat → Int32) (ks : Nat → xRow) (k i9 : Nat) (hn0 : 3 ≤ n) (hn1 : n ≤ 12) (hk : k < kc) (hkc : kc ≤ 6) (hi : i9 < n) : xR γ l yX2_numberIn wsX2_numberIn ({ frames := 2, cells := 0, slots := 0, locals := 41 } : Room) [.ref q0, .int (nI k), .int (nI i9)] ([xO q0 2 [.ref q1, .ref q4, .int (nI kc), .int td, .ref q2, .ref q3], xO q1 0 [.ref a1, .int (nI n)], xA γ a1 12 f, xQ γ q4 6 (fun t9 => some (kq t9)), xO (kq k) 0 [.ref (ka k), .int (nI n)], xA γ (ka k) 12 (ks k)]) (some (.int (ks k i9))) := by
  refine xR.of (cc := cX2_numberIn) (maxL := 4) (ret := (some .int)) (by decide +kernel) rfl (Nat.le_of_ble_eq_true rfl) ?_
  intro p e s m below meth c hx hb hr hml hts hown hlocks hP hK ls hl
  generalize hargs : ([.ref q0, .int (nI k), .int (nI i9)] : List Value).toArray = args at hts ⊢
  obtain ⟨Q, hQ⟩ : ∃ Q9, Q9 = MQ below (xRQ (some (.int (ks k i9)))) args s 0 0 (fun _ => False) := ⟨_, rfl⟩
  rw [← hQ]
  have hown : s.vm.findClass RX2 = some m.cls := hown
  have hl : lv_has ls 4 [(0, .ref q0), (1, .int (nI k)), (2, .int (nI i9))] := hl
  refine lv_aload_n hx hb dX2_numberIn_0 rfl (lv_at hl 0 rfl) ?_
  refine lv_iload_n hx hb dX2_numberIn_1 rfl (lv_at hl 1 rfl) ?_
  refine xVR (q0 := 0) (ci := 2) (As := [.int (nI k)]) (rest := []) (stk := [.ref (kq k)]) ⟨hx, hb, hml, hown, hts⟩ (c_X2_keptRing γ l q0 q1 q2 q3 q4 kc td kq k (by omega) (by omega)) (cwV 1 hts gX2_numberIn_X2_keptRing rfl rfl rfl hdv_X2_keptRing ⟨(Nat.le_of_ble_eq_true rfl), (Nat.le_of_ble_eq_true rfl)⟩) hK hP [0, 3] rfl rfl rfl rfl hl.1 rfl (Nat.le_of_ble_eq_true rfl) dX2_numberIn_2 ⟨(Nat.le_of_ble_eq_true rfl), (Nat.le_of_ble_eq_true rfl)⟩ rfl ?_
  refine lv_astore_n (lv' := [(3, .ref (kq k)), (0, .ref q0), (1, .int (nI k)), (2, .int (nI i9))]) hx hb dX2_numberIn_5 rfl hl (by decide) rfl (fun ls hl => ?_)
  refine lv_aload_n hx hb dX2_numberIn_6 rfl (lv_at hl 1 rfl) ?_
  refine lv_iload_n hx hb dX2_numberIn_7 rfl (lv_at hl 3 rfl) ?_
  refine xVR (q0 := 0) (ci := 2) (As := [.int (nI i9)]) (rest := []) (stk := []) ⟨hx, hb, hml, hown, hts⟩ (c_X2_requirePlace γ l q0 q1 q2 q3 q4 kc td a1 n f i9 (by omega) (by omega) (by omega)) (cwV 1 hts gX2_numberIn_X2_requirePlace rfl rfl rfl hdv_X2_requirePlace ⟨(Nat.le_of_ble_eq_true rfl), (Nat.le_of_ble_eq_true rfl)⟩) hK hP [0, 1, 2] rfl rfl rfl rfl hl.1 rfl (Nat.le_of_ble_eq_true rfl) dX2_numberIn_8 ⟨(Nat.le_of_ble_eq_true rfl), (Nat.le_of_ble_eq_true rfl)⟩ rfl ?_
  refine lv_aload_n hx hb dX2_numberIn_11 rfl (lv_at hl 0 rfl) ?_
  refine lv_iload_n hx hb dX2_numberIn_12 rfl (lv_at hl 3 rfl) ?_
  refine xVR (q0 := 4) (ci := 0) (As := [.int (nI i9)]) (rest := []) (stk := [.int ((ks k) i9)]) ⟨hx, hb, hml, hown, hts⟩ (c_X0_at γ l (kq k) (ka k) (nI n) (ks k) i9 (by omega)) (cwV 1 hts gX2_numberIn_X0_at rfl rfl rfl hdv_X0_at ⟨(Nat.le_of_ble_eq_true rfl), (Nat.le_of_ble_eq_true rfl)⟩) hK hP [4, 5] rfl rfl rfl rfl hl.1 rfl (Nat.le_of_ble_eq_true rfl) dX2_numberIn_13 ⟨(Nat.le_of_ble_eq_true rfl), (Nat.le_of_ble_eq_true rfl)⟩ rfl ?_
  subst hQ
  exact xR_i hx hb hr hlocks dX2_numberIn_16 (rfl)

theorem hdv_X0_differencesFrom : yX0_differencesFrom.cls = RX0 ∧ yX0_differencesFrom.cls ≠ "java/lang/invoke/MethodHandle" ∧ yX0_differencesFrom.cls ≠ "java/lang/invoke/VarHandle" ∧ (parseMethodDescriptor yX0_differencesFrom.desc).map (fun d => d.parameters.length) = some 1 := by decide +kernel
theorem flX2_differences_10 : Cond.fieldLink RX2 10 "RingSeesaw" "ring" "LRingSeesaw$Ring;" ∈ wsX2_differences := by decide +kernel
theorem iwX2_differences_2 : ∀ w ∈ wsX20, w ∈ wsX2_differences := by decide +kernel
set_option maxHeartbeats 4000000 in
set_option maxRecDepth 100000 in
theorem c_X2_differences (γ : xG) (l : Launch) (q0 q1 q2 q3 q4 kc : Nat) (td : Int32) (a1 n : Nat) (f : xRow) (kq ka : Nat → Nat) (kn : Nat → Int32) (ks : Nat → xRow) (k : Nat) (hn0 : 3 ≤ n) (hn1 : n ≤ 12) (hk : k < kc) (hkc : kc ≤ 6) : xR γ l yX2_differences wsX2_differences ({ frames := 2, cells := 0, slots := 0, locals := 44 } : Room) [.ref q0, .int (nI k)] ([xO q0 2 [.ref q1, .ref q4, .int (nI kc), .int td, .ref q2, .ref q3], xO q1 0 [.ref a1, .int (nI n)], xA γ a1 12 f, xQ γ q4 6 (fun t9 => some (kq t9)), xO (kq k) 0 [.ref (ka k), .int (nI n)], xA γ (ka k) 12 (ks k)]) (some (.int (nI (xCnt (xNe f (ks k)) n)))) := by
  refine xR.of (cc := cX2_differences) (maxL := 2) (ret := (some .int)) (by decide +kernel) rfl (Nat.le_of_ble_eq_true rfl) ?_
  intro p e s m below meth c hx hb hr hml hts hown hlocks hP hK ls hl
  generalize hargs : ([.ref q0, .int (nI k)] : List Value).toArray = args at hts ⊢
  obtain ⟨Q, hQ⟩ : ∃ Q9, Q9 = MQ below (xRQ (some (.int (nI (xCnt (xNe f (ks k)) n))))) args s 0 0 (fun _ => False) := ⟨_, rfl⟩
  rw [← hQ]
  have hown : s.vm.findClass RX2 = some m.cls := hown
  have hl : lv_has ls 2 [(0, .ref q0), (1, .int (nI k))] := hl
  refine lv_aload_n hx hb dX2_differences_0 rfl (lv_at hl 0 rfl) ?_
  refine va_get (D := γ.1) (ci := 2) (v := .ref q1) (C := RX2) (T := TX2) (N := 6) hx hb hts iwX2_differences_2 hown hK hP 0 rfl rfl 0 (by decide) (hts _ flX2_differences_10) (fun _ h9 => h9) rfl dX2_differences_1 ?_
  refine lv_aload_n hx hb dX2_differences_4 rfl (lv_at hl 0 rfl) ?_
  refine lv_iload_n hx hb dX2_differences_5 rfl (lv_at hl 1 rfl) ?_
  refine xVR (q0 := 0) (ci := 2) (As := [.int (nI k)]) (rest := [.ref q1]) (stk := [.ref (kq k), .ref q1]) ⟨hx, hb, hml, hown, hts⟩ (c_X2_keptRing γ l q0 q1 q2 q3 q4 kc td kq k (by omega) (by omega)) (cwV 1 hts gX2_differences_X2_keptRing rfl rfl rfl hdv_X2_keptRing ⟨(Nat.le_of_ble_eq_true rfl), (Nat.le_of_ble_eq_true rfl)⟩) hK hP [0, 3] rfl rfl rfl rfl hl.1 rfl (Nat.le_of_ble_eq_true rfl) dX2_differences_6 ⟨(Nat.le_of_ble_eq_true rfl), (Nat.le_of_ble_eq_true rfl)⟩ rfl ?_
  refine xVR (q0 := 1) (ci := 0) (As := [.ref (kq k)]) (rest := []) (stk := [.int (nI (xCnt (xNe f (ks k)) n))]) ⟨hx, hb, hml, hown, hts⟩ (c_X0_differencesFrom γ l q1 a1 (kq k) (ka k) n f (ks k) (by omega) (by omega)) (cwV 1 hts gX2_differences_X0_differencesFrom rfl rfl rfl hdv_X0_differencesFrom ⟨(Nat.le_of_ble_eq_true rfl), (Nat.le_of_ble_eq_true rfl)⟩) hK hP [1, 2, 4, 5] rfl rfl rfl rfl hl.1 rfl (Nat.le_of_ble_eq_true rfl) dX2_differences_9 ⟨(Nat.le_of_ble_eq_true rfl), (Nat.le_of_ble_eq_true rfl)⟩ rfl ?_
  subst hQ
  exact xR_i hx hb hr hlocks dX2_differences_12 (rfl)

theorem flX2_canReach_10 : Cond.fieldLink RX2 10 "RingSeesaw" "ring" "LRingSeesaw$Ring;" ∈ wsX2_canReach := by decide +kernel
theorem iwX2_canReach_2 : ∀ w ∈ wsX20, w ∈ wsX2_canReach := by decide +kernel
set_option maxHeartbeats 4000000 in
set_option maxRecDepth 100000 in
theorem c_X2_canReach (γ : xG) (l : Launch) (q0 q1 q2 q3 q4 kc : Nat) (td : Int32) (a1 n : Nat) (f : xRow) (kq ka : Nat → Nat) (kn : Nat → Int32) (ks : Nat → xRow) (k : Nat) (hn0 : 3 ≤ n) (hn1 : n ≤ 12) (hk : k < kc) (hkc : kc ≤ 6) : xR γ l yX2_canReach wsX2_canReach ({ frames := 3, cells := 0, slots := 0, locals := 65 } : Room) [.ref q0, .int (nI k)] ([xO q0 2 [.ref q1, .ref q4, .int (nI kc), .int td, .ref q2, .ref q3], xO q1 0 [.ref a1, .int (nI n)], xA γ a1 12 f, xQ γ q4 6 (fun t9 => some (kq t9)), xO (kq k) 0 [.ref (ka k), .int (nI n)], xA γ (ka k) 12 (ks k)]) (some (.int (if xCB n f (ks k) = true then 1 else 0))) := by
  refine xR.of (cc := cX2_canReach) (maxL := 2) (ret := (some .boolean)) (by decide +kernel) rfl (Nat.le_of_ble_eq_true rfl) ?_
  intro p e s m below meth c hx hb hr hml hts hown hlocks hP hK ls hl
  generalize hargs : ([.ref q0, .int (nI k)] : List Value).toArray = args at hts ⊢
  obtain ⟨Q, hQ⟩ : ∃ Q9, Q9 = MQ below (xRQ (some (.int (if xCB n f (ks k) = true then 1 else 0)))) args s 0 0 (fun _ => False) := ⟨_, rfl⟩
  rw [← hQ]
  have hown : s.vm.findClass RX2 = some m.cls := hown
  have hl : lv_has ls 2 [(0, .ref q0), (1, .int (nI k))] := hl
  refine lv_aload_n hx hb dX2_canReach_0 rfl (lv_at hl 0 rfl) ?_
  refine va_get (D := γ.1) (ci := 2) (v := .ref q1) (C := RX2) (T := TX2) (N := 6) hx hb hts iwX2_canReach_2 hown hK hP 0 rfl rfl 0 (by decide) (hts _ flX2_canReach_10) (fun _ h9 => h9) rfl dX2_canReach_1 ?_
  refine lv_aload_n hx hb dX2_canReach_4 rfl (lv_at hl 0 rfl) ?_
  refine lv_iload_n hx hb dX2_canReach_5 rfl (lv_at hl 1 rfl) ?_
  refine xVR (q0 := 0) (ci := 2) (As := [.int (nI k)]) (rest := [.ref q1]) (stk := [.ref (kq k), .ref q1]) ⟨hx, hb, hml, hown, hts⟩ (c_X2_keptRing γ l q0 q1 q2 q3 q4 kc td kq k (by omega) (by omega)) (cwV 1 hts gX2_canReach_X2_keptRing rfl rfl rfl hdv_X2_keptRing ⟨(Nat.le_of_ble_eq_true rfl), (Nat.le_of_ble_eq_true rfl)⟩) hK hP [0, 3] rfl rfl rfl rfl hl.1 rfl (Nat.le_of_ble_eq_true rfl) dX2_canReach_6 ⟨(Nat.le_of_ble_eq_true rfl), (Nat.le_of_ble_eq_true rfl)⟩ rfl ?_
  refine xVR (q0 := 1) (ci := 0) (As := [.ref (kq k)]) (rest := []) (stk := [.int (if xCB n f (ks k) = true then 1 else 0)]) ⟨hx, hb, hml, hown, hts⟩ (c_X0_canBecome γ l q1 a1 (kq k) (ka k) n f (ks k) (by omega) (by omega)) (cwV 1 hts gX2_canReach_X0_canBecome rfl rfl rfl hdv_X0_canBecome ⟨(Nat.le_of_ble_eq_true rfl), (Nat.le_of_ble_eq_true rfl)⟩) hK hP [1, 2, 4, 5] rfl rfl rfl rfl hl.1 rfl (Nat.le_of_ble_eq_true rfl) dX2_canReach_9 ⟨(Nat.le_of_ble_eq_true rfl), (Nat.le_of_ble_eq_true rfl)⟩ rfl ?_
  subst hQ
  exact xR_z hx hb hr hlocks dX2_canReach_12 (xB_z _) (rfl)

theorem hdv_X1_find : yX1_find.cls = RX1 ∧ yX1_find.cls ≠ "java/lang/invoke/MethodHandle" ∧ yX1_find.cls ≠ "java/lang/invoke/VarHandle" ∧ (parseMethodDescriptor yX1_find.desc).map (fun d => d.parameters.length) = some 2 := by decide +kernel
theorem hdv_X1_fewest : yX1_fewest.cls = RX1 ∧ yX1_fewest.cls ≠ "java/lang/invoke/MethodHandle" ∧ yX1_fewest.cls ≠ "java/lang/invoke/VarHandle" ∧ (parseMethodDescriptor yX1_fewest.desc).map (fun d => d.parameters.length) = some 0 := by decide +kernel
theorem flX2_fewestTo_10 : Cond.fieldLink RX2 10 "RingSeesaw" "ring" "LRingSeesaw$Ring;" ∈ wsX2_fewestTo := by decide +kernel
theorem iwX2_fewestTo_2 : ∀ w ∈ wsX20, w ∈ wsX2_fewestTo := by decide +kernel
theorem flX2_fewestTo_33 : Cond.fieldLink RX2 33 "RingSeesaw" "way" "LRingSeesaw$Way;" ∈ wsX2_fewestTo := by decide +kernel
set_option maxHeartbeats 4000000 in
set_option maxRecDepth 100000 in
theorem c_X2_fewestTo (γ : xG) (l : Launch) (q0 q1 q2 q3 q4 kc : Nat) (td : Int32) (a1 n : Nat) (f : xRow) (a3 : Nat) (wn : Int32) (wf : xRow) (qk ak : Nat) (g : xRow) (hn0 : 3 ≤ n) (hn1 : n ≤ 12) : xM γ l yX2_fewestTo wsX2_fewestTo ({ frames := 3, cells := 0, slots := 0, locals := 70 } : Room) [.ref q0, .ref qk] ([xO qk 0 [.ref ak, .int (nI n)], xA γ ak 12 g, xO q0 2 [.ref q1, .ref q4, .int (nI kc), .int td, .ref q2, .ref q3], xO q1 0 [.ref a1, .int (nI n)], xA γ a1 12 f, xO q3 1 [.ref a3, .int wn], xA γ a3 12 wf]) (fun r9 w9 => r9 = some (.int (xFew n f g)) ∧ ∃ (z9 : Int32) (h9 : xRow), w9 = [xO qk 0 [.ref ak, .int (nI n)], xA γ ak 12 g, xO q0 2 [.ref q1, .ref q4, .int (nI kc), .int td, .ref q2, .ref q3], xO q1 0 [.ref a1, .int (nI n)], xA γ a1 12 f, xO q3 1 [.ref a3, .int z9], xA γ a3 12 h9]) 0 0 := by
  refine xM.of (cc := cX2_fewestTo) (maxL := 2) (ret := (some .int)) (by decide +kernel) rfl (Nat.le_of_ble_eq_true rfl) ?_
  intro p e s m below meth c hx hb hr hml hts hown hlocks hin hP hK A hA hD ls hl
  have hS : va_S A s.heap s.heap [] := va_S.rf
  generalize hargs : ([.ref q0, .ref qk] : List Value).toArray = args at hts ⊢
  obtain ⟨Q, hQ⟩ : ∃ Q9, Q9 = MQ below (xMQ γ (List.map Prod.fst ([xO qk 0 [.ref ak, .int (nI n)], xA γ ak 12 g, xO q0 2 [.ref q1, .ref q4, .int (nI kc), .int td, .ref q2, .ref q3], xO q1 0 [.ref a1, .int (nI n)], xA γ a1 12 f, xO q3 1 [.ref a3, .int wn], xA γ a3 12 wf])) A (fun r9 w9 => r9 = some (.int (xFew n f g)) ∧ ∃ (z9 : Int32) (h9 : xRow), w9 = [xO qk 0 [.ref ak, .int (nI n)], xA γ ak 12 g, xO q0 2 [.ref q1, .ref q4, .int (nI kc), .int td, .ref q2, .ref q3], xO q1 0 [.ref a1, .int (nI n)], xA γ a1 12 f, xO q3 1 [.ref a3, .int z9], xA γ a3 12 h9])) args s 0 0 A := ⟨_, rfl⟩
  rw [← hQ]
  have hown : s.vm.findClass RX2 = some m.cls := hown
  have hl : lv_has ls 2 [(0, .ref q0), (1, .ref qk)] := hl
  refine lv_aload_n hx hb dX2_fewestTo_0 rfl (lv_at hl 0 rfl) ?_
  refine va_get (D := γ.1) (ci := 2) (v := .ref q1) (C := RX2) (T := TX2) (N := 6) hx hb hts iwX2_fewestTo_2 hown hK hP 2 rfl rfl 0 (by decide) (hts _ flX2_fewestTo_10) (fun _ h9 => h9) rfl dX2_fewestTo_1 ?_
  refine lv_aload_n hx hb dX2_fewestTo_4 rfl (lv_at hl 1 rfl) ?_
  refine xVR (q0 := 3) (ci := 0) (As := [.ref qk]) (rest := []) (stk := [.int (if xCB n f g = true then 1 else 0)]) ⟨hx, hb, hml, hown, hts⟩ (c_X0_canBecome γ l q1 a1 qk ak n f g (by omega) (by omega)) (cwV 1 hts gX2_fewestTo_X0_canBecome rfl rfl rfl hdv_X0_canBecome ⟨(Nat.le_of_ble_eq_true rfl), (Nat.le_of_ble_eq_true rfl)⟩) hK hP [3, 4, 0, 1] rfl rfl rfl rfl hl.1 rfl (Nat.le_of_ble_eq_true rfl) dX2_fewestTo_5 ⟨(Nat.le_of_ble_eq_true rfl), (Nat.le_of_ble_eq_true rfl)⟩ rfl ?_
  refine lv_if_ne (tgt := 13) hx hb dX2_fewestTo_8 (by decide) (fun c8 => ?_) (fun c8 => ?_)
  · refine lv_aload_n hx hb dX2_fewestTo_13 rfl (lv_at hl 0 rfl) ?_
    refine va_get (D := γ.1) (ci := 2) (v := .ref q3) (C := RX2) (T := TX2) (N := 6) hx hb hts iwX2_fewestTo_2 hown hK hP 2 rfl rfl 5 (by decide) (hts _ flX2_fewestTo_33) (fun _ h9 => h9) rfl dX2_fewestTo_14 ?_
    refine lv_aload_n hx hb dX2_fewestTo_17 rfl (lv_at hl 0 rfl) ?_
    refine va_get (D := γ.1) (ci := 2) (v := .ref q1) (C := RX2) (T := TX2) (N := 6) hx hb hts iwX2_fewestTo_2 hown hK hP 2 rfl rfl 0 (by decide) (hts _ flX2_fewestTo_10) (fun _ h9 => h9) rfl dX2_fewestTo_18 ?_
    refine lv_aload_n hx hb dX2_fewestTo_21 rfl (lv_at hl 1 rfl) ?_
    refine xVM (q0 := 5) (ci := 1) (As := [.ref q1, .ref qk]) (rest := []) ⟨hx, hb, hml, hown, hts⟩ (c_X1_find γ l q3 a3 q1 a1 qk ak n wn wf f g (by omega) (by omega)) (cwV 2 hts gX2_fewestTo_X1_find rfl rfl rfl hdv_X1_find ⟨(Nat.le_of_ble_eq_true rfl), (Nat.le_of_ble_eq_true rfl)⟩) hK hP hD hS hA [5, 6, 3, 4, 0, 1] rfl rfl rfl rfl rfl hl.1 rfl (Nat.le_of_ble_eq_true rfl) dX2_fewestTo_22 ⟨(Nat.le_of_ble_eq_true rfl), (Nat.le_of_ble_eq_true rfl)⟩ (fun r9 w9 H locs hw hP hD hS => ?_)
    obtain ⟨rfl, h2x, eh2x, rfl⟩ := hw
    have hP : xP γ ([xO qk 0 [.ref ak, .int (nI n)], xA γ ak 12 g, xO q0 2 [.ref q1, .ref q4, .int (nI kc), .int td, .ref q2, .ref q3], xO q1 0 [.ref a1, .int (nI n)], xA γ a1 12 f, xO q3 1 [.ref a3, .int (nI n)], xA γ a3 12 h2x]) H := hP
    have hD : va_D A ([xO qk 0 [.ref ak, .int (nI n)], xA γ ak 12 g, xO q0 2 [.ref q1, .ref q4, .int (nI kc), .int td, .ref q2, .ref q3], xO q1 0 [.ref a1, .int (nI n)], xA γ a1 12 f, xO q3 1 [.ref a3, .int (nI n)], xA γ a3 12 h2x]) := hD
    refine W.eq (g2 := F0 m 25 ls []) rfl ?_
    refine lv_aload_n hx hb dX2_fewestTo_25 rfl (lv_at hl 0 rfl) ?_
    refine va_get (D := γ.1) (ci := 2) (v := .ref q3) (C := RX2) (T := TX2) (N := 6) hx hb hts iwX2_fewestTo_2 hown hK hP 2 rfl rfl 5 (by decide) (hts _ flX2_fewestTo_33) (fun _ h9 => h9) rfl dX2_fewestTo_26 ?_
    refine xVR (q0 := 5) (ci := 1) (As := []) (rest := []) (stk := [.int (xFw n h2x)]) ⟨hx, hb, hml, hown, hts⟩ (c_X1_fewest γ l q3 a3 n h2x (by omega) (by omega)) (cwV 0 hts gX2_fewestTo_X1_fewest rfl rfl rfl hdv_X1_fewest ⟨(Nat.le_of_ble_eq_true rfl), (Nat.le_of_ble_eq_true rfl)⟩) hK hP [5, 6] rfl rfl rfl rfl hl.1 rfl (Nat.le_of_ble_eq_true rfl) dX2_fewestTo_29 ⟨(Nat.le_of_ble_eq_true rfl), (Nat.le_of_ble_eq_true rfl)⟩ rfl ?_
    subst hQ
    exact xM_i hx hb hr hlocks dX2_fewestTo_32 hP rfl hS (Nat.le_of_ble_eq_true rfl) (Nat.le_of_ble_eq_true rfl) (⟨by unfold xFew xWay; rw [xB_t c8, xFw_congr (by omega) eh2x]; rfl, _, _, rfl⟩)
  · refine lv_iconst (v := (-1)) hx hb dX2_fewestTo_11 (by decide) ?_
    subst hQ
    exact xM_i hx hb hr hlocks dX2_fewestTo_12 hP rfl hS (Nat.le_of_ble_eq_true rfl) (Nat.le_of_ble_eq_true rfl) (⟨by unfold xFew; rw [xB_f c8]; rfl, wn, wf, rfl⟩)

theorem hdv_X2_requireWayTo : yX2_requireWayTo.cls = RX2 ∧ yX2_requireWayTo.cls ≠ "java/lang/invoke/MethodHandle" ∧ yX2_requireWayTo.cls ≠ "java/lang/invoke/VarHandle" ∧ (parseMethodDescriptor yX2_requireWayTo.desc).map (fun d => d.parameters.length) = some 1 := by decide +kernel
theorem flX2_tipsTo_33 : Cond.fieldLink RX2 33 "RingSeesaw" "way" "LRingSeesaw$Way;" ∈ wsX2_tipsTo := by decide +kernel
theorem iwX2_tipsTo_2 : ∀ w ∈ wsX20, w ∈ wsX2_tipsTo := by decide +kernel
theorem flX2_tipsTo_10 : Cond.fieldLink RX2 10 "RingSeesaw" "ring" "LRingSeesaw$Ring;" ∈ wsX2_tipsTo := by decide +kernel
set_option maxHeartbeats 4000000 in
set_option maxRecDepth 100000 in
theorem c_X2_tipsTo (γ : xG) (l : Launch) (q0 q1 q2 q3 q4 kc : Nat) (td : Int32) (a1 n : Nat) (f : xRow) (a3 : Nat) (wn : Int32) (wf : xRow) (kq ka : Nat → Nat) (kn : Nat → Int32) (ks : Nat → xRow) (k i9 : Nat) (hn0 : 3 ≤ n) (hn1 : n ≤ 12) (hk : k < kc) (hkc : kc ≤ 6) (hi : i9 < n) (hcb : xCB n f (ks k) = true) : xM γ l yX2_tipsTo wsX2_tipsTo ({ frames := 4, cells := 0, slots := 0, locals := 86 } : Room) [.ref q0, .int (nI k), .int (nI i9)] ([xO q0 2 [.ref q1, .ref q4, .int (nI kc), .int td, .ref q2, .ref q3], xO q1 0 [.ref a1, .int (nI n)], xA γ a1 12 f, xO q3 1 [.ref a3, .int wn], xA γ a3 12 wf, xQ γ q4 6 (fun t9 => some (kq t9)), xO (kq k) 0 [.ref (ka k), .int (nI n)], xA γ (ka k) 12 (ks k)]) (fun r9 w9 => r9 = some (.int (xHt n f (ks k) i9)) ∧ ∃ (z9 : Int32) (h9 : xRow), w9 = [xO q0 2 [.ref q1, .ref q4, .int (nI kc), .int td, .ref q2, .ref q3], xO q1 0 [.ref a1, .int (nI n)], xA γ a1 12 f, xO q3 1 [.ref a3, .int z9], xA γ a3 12 h9, xQ γ q4 6 (fun t9 => some (kq t9)), xO (kq k) 0 [.ref (ka k), .int (nI n)], xA γ (ka k) 12 (ks k)]) 0 0 := by
  refine xM.of (cc := cX2_tipsTo) (maxL := 4) (ret := (some .int)) (by decide +kernel) rfl (Nat.le_of_ble_eq_true rfl) ?_
  intro p e s m below meth c hx hb hr hml hts hown hlocks hin hP hK A hA hD ls hl
  have hS : va_S A s.heap s.heap [] := va_S.rf
  generalize hargs : ([.ref q0, .int (nI k), .int (nI i9)] : List Value).toArray = args at hts ⊢
  obtain ⟨Q, hQ⟩ : ∃ Q9, Q9 = MQ below (xMQ γ (List.map Prod.fst ([xO q0 2 [.ref q1, .ref q4, .int (nI kc), .int td, .ref q2, .ref q3], xO q1 0 [.ref a1, .int (nI n)], xA γ a1 12 f, xO q3 1 [.ref a3, .int wn], xA γ a3 12 wf, xQ γ q4 6 (fun t9 => some (kq t9)), xO (kq k) 0 [.ref (ka k), .int (nI n)], xA γ (ka k) 12 (ks k)])) A (fun r9 w9 => r9 = some (.int (xHt n f (ks k) i9)) ∧ ∃ (z9 : Int32) (h9 : xRow), w9 = [xO q0 2 [.ref q1, .ref q4, .int (nI kc), .int td, .ref q2, .ref q3], xO q1 0 [.ref a1, .int (nI n)], xA γ a1 12 f, xO q3 1 [.ref a3, .int z9], xA γ a3 12 h9, xQ γ q4 6 (fun t9 => some (kq t9)), xO (kq k) 0 [.ref (ka k), .int (nI n)], xA γ (ka k) 12 (ks k)])) args s 0 0 A := ⟨_, rfl⟩
  rw [← hQ]
  have hown : s.vm.findClass RX2 = some m.cls := hown
  have hl : lv_has ls 4 [(0, .ref q0), (1, .int (nI k)), (2, .int (nI i9))] := hl
  refine lv_aload_n hx hb dX2_tipsTo_0 rfl (lv_at hl 0 rfl) ?_
  refine lv_iload_n hx hb dX2_tipsTo_1 rfl (lv_at hl 1 rfl) ?_
  refine xVR (q0 := 0) (ci := 2) (As := [.int (nI k)]) (rest := []) (stk := [.ref (kq k)]) ⟨hx, hb, hml, hown, hts⟩ (c_X2_keptRing γ l q0 q1 q2 q3 q4 kc td kq k (by omega) (by omega)) (cwV 1 hts gX2_tipsTo_X2_keptRing rfl rfl rfl hdv_X2_keptRing ⟨(Nat.le_of_ble_eq_true rfl), (Nat.le_of_ble_eq_true rfl)⟩) hK hP [0, 5] rfl rfl rfl rfl hl.1 rfl (Nat.le_of_ble_eq_true rfl) dX2_tipsTo_2 ⟨(Nat.le_of_ble_eq_true rfl), (Nat.le_of_ble_eq_true rfl)⟩ rfl ?_
  refine lv_astore_n (lv' := [(3, .ref (kq k)), (0, .ref q0), (1, .int (nI k)), (2, .int (nI i9))]) hx hb dX2_tipsTo_5 rfl hl (by decide) rfl (fun ls hl => ?_)
  refine lv_aload_n hx hb dX2_tipsTo_6 rfl (lv_at hl 1 rfl) ?_
  refine lv_iload_n hx hb dX2_tipsTo_7 rfl (lv_at hl 3 rfl) ?_
  refine xVR (q0 := 0) (ci := 2) (As := [.int (nI i9)]) (rest := []) (stk := []) ⟨hx, hb, hml, hown, hts⟩ (c_X2_requirePlace γ l q0 q1 q2 q3 q4 kc td a1 n f i9 (by omega) (by omega) (by omega)) (cwV 1 hts gX2_tipsTo_X2_requirePlace rfl rfl rfl hdv_X2_requirePlace ⟨(Nat.le_of_ble_eq_true rfl), (Nat.le_of_ble_eq_true rfl)⟩) hK hP [0, 1, 2] rfl rfl rfl rfl hl.1 rfl (Nat.le_of_ble_eq_true rfl) dX2_tipsTo_8 ⟨(Nat.le_of_ble_eq_true rfl), (Nat.le_of_ble_eq_true rfl)⟩ rfl ?_
  refine lv_aload_n hx hb dX2_tipsTo_11 rfl (lv_at hl 1 rfl) ?_
  refine lv_aload_n hx hb dX2_tipsTo_12 rfl (lv_at hl 0 rfl) ?_
  refine xVR (q0 := 0) (ci := 2) (As := [.ref (kq k)]) (rest := []) (stk := []) ⟨hx, hb, hml, hown, hts⟩ (c_X2_requireWayTo γ l q0 q1 q2 q3 q4 kc td a1 n f (kq k) (ka k) (ks k) (by omega) (by omega) hcb) (cwV 1 hts gX2_tipsTo_X2_requireWayTo rfl rfl rfl hdv_X2_requireWayTo ⟨(Nat.le_of_ble_eq_true rfl), (Nat.le_of_ble_eq_true rfl)⟩) hK hP [0, 1, 2, 6, 7] rfl rfl rfl rfl hl.1 rfl (Nat.le_of_ble_eq_true rfl) dX2_tipsTo_13 ⟨(Nat.le_of_ble_eq_true rfl), (Nat.le_of_ble_eq_true rfl)⟩ rfl ?_
  refine lv_aload_n hx hb dX2_tipsTo_16 rfl (lv_at hl 1 rfl) ?_
  refine va_get (D := γ.1) (ci := 2) (v := .ref q3) (C := RX2) (T := TX2) (N := 6) hx hb hts iwX2_tipsTo_2 hown hK hP 0 rfl rfl 5 (by decide) (hts _ flX2_tipsTo_33) (fun _ h9 => h9) rfl dX2_tipsTo_17 ?_
  refine lv_aload_n hx hb dX2_tipsTo_20 rfl (lv_at hl 1 rfl) ?_
  refine va_get (D := γ.1) (ci := 2) (v := .ref q1) (C := RX2) (T := TX2) (N := 6) hx hb hts iwX2_tipsTo_2 hown hK hP 0 rfl rfl 0 (by decide) (hts _ flX2_tipsTo_10) (fun _ h9 => h9) rfl dX2_tipsTo_21 ?_
  refine lv_aload_n hx hb dX2_tipsTo_24 rfl (lv_at hl 0 rfl) ?_
  refine xVM (q0 := 3) (ci := 1) (As := [.ref q1, .ref (kq k)]) (rest := []) ⟨hx, hb, hml, hown, hts⟩ (c_X1_find γ l q3 a3 q1 a1 (kq k) (ka k) n wn wf f (ks k) (by omega) (by omega)) (cwV 2 hts gX2_tipsTo_X1_find rfl rfl rfl hdv_X1_find ⟨(Nat.le_of_ble_eq_true rfl), (Nat.le_of_ble_eq_true rfl)⟩) hK hP hD hS hA [3, 4, 1, 2, 6, 7] rfl rfl rfl rfl rfl hl.1 rfl (Nat.le_of_ble_eq_true rfl) dX2_tipsTo_25 ⟨(Nat.le_of_ble_eq_true rfl), (Nat.le_of_ble_eq_true rfl)⟩ (fun r9 w9 H locs hw hP hD hS => ?_)
  obtain ⟨rfl, h4x, eh4x, rfl⟩ := hw
  have hP : xP γ ([xO q0 2 [.ref q1, .ref q4, .int (nI kc), .int td, .ref q2, .ref q3], xO q1 0 [.ref a1, .int (nI n)], xA γ a1 12 f, xO q3 1 [.ref a3, .int (nI n)], xA γ a3 12 h4x, xQ γ q4 6 (fun t9 => some (kq t9)), xO (kq k) 0 [.ref (ka k), .int (nI n)], xA γ (ka k) 12 (ks k)]) H := hP
  have hD : va_D A ([xO q0 2 [.ref q1, .ref q4, .int (nI kc), .int td, .ref q2, .ref q3], xO q1 0 [.ref a1, .int (nI n)], xA γ a1 12 f, xO q3 1 [.ref a3, .int (nI n)], xA γ a3 12 h4x, xQ γ q4 6 (fun t9 => some (kq t9)), xO (kq k) 0 [.ref (ka k), .int (nI n)], xA γ (ka k) 12 (ks k)]) := hD
  refine W.eq (g2 := F0 m 28 ls []) rfl ?_
  refine lv_aload_n hx hb dX2_tipsTo_28 rfl (lv_at hl 1 rfl) ?_
  refine va_get (D := γ.1) (ci := 2) (v := .ref q3) (C := RX2) (T := TX2) (N := 6) hx hb hts iwX2_tipsTo_2 hown hK hP 0 rfl rfl 5 (by decide) (hts _ flX2_tipsTo_33) (fun _ h9 => h9) rfl dX2_tipsTo_29 ?_
  refine lv_iload_n hx hb dX2_tipsTo_32 rfl (lv_at hl 3 rfl) ?_
  refine xVR (q0 := 3) (ci := 1) (As := [.int (nI i9)]) (rest := []) (stk := [.int (h4x i9)]) ⟨hx, hb, hml, hown, hts⟩ (c_X1_tipsAt γ l q3 a3 (nI n) h4x i9 (by omega)) (cwV 1 hts gX2_tipsTo_X1_tipsAt rfl rfl rfl hdv_X1_tipsAt ⟨(Nat.le_of_ble_eq_true rfl), (Nat.le_of_ble_eq_true rfl)⟩) hK hP [3, 4] rfl rfl rfl rfl hl.1 rfl (Nat.le_of_ble_eq_true rfl) dX2_tipsTo_33 ⟨(Nat.le_of_ble_eq_true rfl), (Nat.le_of_ble_eq_true rfl)⟩ rfl ?_
  subst hQ
  exact xM_i hx hb hr hlocks dX2_tipsTo_36 hP rfl hS (Nat.le_of_ble_eq_true rfl) (Nat.le_of_ble_eq_true rfl) (⟨by rw [eh4x i9 hi], _, _, rfl⟩)

theorem hdv_X2_fewestTo : yX2_fewestTo.cls = RX2 ∧ yX2_fewestTo.cls ≠ "java/lang/invoke/MethodHandle" ∧ yX2_fewestTo.cls ≠ "java/lang/invoke/VarHandle" ∧ (parseMethodDescriptor yX2_fewestTo.desc).map (fun d => d.parameters.length) = some 1 := by decide +kernel
set_option maxHeartbeats 4000000 in
set_option maxRecDepth 100000 in
theorem c_X2_fewestTips (γ : xG) (l : Launch) (q0 q1 q2 q3 q4 kc : Nat) (td : Int32) (a1 n : Nat) (f : xRow) (a3 : Nat) (wn : Int32) (wf : xRow) (kq ka : Nat → Nat) (kn : Nat → Int32) (ks : Nat → xRow) (k : Nat) (hn0 : 3 ≤ n) (hn1 : n ≤ 12) (hk : k < kc) (hkc : kc ≤ 6) : xM γ l yX2_fewestTips wsX2_fewestTips ({ frames := 4, cells := 0, slots := 0, locals := 91 } : Room) [.ref q0, .int (nI k)] ([xO q0 2 [.ref q1, .ref q4, .int (nI kc), .int td, .ref q2, .ref q3], xO q1 0 [.ref a1, .int (nI n)], xA γ a1 12 f, xO q3 1 [.ref a3, .int wn], xA γ a3 12 wf, xQ γ q4 6 (fun t9 => some (kq t9)), xO (kq k) 0 [.ref (ka k), .int (nI n)], xA γ (ka k) 12 (ks k)]) (fun r9 w9 => r9 = some (.int (xFew n f (ks k))) ∧ ∃ (z9 : Int32) (h9 : xRow), w9 = [xO q0 2 [.ref q1, .ref q4, .int (nI kc), .int td, .ref q2, .ref q3], xO q1 0 [.ref a1, .int (nI n)], xA γ a1 12 f, xO q3 1 [.ref a3, .int z9], xA γ a3 12 h9, xQ γ q4 6 (fun t9 => some (kq t9)), xO (kq k) 0 [.ref (ka k), .int (nI n)], xA γ (ka k) 12 (ks k)]) 0 0 := by
  refine xM.of (cc := cX2_fewestTips) (maxL := 2) (ret := (some .int)) (by decide +kernel) rfl (Nat.le_of_ble_eq_true rfl) ?_
  intro p e s m below meth c hx hb hr hml hts hown hlocks hin hP hK A hA hD ls hl
  have hS : va_S A s.heap s.heap [] := va_S.rf
  generalize hargs : ([.ref q0, .int (nI k)] : List Value).toArray = args at hts ⊢
  obtain ⟨Q, hQ⟩ : ∃ Q9, Q9 = MQ below (xMQ γ (List.map Prod.fst ([xO q0 2 [.ref q1, .ref q4, .int (nI kc), .int td, .ref q2, .ref q3], xO q1 0 [.ref a1, .int (nI n)], xA γ a1 12 f, xO q3 1 [.ref a3, .int wn], xA γ a3 12 wf, xQ γ q4 6 (fun t9 => some (kq t9)), xO (kq k) 0 [.ref (ka k), .int (nI n)], xA γ (ka k) 12 (ks k)])) A (fun r9 w9 => r9 = some (.int (xFew n f (ks k))) ∧ ∃ (z9 : Int32) (h9 : xRow), w9 = [xO q0 2 [.ref q1, .ref q4, .int (nI kc), .int td, .ref q2, .ref q3], xO q1 0 [.ref a1, .int (nI n)], xA γ a1 12 f, xO q3 1 [.ref a3, .int z9], xA γ a3 12 h9, xQ γ q4 6 (fun t9 => some (kq t9)), xO (kq k) 0 [.ref (ka k), .int (nI n)], xA γ (ka k) 12 (ks k)])) args s 0 0 A := ⟨_, rfl⟩
  rw [← hQ]
  have hown : s.vm.findClass RX2 = some m.cls := hown
  have hl : lv_has ls 2 [(0, .ref q0), (1, .int (nI k))] := hl
  refine lv_aload_n hx hb dX2_fewestTips_0 rfl (lv_at hl 0 rfl) ?_
  refine lv_aload_n hx hb dX2_fewestTips_1 rfl (lv_at hl 0 rfl) ?_
  refine lv_iload_n hx hb dX2_fewestTips_2 rfl (lv_at hl 1 rfl) ?_
  refine xVR (q0 := 0) (ci := 2) (As := [.int (nI k)]) (rest := [.ref q0]) (stk := [.ref (kq k), .ref q0]) ⟨hx, hb, hml, hown, hts⟩ (c_X2_keptRing γ l q0 q1 q2 q3 q4 kc td kq k (by omega) (by omega)) (cwV 1 hts gX2_fewestTips_X2_keptRing rfl rfl rfl hdv_X2_keptRing ⟨(Nat.le_of_ble_eq_true rfl), (Nat.le_of_ble_eq_true rfl)⟩) hK hP [0, 5] rfl rfl rfl rfl hl.1 rfl (Nat.le_of_ble_eq_true rfl) dX2_fewestTips_3 ⟨(Nat.le_of_ble_eq_true rfl), (Nat.le_of_ble_eq_true rfl)⟩ rfl ?_
  refine xVM (q0 := 0) (ci := 2) (As := [.ref (kq k)]) (rest := []) ⟨hx, hb, hml, hown, hts⟩ (c_X2_fewestTo γ l q0 q1 q2 q3 q4 kc td a1 n f a3 wn wf (kq k) (ka k) (ks k) (by omega) (by omega)) (cwV 1 hts gX2_fewestTips_X2_fewestTo rfl rfl rfl hdv_X2_fewestTo ⟨(Nat.le_of_ble_eq_true rfl), (Nat.le_of_ble_eq_true rfl)⟩) hK hP hD hS hA [6, 7, 0, 1, 2, 3, 4] rfl rfl rfl rfl rfl hl.1 rfl (Nat.le_of_ble_eq_true rfl) dX2_fewestTips_6 ⟨(Nat.le_of_ble_eq_true rfl), (Nat.le_of_ble_eq_true rfl)⟩ (fun r9 w9 H locs hw hP hD hS => ?_)
  obtain ⟨rfl, wn7x, wf8x, rfl⟩ := hw
  have hP : xP γ ([xO q0 2 [.ref q1, .ref q4, .int (nI kc), .int td, .ref q2, .ref q3], xO q1 0 [.ref a1, .int (nI n)], xA γ a1 12 f, xO q3 1 [.ref a3, .int wn7x], xA γ a3 12 wf8x, xQ γ q4 6 (fun t9 => some (kq t9)), xO (kq k) 0 [.ref (ka k), .int (nI n)], xA γ (ka k) 12 (ks k)]) H := hP
  have hD : va_D A ([xO q0 2 [.ref q1, .ref q4, .int (nI kc), .int td, .ref q2, .ref q3], xO q1 0 [.ref a1, .int (nI n)], xA γ a1 12 f, xO q3 1 [.ref a3, .int wn7x], xA γ a3 12 wf8x, xQ γ q4 6 (fun t9 => some (kq t9)), xO (kq k) 0 [.ref (ka k), .int (nI n)], xA γ (ka k) 12 (ks k)]) := hD
  refine W.eq (g2 := F0 m 9 ls [.int (xFew n f (ks k))]) rfl ?_
  subst hQ
  exact xM_i hx hb hr hlocks dX2_fewestTips_9 hP rfl hS (Nat.le_of_ble_eq_true rfl) (Nat.le_of_ble_eq_true rfl) (⟨rfl, _, _, rfl⟩)

theorem hdv_X0_copyFrom : yX0_copyFrom.cls = RX0 ∧ yX0_copyFrom.cls ≠ "java/lang/invoke/MethodHandle" ∧ yX0_copyFrom.cls ≠ "java/lang/invoke/VarHandle" ∧ (parseMethodDescriptor yX0_copyFrom.desc).map (fun d => d.parameters.length) = some 1 := by decide +kernel
theorem flX2_reach_10 : Cond.fieldLink RX2 10 "RingSeesaw" "ring" "LRingSeesaw$Ring;" ∈ wsX2_reach := by decide +kernel
theorem iwX2_reach_2 : ∀ w ∈ wsX20, w ∈ wsX2_reach := by decide +kernel
theorem flX2_reach_24 : Cond.fieldLink RX2 24 "RingSeesaw" "tipsDone" "I" ∈ wsX2_reach := by decide +kernel
set_option maxHeartbeats 4000000 in
set_option maxRecDepth 100000 in
theorem c_X2_reach (γ : xG) (l : Launch) (q0 q1 q2 q3 q4 kc : Nat) (td : Int32) (a1 n : Nat) (f : xRow) (a3 : Nat) (wn : Int32) (wf : xRow) (kq ka : Nat → Nat) (kn : Nat → Int32) (ks : Nat → xRow) (k : Nat) (hn0 : 3 ≤ n) (hn1 : n ≤ 12) (hk : k < kc) (hkc : kc ≤ 6) (hcb : xCB n f (ks k) = true) : xM γ l yX2_reach wsX2_reach ({ frames := 4, cells := 0, slots := 0, locals := 91 } : Room) [.ref q0, .int (nI k)] ([xO q0 2 [.ref q1, .ref q4, .int (nI kc), .int td, .ref q2, .ref q3], xO q1 0 [.ref a1, .int (nI n)], xA γ a1 12 f, xO q3 1 [.ref a3, .int wn], xA γ a3 12 wf, xQ γ q4 6 (fun t9 => some (kq t9)), xO (kq k) 0 [.ref (ka k), .int (nI n)], xA γ (ka k) 12 (ks k)]) (fun r9 w9 => r9 = some (.int (xFew n f (ks k))) ∧ ∃ (z9 : Int32) (h9 : xRow), w9 = [xO q0 2 [.ref q1, .ref q4, .int (nI kc), .int (td + xFew n f (ks k)), .ref q2, .ref q3], xO q1 0 [.ref a1, .int (nI n)], xA γ a1 12 (ks k), xO q3 1 [.ref a3, .int z9], xA γ a3 12 h9, xQ γ q4 6 (fun t9 => some (kq t9)), xO (kq k) 0 [.ref (ka k), .int (nI n)], xA γ (ka k) 12 (ks k)]) 0 0 := by
  refine xM.of (cc := cX2_reach) (maxL := 4) (ret := (some .int)) (by decide +kernel) rfl (Nat.le_of_ble_eq_true rfl) ?_
  intro p e s m below meth c hx hb hr hml hts hown hlocks hin hP hK A hA hD ls hl
  have hS : va_S A s.heap s.heap [] := va_S.rf
  generalize hargs : ([.ref q0, .int (nI k)] : List Value).toArray = args at hts ⊢
  obtain ⟨Q, hQ⟩ : ∃ Q9, Q9 = MQ below (xMQ γ (List.map Prod.fst ([xO q0 2 [.ref q1, .ref q4, .int (nI kc), .int td, .ref q2, .ref q3], xO q1 0 [.ref a1, .int (nI n)], xA γ a1 12 f, xO q3 1 [.ref a3, .int wn], xA γ a3 12 wf, xQ γ q4 6 (fun t9 => some (kq t9)), xO (kq k) 0 [.ref (ka k), .int (nI n)], xA γ (ka k) 12 (ks k)])) A (fun r9 w9 => r9 = some (.int (xFew n f (ks k))) ∧ ∃ (z9 : Int32) (h9 : xRow), w9 = [xO q0 2 [.ref q1, .ref q4, .int (nI kc), .int (td + xFew n f (ks k)), .ref q2, .ref q3], xO q1 0 [.ref a1, .int (nI n)], xA γ a1 12 (ks k), xO q3 1 [.ref a3, .int z9], xA γ a3 12 h9, xQ γ q4 6 (fun t9 => some (kq t9)), xO (kq k) 0 [.ref (ka k), .int (nI n)], xA γ (ka k) 12 (ks k)])) args s 0 0 A := ⟨_, rfl⟩
  rw [← hQ]
  have hown : s.vm.findClass RX2 = some m.cls := hown
  have hl : lv_has ls 4 [(0, .ref q0), (1, .int (nI k))] := hl
  refine lv_aload_n hx hb dX2_reach_0 rfl (lv_at hl 0 rfl) ?_
  refine lv_iload_n hx hb dX2_reach_1 rfl (lv_at hl 1 rfl) ?_
  refine xVR (q0 := 0) (ci := 2) (As := [.int (nI k)]) (rest := []) (stk := [.ref (kq k)]) ⟨hx, hb, hml, hown, hts⟩ (c_X2_keptRing γ l q0 q1 q2 q3 q4 kc td kq k (by omega) (by omega)) (cwV 1 hts gX2_reach_X2_keptRing rfl rfl rfl hdv_X2_keptRing ⟨(Nat.le_of_ble_eq_true rfl), (Nat.le_of_ble_eq_true rfl)⟩) hK hP [0, 5] rfl rfl rfl rfl hl.1 rfl (Nat.le_of_ble_eq_true rfl) dX2_reach_2 ⟨(Nat.le_of_ble_eq_true rfl), (Nat.le_of_ble_eq_true rfl)⟩ rfl ?_
  refine lv_astore_n (lv' := [(2, .ref (kq k)), (0, .ref q0), (1, .int (nI k))]) hx hb dX2_reach_5 rfl hl (by decide) rfl (fun ls hl => ?_)
  refine lv_aload_n hx hb dX2_reach_6 rfl (lv_at hl 1 rfl) ?_
  refine lv_aload_n hx hb dX2_reach_7 rfl (lv_at hl 0 rfl) ?_
  refine xVR (q0 := 0) (ci := 2) (As := [.ref (kq k)]) (rest := []) (stk := []) ⟨hx, hb, hml, hown, hts⟩ (c_X2_requireWayTo γ l q0 q1 q2 q3 q4 kc td a1 n f (kq k) (ka k) (ks k) (by omega) (by omega) hcb) (cwV 1 hts gX2_reach_X2_requireWayTo rfl rfl rfl hdv_X2_requireWayTo ⟨(Nat.le_of_ble_eq_true rfl), (Nat.le_of_ble_eq_true rfl)⟩) hK hP [0, 1, 2, 6, 7] rfl rfl rfl rfl hl.1 rfl (Nat.le_of_ble_eq_true rfl) dX2_reach_8 ⟨(Nat.le_of_ble_eq_true rfl), (Nat.le_of_ble_eq_true rfl)⟩ rfl ?_
  refine lv_aload_n hx hb dX2_reach_11 rfl (lv_at hl 1 rfl) ?_
  refine lv_aload_n hx hb dX2_reach_12 rfl (lv_at hl 0 rfl) ?_
  refine xVM (q0 := 0) (ci := 2) (As := [.ref (kq k)]) (rest := []) ⟨hx, hb, hml, hown, hts⟩ (c_X2_fewestTo γ l q0 q1 q2 q3 q4 kc td a1 n f a3 wn wf (kq k) (ka k) (ks k) (by omega) (by omega)) (cwV 1 hts gX2_reach_X2_fewestTo rfl rfl rfl hdv_X2_fewestTo ⟨(Nat.le_of_ble_eq_true rfl), (Nat.le_of_ble_eq_true rfl)⟩) hK hP hD hS hA [6, 7, 0, 1, 2, 3, 4] rfl rfl rfl rfl rfl hl.1 rfl (Nat.le_of_ble_eq_true rfl) dX2_reach_13 ⟨(Nat.le_of_ble_eq_true rfl), (Nat.le_of_ble_eq_true rfl)⟩ (fun r9 w9 H locs hw hP hD hS => ?_)
  obtain ⟨rfl, wn11x, wf12x, rfl⟩ := hw
  have hP : xP γ ([xO q0 2 [.ref q1, .ref q4, .int (nI kc), .int td, .ref q2, .ref q3], xO q1 0 [.ref a1, .int (nI n)], xA γ a1 12 f, xO q3 1 [.ref a3, .int wn11x], xA γ a3 12 wf12x, xQ γ q4 6 (fun t9 => some (kq t9)), xO (kq k) 0 [.ref (ka k), .int (nI n)], xA γ (ka k) 12 (ks k)]) H := hP
  have hD : va_D A ([xO q0 2 [.ref q1, .ref q4, .int (nI kc), .int td, .ref q2, .ref q3], xO q1 0 [.ref a1, .int (nI n)], xA γ a1 12 f, xO q3 1 [.ref a3, .int wn11x], xA γ a3 12 wf12x, xQ γ q4 6 (fun t9 => some (kq t9)), xO (kq k) 0 [.ref (ka k), .int (nI n)], xA γ (ka k) 12 (ks k)]) := hD
  refine W.eq (g2 := F0 m 16 ls [.int (xFew n f (ks k))]) rfl ?_
  refine lv_istore_n (lv' := [(3, .int (xFew n f (ks k))), (2, .ref (kq k)), (0, .ref q0), (1, .int (nI k))]) hx hb dX2_reach_16 rfl hl (by decide) rfl (fun ls hl => ?_)
  refine lv_aload_n hx hb dX2_reach_17 rfl (lv_at hl 2 rfl) ?_
  refine va_get (D := γ.1) (ci := 2) (v := .ref q1) (C := RX2) (T := TX2) (N := 6) hx hb hts iwX2_reach_2 hown hK hP 0 rfl rfl 0 (by decide) (hts _ flX2_reach_10) (fun _ h9 => h9) rfl dX2_reach_18 ?_
  refine lv_aload_n hx hb dX2_reach_21 rfl (lv_at hl 1 rfl) ?_
  refine xVM (q0 := 1) (ci := 0) (As := [.ref (kq k)]) (rest := []) ⟨hx, hb, hml, hown, hts⟩ (c_X0_copyFrom γ l q1 a1 (kq k) (ka k) (nI n) (nI n) f (ks k)) (cwV 1 hts gX2_reach_X0_copyFrom rfl rfl rfl hdv_X0_copyFrom ⟨(Nat.le_of_ble_eq_true rfl), (Nat.le_of_ble_eq_true rfl)⟩) hK hP hD hS hA [1, 2, 6, 7] rfl rfl rfl rfl rfl hl.1 rfl (Nat.le_of_ble_eq_true rfl) dX2_reach_22 ⟨(Nat.le_of_ble_eq_true rfl), (Nat.le_of_ble_eq_true rfl)⟩ (fun r9 w9 H locs hw hP hD hS => ?_)
  obtain ⟨rfl, rfl⟩ := hw
  have hP : xP γ ([xO q0 2 [.ref q1, .ref q4, .int (nI kc), .int td, .ref q2, .ref q3], xO q1 0 [.ref a1, .int (nI n)], xA γ a1 12 (ks k), xO q3 1 [.ref a3, .int wn11x], xA γ a3 12 wf12x, xQ γ q4 6 (fun t9 => some (kq t9)), xO (kq k) 0 [.ref (ka k), .int (nI n)], xA γ (ka k) 12 (ks k)]) H := hP
  have hD : va_D A ([xO q0 2 [.ref q1, .ref q4, .int (nI kc), .int td, .ref q2, .ref q3], xO q1 0 [.ref a1, .int (nI n)], xA γ a1 12 (ks k), xO q3 1 [.ref a3, .int wn11x], xA γ a3 12 wf12x, xQ γ q4 6 (fun t9 => some (kq t9)), xO (kq k) 0 [.ref (ka k), .int (nI n)], xA γ (ka k) 12 (ks k)]) := hD
  refine W.eq (g2 := F0 m 25 ls []) rfl ?_
  refine lv_aload_n hx hb dX2_reach_25 rfl (lv_at hl 2 rfl) ?_
  refine lv_dup hx hb dX2_reach_26 rfl ?_
  refine va_get (D := γ.1) (ci := 2) (v := .int td) (C := RX2) (T := TX2) (N := 6) hx hb hts iwX2_reach_2 hown hK hP 0 rfl rfl 3 (by decide) (hts _ flX2_reach_24) (fun _ h9 => h9) rfl dX2_reach_27 ?_
  refine lv_iload_n hx hb dX2_reach_30 rfl (lv_at hl 0 rfl) ?_
  refine lv_iadd hx hb dX2_reach_31 ?_
  refine va_put (D := γ.1) (ci := 2) (v := .int (td + (xFew n f (ks k)))) (ty := .int) (C := RX2) (T := TX2) (N := 6) hx hb hts iwX2_reach_2 tyX2 tyX2_ok nmX2 hown hK hP hD hS 0 rfl rfl 3 (by decide) (hts _ flX2_reach_24) (fun _ h9 => h9) rfl (by decide +kernel) rfl rfl (Nat.le_of_ble_eq_true rfl) dX2_reach_32 (fun H locs hP hD hS => ?_)
  have hP : xP γ ([xO q0 2 [.ref q1, .ref q4, .int (nI kc), .int (td + (xFew n f (ks k))), .ref q2, .ref q3], xO q1 0 [.ref a1, .int (nI n)], xA γ a1 12 (ks k), xO q3 1 [.ref a3, .int wn11x], xA γ a3 12 wf12x, xQ γ q4 6 (fun t9 => some (kq t9)), xO (kq k) 0 [.ref (ka k), .int (nI n)], xA γ (ka k) 12 (ks k)]) H := hP
  have hD : va_D A ([xO q0 2 [.ref q1, .ref q4, .int (nI kc), .int (td + (xFew n f (ks k))), .ref q2, .ref q3], xO q1 0 [.ref a1, .int (nI n)], xA γ a1 12 (ks k), xO q3 1 [.ref a3, .int wn11x], xA γ a3 12 wf12x, xQ γ q4 6 (fun t9 => some (kq t9)), xO (kq k) 0 [.ref (ka k), .int (nI n)], xA γ (ka k) 12 (ks k)]) := hD
  refine lv_iload_n hx hb dX2_reach_35 rfl (lv_at hl 0 rfl) ?_
  subst hQ
  exact xM_i hx hb hr hlocks dX2_reach_36 hP rfl hS (Nat.le_of_ble_eq_true rfl) (Nat.le_of_ble_eq_true rfl) (⟨rfl, _, _, rfl⟩)

theorem flX2_reachable_20 : Cond.fieldLink RX2 20 "RingSeesaw" "keptCount" "I" ∈ wsX2_reachable := by decide +kernel
theorem iwX2_reachable_2 : ∀ w ∈ wsX20, w ∈ wsX2_reachable := by decide +kernel
theorem flX2_reachable_10 : Cond.fieldLink RX2 10 "RingSeesaw" "ring" "LRingSeesaw$Ring;" ∈ wsX2_reachable := by decide +kernel
set_option maxHeartbeats 4000000 in
set_option maxRecDepth 100000 in
theorem c_X2_reachable (γ : xG) (l : Launch) (q0 q1 q2 q3 q4 kc : Nat) (td : Int32) (a1 n : Nat) (f : xRow) (kq ka : Nat → Nat) (kn : Nat → Int32) (ks : Nat → xRow) (hn0 : 3 ≤ n) (hn1 : n ≤ 12) (hkc : kc ≤ 6) (hkn : ∀ t, t < kc → kn t = nI n) : xR γ l yX2_reachable wsX2_reachable ({ frames := 3, cells := 0, slots := 0, locals := 65 } : Room) [.ref q0] ([xO q0 2 [.ref q1, .ref q4, .int (nI kc), .int td, .ref q2, .ref q3], xO q1 0 [.ref a1, .int (nI n)], xA γ a1 12 f, xQ γ q4 6 (fun t9 => some (kq t9))] ++ xKp γ kq ka kn ks) (some (.int (nI (xCnt (fun t9 => xCB n f (ks t9)) kc)))) := by
  refine xR.of (cc := cX2_reachable) (maxL := 3) (ret := (some .int)) (by decide +kernel) rfl (Nat.le_of_ble_eq_true rfl) ?_
  intro p e s m below meth c hx hb hr hml hts hown hlocks hP hK ls hl
  generalize hargs : ([.ref q0] : List Value).toArray = args at hts ⊢
  obtain ⟨Q, hQ⟩ : ∃ Q9, Q9 = MQ below (xRQ (some (.int (nI (xCnt (fun t9 => xCB n f (ks t9)) kc))))) args s 0 0 (fun _ => False) := ⟨_, rfl⟩
  rw [← hQ]
  have hown : s.vm.findClass RX2 = some m.cls := hown
  have hl : lv_has ls 3 [(0, .ref q0)] := hl
  refine lv_iconst (v := 0) hx hb dX2_reachable_0 (by decide) ?_
  refine lv_istore_n (lv' := [(1, .int 0), (0, .ref q0)]) hx hb dX2_reachable_1 rfl hl (by decide) rfl (fun ls hl => ?_)
  refine lv_iconst (v := 0) hx hb dX2_reachable_2 (by decide) ?_
  refine lv_istore_n (lv' := [(2, .int 0), (1, .int 0), (0, .ref q0)]) hx hb dX2_reachable_3 rfl hl (by decide) rfl (fun ls hl => ?_)
  have loop4 : ∀ j : Nat, ∀ (k : Nat), k + j = kc → ∀ ls : Array Slot, lv_has ls 3 [(0, .ref q0), (1, .int (nI (xCnt (fun t9 => xCB n f (ks t9)) k))), (2, .int (nI k))] → W p l e ({ frames := 3, cells := 0, slots := 0, locals := 65 } : Room) s m args below meth c s.heap [] 0 0 Q (F0 m 4 ls []) := by
    intro j
    induction j with
    | zero =>
      intro k hj ls hl
      refine lv_iload_n hx hb dX2_reachable_4 rfl (lv_at hl 2 rfl) ?_
      refine lv_aload_n hx hb dX2_reachable_5 rfl (lv_at hl 0 rfl) ?_
      refine va_get (D := γ.1) (ci := 2) (v := .int (nI kc)) (C := RX2) (T := TX2) (N := 6) hx hb hts iwX2_reachable_2 hown hK hP 0 rfl rfl 2 (by decide) (hts _ flX2_reachable_20) (fun _ h9 => h9) rfl dX2_reachable_6 ?_
      refine lv_icmp_ge (tgt := 36) hx hb dX2_reachable_9 (by decide) (fun _ => ?_) (fun c => absurd (nI_le (a := kc) (b := k) (by omega) (by omega)) c)
      refine lv_iload_n hx hb dX2_reachable_36 rfl (lv_at hl 1 rfl) ?_
      subst hQ
      exact xR_i hx hb hr hlocks dX2_reachable_37 (by rw [show k = kc by omega])
    | succ j ih4 =>
      intro k hj ls hl
      refine lv_iload_n hx hb dX2_reachable_4 rfl (lv_at hl 2 rfl) ?_
      refine lv_aload_n hx hb dX2_reachable_5 rfl (lv_at hl 0 rfl) ?_
      refine va_get (D := γ.1) (ci := 2) (v := .int (nI kc)) (C := RX2) (T := TX2) (N := 6) hx hb hts iwX2_reachable_2 hown hK hP 0 rfl rfl 2 (by decide) (hts _ flX2_reachable_20) (fun _ h9 => h9) rfl dX2_reachable_6 ?_
      refine lv_icmp_ge (tgt := 36) hx hb dX2_reachable_9 (by decide) (fun c => absurd c (nI_ge (a := k) (b := kc) (by omega) (by omega))) (fun _ => ?_)
      refine lv_aload_n hx hb dX2_reachable_12 rfl (lv_at hl 0 rfl) ?_
      refine va_get (D := γ.1) (ci := 2) (v := .ref q1) (C := RX2) (T := TX2) (N := 6) hx hb hts iwX2_reachable_2 hown hK hP 0 rfl rfl 0 (by decide) (hts _ flX2_reachable_10) (fun _ h9 => h9) rfl dX2_reachable_13 ?_
      refine lv_aload_n hx hb dX2_reachable_16 rfl (lv_at hl 0 rfl) ?_
      refine lv_iload_n hx hb dX2_reachable_17 rfl (lv_at hl 2 rfl) ?_
      refine xVR (q0 := 0) (ci := 2) (As := [.int (nI k)]) (rest := [.ref q1]) (stk := [.ref (kq k), .ref q1]) ⟨hx, hb, hml, hown, hts⟩ (c_X2_keptRing γ l q0 q1 q2 q3 q4 kc td kq k (by omega) (by omega)) (cwV 1 hts gX2_reachable_X2_keptRing rfl rfl rfl hdv_X2_keptRing ⟨(Nat.le_of_ble_eq_true rfl), (Nat.le_of_ble_eq_true rfl)⟩) hK hP [0, 3] rfl rfl rfl rfl hl.1 rfl (Nat.le_of_ble_eq_true rfl) dX2_reachable_18 ⟨(Nat.le_of_ble_eq_true rfl), (Nat.le_of_ble_eq_true rfl)⟩ rfl ?_
      refine xVR (q0 := 1) (ci := 0) (As := [.ref (kq k)]) (rest := []) (stk := [.int (if xCB n f (ks k) = true then 1 else 0)]) ⟨hx, hb, hml, hown, hts⟩ (c_X0_canBecome γ l q1 a1 (kq k) (ka k) n f (ks k) (by omega) (by omega)) (cwV 1 hts gX2_reachable_X0_canBecome rfl rfl rfl hdv_X0_canBecome ⟨(Nat.le_of_ble_eq_true rfl), (Nat.le_of_ble_eq_true rfl)⟩) hK hP [1, 2, 4 + 2 * k, 4 + 2 * k + 1] (xisC rfl (xisC rfl (xisC (xKp_o (base := [xO q0 2 [.ref q1, .ref q4, .int (nI kc), .int td, .ref q2, .ref q3], xO q1 0 [.ref a1, .int (nI n)], xA γ a1 12 f, xQ γ q4 6 (fun t9 => some (kq t9))]) (ks := ks) (nb := 4) (t := k) rfl (by omega) (hkn k (by omega))) (xisC (xKp_r (base := [xO q0 2 [.ref q1, .ref q4, .int (nI kc), .int td, .ref q2, .ref q3], xO q1 0 [.ref a1, .int (nI n)], xA γ a1 12 f, xQ γ q4 6 (fun t9 => some (kq t9))]) (kn := kn) (ks := ks) (nb := 4) (t := k) rfl (by omega)) xisN)))) rfl rfl rfl hl.1 rfl (Nat.le_of_ble_eq_true rfl) dX2_reachable_21 ⟨(Nat.le_of_ble_eq_true rfl), (Nat.le_of_ble_eq_true rfl)⟩ rfl ?_
      refine lv_if_eq (tgt := 30) hx hb dX2_reachable_24 (by decide) (fun c24 => ?_) (fun c24 => ?_)
      · rw [← xCnt_f (P := (fun t9 => xCB n f (ks t9))) (xB_f c24)] at hl
        refine lv_iinc (v := nI (k + 1)) (lv' := [(2, .int (nI (k + 1))), (0, .ref q0), (1, .int (nI (xCnt (fun t9 => xCB n f (ks t9)) (k + 1))))]) hx hb dX2_reachable_30 hl (k := 2) rfl (nI_add k 1) (by decide) rfl (fun ls hl => ?_)
        refine lv_goto (tgt := 4) hx hb dX2_reachable_33 (by decide) ?_
        exact ih4 (k + 1) (by omega) ls (lv_sub hl [1, 2, 0] rfl)
      · refine lv_iinc (v := nI (xCnt (fun t9 => xCB n f (ks t9)) (k + 1))) (lv' := [(1, .int (nI (xCnt (fun t9 => xCB n f (ks t9)) (k + 1)))), (0, .ref q0), (2, .int (nI k))]) hx hb dX2_reachable_27 hl (k := 1) rfl ((nI_1 _).trans (congrArg nI (xCnt_t (P := (fun t9 => xCB n f (ks t9))) (xB_t c24)).symm)) (by decide) rfl (fun ls hl => ?_)
        refine lv_iinc (v := nI (k + 1)) (lv' := [(2, .int (nI (k + 1))), (1, .int (nI (xCnt (fun t9 => xCB n f (ks t9)) (k + 1)))), (0, .ref q0)]) hx hb dX2_reachable_30 hl (k := 2) rfl (nI_add k 1) (by decide) rfl (fun ls hl => ?_)
        refine lv_goto (tgt := 4) hx hb dX2_reachable_33 (by decide) ?_
        exact ih4 (k + 1) (by omega) ls (lv_sub hl [2, 1, 0] rfl)
  exact loop4 kc 0 (by omega) ls (lv_sub hl [2, 1, 0] rfl)

theorem flX2_nearestTarget_20 : Cond.fieldLink RX2 20 "RingSeesaw" "keptCount" "I" ∈ wsX2_nearestTarget := by decide +kernel
theorem iwX2_nearestTarget_2 : ∀ w ∈ wsX20, w ∈ wsX2_nearestTarget := by decide +kernel
set_option maxHeartbeats 4000000 in
set_option maxRecDepth 100000 in
theorem c_X2_nearestTarget (γ : xG) (l : Launch) (q0 q1 q2 q3 q4 kc : Nat) (td : Int32) (a1 n : Nat) (f : xRow) (a3 : Nat) (wn : Int32) (wf : xRow) (kq ka : Nat → Nat) (kn : Nat → Int32) (ks : Nat → xRow) (hn0 : 3 ≤ n) (hn1 : n ≤ 12) (hkc : kc ≤ 6) (hkn : ∀ t, t < kc → kn t = nI n) : xM γ l yX2_nearestTarget wsX2_nearestTarget ({ frames := 4, cells := 0, slots := 0, locals := 91 } : Room) [.ref q0] ([xO q0 2 [.ref q1, .ref q4, .int (nI kc), .int td, .ref q2, .ref q3], xO q1 0 [.ref a1, .int (nI n)], xA γ a1 12 f, xO q3 1 [.ref a3, .int wn], xA γ a3 12 wf, xQ γ q4 6 (fun t9 => some (kq t9))] ++ xKp γ kq ka kn ks) (fun r9 w9 => r9 = some (.int (xNear (fun t9 => xFew n f (ks t9)) kc).1) ∧ ∃ (z9 : Int32) (h9 : xRow), w9 = [xO q0 2 [.ref q1, .ref q4, .int (nI kc), .int td, .ref q2, .ref q3], xO q1 0 [.ref a1, .int (nI n)], xA γ a1 12 f, xO q3 1 [.ref a3, .int z9], xA γ a3 12 h9, xQ γ q4 6 (fun t9 => some (kq t9))] ++ xKp γ kq ka kn ks) 0 0 := by
  refine xM.of (cc := cX2_nearestTarget) (maxL := 5) (ret := (some .int)) (by decide +kernel) rfl (Nat.le_of_ble_eq_true rfl) ?_
  intro p e s m below meth c hx hb hr hml hts hown hlocks hin hP hK A hA hD ls hl
  have hS : va_S A s.heap s.heap [] := va_S.rf
  generalize hargs : ([.ref q0] : List Value).toArray = args at hts ⊢
  obtain ⟨Q, hQ⟩ : ∃ Q9, Q9 = MQ below (xMQ γ (List.map Prod.fst ([xO q0 2 [.ref q1, .ref q4, .int (nI kc), .int td, .ref q2, .ref q3], xO q1 0 [.ref a1, .int (nI n)], xA γ a1 12 f, xO q3 1 [.ref a3, .int wn], xA γ a3 12 wf, xQ γ q4 6 (fun t9 => some (kq t9))] ++ xKp γ kq ka kn ks)) A (fun r9 w9 => r9 = some (.int (xNear (fun t9 => xFew n f (ks t9)) kc).1) ∧ ∃ (z9 : Int32) (h9 : xRow), w9 = [xO q0 2 [.ref q1, .ref q4, .int (nI kc), .int td, .ref q2, .ref q3], xO q1 0 [.ref a1, .int (nI n)], xA γ a1 12 f, xO q3 1 [.ref a3, .int z9], xA γ a3 12 h9, xQ γ q4 6 (fun t9 => some (kq t9))] ++ xKp γ kq ka kn ks)) args s 0 0 A := ⟨_, rfl⟩
  rw [← hQ]
  have hown : s.vm.findClass RX2 = some m.cls := hown
  have hl : lv_has ls 5 [(0, .ref q0)] := hl
  refine lv_iconst (v := (-1)) hx hb dX2_nearestTarget_0 (by decide) ?_
  refine lv_istore_n (lv' := [(1, .int (-1)), (0, .ref q0)]) hx hb dX2_nearestTarget_1 rfl hl (by decide) rfl (fun ls hl => ?_)
  refine lv_iconst (v := (-1)) hx hb dX2_nearestTarget_2 (by decide) ?_
  refine lv_istore_n (lv' := [(2, .int (-1)), (1, .int (-1)), (0, .ref q0)]) hx hb dX2_nearestTarget_3 rfl hl (by decide) rfl (fun ls hl => ?_)
  refine lv_iconst (v := 0) hx hb dX2_nearestTarget_4 (by decide) ?_
  refine lv_istore_n (lv' := [(3, .int 0), (2, .int (-1)), (1, .int (-1)), (0, .ref q0)]) hx hb dX2_nearestTarget_5 rfl hl (by decide) rfl (fun ls hl => ?_)
  have loop6 : ∀ j : Nat, ∀ (k : Nat) (wn : Int32) (wf : xRow), k + j = kc → ∀ (H : Heap) (locs : List Loc), xP γ ([xO q0 2 [.ref q1, .ref q4, .int (nI kc), .int td, .ref q2, .ref q3], xO q1 0 [.ref a1, .int (nI n)], xA γ a1 12 f, xO q3 1 [.ref a3, .int wn], xA γ a3 12 wf, xQ γ q4 6 (fun t9 => some (kq t9))] ++ xKp γ kq ka kn ks) H → va_D A ([xO q0 2 [.ref q1, .ref q4, .int (nI kc), .int td, .ref q2, .ref q3], xO q1 0 [.ref a1, .int (nI n)], xA γ a1 12 f, xO q3 1 [.ref a3, .int wn], xA γ a3 12 wf, xQ γ q4 6 (fun t9 => some (kq t9))] ++ xKp γ kq ka kn ks) → va_S A s.heap H locs → ∀ ls : Array Slot, lv_has ls 5 [(0, .ref q0), (1, .int ((xNear (fun t9 => xFew n f (ks t9)) k).1)), (2, .int ((xNear (fun t9 => xFew n f (ks t9)) k).2)), (3, .int (nI k))] → W p l e ({ frames := 4, cells := 0, slots := 0, locals := 91 } : Room) s m args below meth c H locs 0 0 Q (F0 m 6 ls []) := by
    intro j
    induction j with
    | zero =>
      intro k wn wf hj H locs hP hD hS ls hl
      refine lv_iload_n hx hb dX2_nearestTarget_6 rfl (lv_at hl 3 rfl) ?_
      refine lv_aload_n hx hb dX2_nearestTarget_7 rfl (lv_at hl 0 rfl) ?_
      refine va_get (D := γ.1) (ci := 2) (v := .int (nI kc)) (C := RX2) (T := TX2) (N := 6) hx hb hts iwX2_nearestTarget_2 hown hK hP 0 rfl rfl 2 (by decide) (hts _ flX2_nearestTarget_20) (fun _ h9 => h9) rfl dX2_nearestTarget_8 ?_
      refine lv_icmp_ge (tgt := 51) hx hb dX2_nearestTarget_11 (by decide) (fun _ => ?_) (fun c => absurd (nI_le (a := kc) (b := k) (by omega) (by omega)) c)
      refine lv_iload_n hx hb dX2_nearestTarget_51 rfl (lv_at hl 1 rfl) ?_
      subst hQ
      exact xM_i hx hb hr hlocks dX2_nearestTarget_52 hP rfl hS (Nat.le_of_ble_eq_true rfl) (Nat.le_of_ble_eq_true rfl) (⟨by rw [show k = kc by omega], _, _, rfl⟩)
    | succ j ih6 =>
      intro k wn wf hj H locs hP hD hS ls hl
      refine lv_iload_n hx hb dX2_nearestTarget_6 rfl (lv_at hl 3 rfl) ?_
      refine lv_aload_n hx hb dX2_nearestTarget_7 rfl (lv_at hl 0 rfl) ?_
      refine va_get (D := γ.1) (ci := 2) (v := .int (nI kc)) (C := RX2) (T := TX2) (N := 6) hx hb hts iwX2_nearestTarget_2 hown hK hP 0 rfl rfl 2 (by decide) (hts _ flX2_nearestTarget_20) (fun _ h9 => h9) rfl dX2_nearestTarget_8 ?_
      refine lv_icmp_ge (tgt := 51) hx hb dX2_nearestTarget_11 (by decide) (fun c => absurd c (nI_ge (a := k) (b := kc) (by omega) (by omega))) (fun _ => ?_)
      refine lv_aload_n hx hb dX2_nearestTarget_14 rfl (lv_at hl 0 rfl) ?_
      refine lv_aload_n hx hb dX2_nearestTarget_15 rfl (lv_at hl 0 rfl) ?_
      refine lv_iload_n hx hb dX2_nearestTarget_16 rfl (lv_at hl 3 rfl) ?_
      refine xVR (q0 := 0) (ci := 2) (As := [.int (nI k)]) (rest := [.ref q0]) (stk := [.ref (kq k), .ref q0]) ⟨hx, hb, hml, hown, hts⟩ (c_X2_keptRing γ l q0 q1 q2 q3 q4 kc td kq k (by omega) (by omega)) (cwV 1 hts gX2_nearestTarget_X2_keptRing rfl rfl rfl hdv_X2_keptRing ⟨(Nat.le_of_ble_eq_true rfl), (Nat.le_of_ble_eq_true rfl)⟩) hK hP [0, 5] rfl rfl rfl rfl hl.1 rfl (Nat.le_of_ble_eq_true rfl) dX2_nearestTarget_17 ⟨(Nat.le_of_ble_eq_true rfl), (Nat.le_of_ble_eq_true rfl)⟩ rfl ?_
      refine xVM (q0 := 0) (ci := 2) (As := [.ref (kq k)]) (rest := []) ⟨hx, hb, hml, hown, hts⟩ (c_X2_fewestTo γ l q0 q1 q2 q3 q4 kc td a1 n f a3 wn wf (kq k) (ka k) (ks k) (by omega) (by omega)) (cwV 1 hts gX2_nearestTarget_X2_fewestTo rfl rfl rfl hdv_X2_fewestTo ⟨(Nat.le_of_ble_eq_true rfl), (Nat.le_of_ble_eq_true rfl)⟩) hK hP hD hS hA [6 + 2 * k, 6 + 2 * k + 1, 0, 1, 2, 3, 4] (by simp [va_nd] <;> omega) (xismC (xKp_o (base := [xO q0 2 [.ref q1, .ref q4, .int (nI kc), .int td, .ref q2, .ref q3], xO q1 0 [.ref a1, .int (nI n)], xA γ a1 12 f, xO q3 1 [.ref a3, .int wn], xA γ a3 12 wf, xQ γ q4 6 (fun t9 => some (kq t9))]) (ks := ks) (nb := 6) (t := k) rfl (by omega) (hkn k (by omega))) (xismC (xKp_r (base := [xO q0 2 [.ref q1, .ref q4, .int (nI kc), .int td, .ref q2, .ref q3], xO q1 0 [.ref a1, .int (nI n)], xA γ a1 12 f, xO q3 1 [.ref a3, .int wn], xA γ a3 12 wf, xQ γ q4 6 (fun t9 => some (kq t9))]) (kn := kn) (ks := ks) (nb := 6) (t := k) rfl (by omega)) (xismC rfl (xismC rfl (xismC rfl (xismC rfl (xismC rfl xismN))))))) rfl rfl rfl hl.1 rfl (Nat.le_of_ble_eq_true rfl) dX2_nearestTarget_20 ⟨(Nat.le_of_ble_eq_true rfl), (Nat.le_of_ble_eq_true rfl)⟩ (fun r9 w9 H locs hw hP hD hS => ?_)
      obtain ⟨rfl, wn15x, wf16x, rfl⟩ := hw
      rw [xup_2 (xKp_o (base := [xO q0 2 [.ref q1, .ref q4, .int (nI kc), .int td, .ref q2, .ref q3], xO q1 0 [.ref a1, .int (nI n)], xA γ a1 12 f, xO q3 1 [.ref a3, .int wn], xA γ a3 12 wf, xQ γ q4 6 (fun t9 => some (kq t9))]) (ks := ks) (nb := 6) (t := k) rfl (by omega) (hkn k (by omega))) (xKp_r (base := [xO q0 2 [.ref q1, .ref q4, .int (nI kc), .int td, .ref q2, .ref q3], xO q1 0 [.ref a1, .int (nI n)], xA γ a1 12 f, xO q3 1 [.ref a3, .int wn], xA γ a3 12 wf, xQ γ q4 6 (fun t9 => some (kq t9))]) (kn := kn) (ks := ks) (nb := 6) (t := k) rfl (by omega))] at hP hD
      have hP : xP γ ([xO q0 2 [.ref q1, .ref q4, .int (nI kc), .int td, .ref q2, .ref q3], xO q1 0 [.ref a1, .int (nI n)], xA γ a1 12 f, xO q3 1 [.ref a3, .int wn15x], xA γ a3 12 wf16x, xQ γ q4 6 (fun t9 => some (kq t9))] ++ xKp γ kq ka kn ks) H := hP
      have hD : va_D A ([xO q0 2 [.ref q1, .ref q4, .int (nI kc), .int td, .ref q2, .ref q3], xO q1 0 [.ref a1, .int (nI n)], xA γ a1 12 f, xO q3 1 [.ref a3, .int wn15x], xA γ a3 12 wf16x, xQ γ q4 6 (fun t9 => some (kq t9))] ++ xKp γ kq ka kn ks) := hD
      refine W.eq (g2 := F0 m 23 ls [.int (xFew n f (ks k))]) rfl ?_
      refine lv_istore (lv' := [(4, .int (xFew n f (ks k))), (0, .ref q0), (1, .int ((xNear (fun t9 => xFew n f (ks t9)) k).1)), (2, .int ((xNear (fun t9 => xFew n f (ks t9)) k).2)), (3, .int (nI k))]) hx hb dX2_nearestTarget_23 hl (by decide) rfl (fun ls hl => ?_)
      refine lv_iload hx hb dX2_nearestTarget_25 (lv_at hl 0 rfl) ?_
      refine lv_if_lt (tgt := 45) hx hb dX2_nearestTarget_27 (by decide) (fun c27 => ?_) (fun c27 => ?_)
      · have e9 : xNear (fun t9 => xFew n f (ks t9)) (k + 1) = xNear (fun t9 => xFew n f (ks t9)) k := xNear_f (fun h => absurd h.1 (Int32.not_le.mpr c27))
        rw [← e9] at hl
        refine lv_iinc (v := nI (k + 1)) (lv' := [(3, .int (nI (k + 1))), (4, .int (xFew n f (ks k))), (0, .ref q0), (1, .int ((xNear (fun t9 => xFew n f (ks t9)) (k + 1)).1)), (2, .int ((xNear (fun t9 => xFew n f (ks t9)) (k + 1)).2))]) hx hb dX2_nearestTarget_45 hl (k := 4) rfl (nI_add k 1) (by decide) rfl (fun ls hl => ?_)
        refine lv_goto (tgt := 6) hx hb dX2_nearestTarget_48 (by decide) ?_
        exact ih6 (k + 1) wn15x wf16x (by omega) _ _ hP hD hS ls (lv_sub hl [2, 3, 4, 0] rfl)
      · refine lv_iload_n hx hb dX2_nearestTarget_30 rfl (lv_at hl 2 rfl) ?_
        refine lv_if_lt (tgt := 40) hx hb dX2_nearestTarget_31 (by decide) (fun c31 => ?_) (fun c31 => ?_)
        · refine lv_iload_n hx hb dX2_nearestTarget_40 rfl (lv_at hl 4 rfl) ?_
          refine x_top (y := (xNear (fun t9 => xFew n f (ks t9)) (k + 1)).1) (by rw [xNear_t (F := (fun t9 => xFew n f (ks t9))) ⟨Int32.not_lt.mp c27, Or.inl c31⟩]) ?_
          refine lv_istore_n (lv' := [(1, .int ((xNear (fun t9 => xFew n f (ks t9)) (k + 1)).1)), (4, .int (xFew n f (ks k))), (0, .ref q0), (2, .int ((xNear (fun t9 => xFew n f (ks t9)) k).2)), (3, .int (nI k))]) hx hb dX2_nearestTarget_41 rfl hl (by decide) rfl (fun ls hl => ?_)
          refine lv_iload hx hb dX2_nearestTarget_42 (lv_at hl 1 rfl) ?_
          refine x_top (y := (xNear (fun t9 => xFew n f (ks t9)) (k + 1)).2) (by rw [xNear_t (F := (fun t9 => xFew n f (ks t9))) ⟨Int32.not_lt.mp c27, Or.inl c31⟩]) ?_
          refine lv_istore_n (lv' := [(2, .int ((xNear (fun t9 => xFew n f (ks t9)) (k + 1)).2)), (1, .int ((xNear (fun t9 => xFew n f (ks t9)) (k + 1)).1)), (4, .int (xFew n f (ks k))), (0, .ref q0), (3, .int (nI k))]) hx hb dX2_nearestTarget_44 rfl hl (by decide) rfl (fun ls hl => ?_)
          refine lv_iinc (v := nI (k + 1)) (lv' := [(3, .int (nI (k + 1))), (2, .int ((xNear (fun t9 => xFew n f (ks t9)) (k + 1)).2)), (1, .int ((xNear (fun t9 => xFew n f (ks t9)) (k + 1)).1)), (4, .int (xFew n f (ks k))), (0, .ref q0)]) hx hb dX2_nearestTarget_45 hl (k := 4) rfl (nI_add k 1) (by decide) rfl (fun ls hl => ?_)
          refine lv_goto (tgt := 6) hx hb dX2_nearestTarget_48 (by decide) ?_
          exact ih6 (k + 1) wn15x wf16x (by omega) _ _ hP hD hS ls (lv_sub hl [4, 2, 1, 0] rfl)
        · refine lv_iload hx hb dX2_nearestTarget_34 (lv_at hl 0 rfl) ?_
          refine lv_iload_n hx hb dX2_nearestTarget_36 rfl (lv_at hl 3 rfl) ?_
          refine lv_icmp_ge (tgt := 45) hx hb dX2_nearestTarget_37 (by decide) (fun c37 => ?_) (fun c37 => ?_)
          · have e9 : xNear (fun t9 => xFew n f (ks t9)) (k + 1) = xNear (fun t9 => xFew n f (ks t9)) k := xNear_f (fun h => h.2.elim (fun a => c31 a) (fun a => absurd a (Int32.not_lt.mpr c37)))
            rw [← e9] at hl
            refine lv_iinc (v := nI (k + 1)) (lv' := [(3, .int (nI (k + 1))), (4, .int (xFew n f (ks k))), (0, .ref q0), (1, .int ((xNear (fun t9 => xFew n f (ks t9)) (k + 1)).1)), (2, .int ((xNear (fun t9 => xFew n f (ks t9)) (k + 1)).2))]) hx hb dX2_nearestTarget_45 hl (k := 4) rfl (nI_add k 1) (by decide) rfl (fun ls hl => ?_)
            refine lv_goto (tgt := 6) hx hb dX2_nearestTarget_48 (by decide) ?_
            exact ih6 (k + 1) wn15x wf16x (by omega) _ _ hP hD hS ls (lv_sub hl [2, 3, 4, 0] rfl)
          · refine lv_iload_n hx hb dX2_nearestTarget_40 rfl (lv_at hl 4 rfl) ?_
            refine x_top (y := (xNear (fun t9 => xFew n f (ks t9)) (k + 1)).1) (by rw [xNear_t (F := (fun t9 => xFew n f (ks t9))) ⟨Int32.not_lt.mp c27, Or.inr (Int32.not_le.mp c37)⟩]) ?_
            refine lv_istore_n (lv' := [(1, .int ((xNear (fun t9 => xFew n f (ks t9)) (k + 1)).1)), (4, .int (xFew n f (ks k))), (0, .ref q0), (2, .int ((xNear (fun t9 => xFew n f (ks t9)) k).2)), (3, .int (nI k))]) hx hb dX2_nearestTarget_41 rfl hl (by decide) rfl (fun ls hl => ?_)
            refine lv_iload hx hb dX2_nearestTarget_42 (lv_at hl 1 rfl) ?_
            refine x_top (y := (xNear (fun t9 => xFew n f (ks t9)) (k + 1)).2) (by rw [xNear_t (F := (fun t9 => xFew n f (ks t9))) ⟨Int32.not_lt.mp c27, Or.inr (Int32.not_le.mp c37)⟩]) ?_
            refine lv_istore_n (lv' := [(2, .int ((xNear (fun t9 => xFew n f (ks t9)) (k + 1)).2)), (1, .int ((xNear (fun t9 => xFew n f (ks t9)) (k + 1)).1)), (4, .int (xFew n f (ks k))), (0, .ref q0), (3, .int (nI k))]) hx hb dX2_nearestTarget_44 rfl hl (by decide) rfl (fun ls hl => ?_)
            refine lv_iinc (v := nI (k + 1)) (lv' := [(3, .int (nI (k + 1))), (2, .int ((xNear (fun t9 => xFew n f (ks t9)) (k + 1)).2)), (1, .int ((xNear (fun t9 => xFew n f (ks t9)) (k + 1)).1)), (4, .int (xFew n f (ks k))), (0, .ref q0)]) hx hb dX2_nearestTarget_45 hl (k := 4) rfl (nI_add k 1) (by decide) rfl (fun ls hl => ?_)
            refine lv_goto (tgt := 6) hx hb dX2_nearestTarget_48 (by decide) ?_
            exact ih6 (k + 1) wn15x wf16x (by omega) _ _ hP hD hS ls (lv_sub hl [4, 2, 1, 0] rfl)
  exact loop6 kc 0 wn wf (by omega) _ _ hP hD hS ls (lv_sub hl [3, 2, 1, 0] rfl)

theorem flX2_tryToRest_27 : Cond.fieldLink RX2 27 "RingSeesaw" "trial" "LRingSeesaw$Ring;" ∈ wsX2_tryToRest := by decide +kernel
theorem iwX2_tryToRest_2 : ∀ w ∈ wsX20, w ∈ wsX2_tryToRest := by decide +kernel
theorem flX2_tryToRest_10 : Cond.fieldLink RX2 10 "RingSeesaw" "ring" "LRingSeesaw$Ring;" ∈ wsX2_tryToRest := by decide +kernel
set_option maxHeartbeats 4000000 in
set_option maxRecDepth 100000 in
theorem c_X2_tryToRest (γ : xG) (l : Launch) (q0 q1 q2 q3 q4 kc : Nat) (td : Int32) (a1 n : Nat) (f : xRow) (a2 : Nat) (tn : Int32) (tf : xRow) (hn0 : 3 ≤ n) (hn1 : n ≤ 12) : xM γ l yX2_tryToRest wsX2_tryToRest ({ frames := 4, cells := 0, slots := 0, locals := 89 } : Room) [.ref q0] ([xO q0 2 [.ref q1, .ref q4, .int (nI kc), .int td, .ref q2, .ref q3], xO q1 0 [.ref a1, .int (nI n)], xA γ a1 12 f, xO q2 0 [.ref a2, .int tn], xA γ a2 12 tf]) (fun r9 w9 => r9 = some (.int (xRs n f)) ∧ w9 = [xO q0 2 [.ref q1, .ref q4, .int (nI kc), .int td, .ref q2, .ref q3], xO q1 0 [.ref a1, .int (nI n)], xA γ a1 12 f, xO q2 0 [.ref a2, .int (nI n)], xA γ a2 12 ((xStl n 300 f).2)]) 0 0 := by
  refine xM.of (cc := cX2_tryToRest) (maxL := 2) (ret := (some .int)) (by decide +kernel) rfl (Nat.le_of_ble_eq_true rfl) ?_
  intro p e s m below meth c hx hb hr hml hts hown hlocks hin hP hK A hA hD ls hl
  have hS : va_S A s.heap s.heap [] := va_S.rf
  generalize hargs : ([.ref q0] : List Value).toArray = args at hts ⊢
  obtain ⟨Q, hQ⟩ : ∃ Q9, Q9 = MQ below (xMQ γ (List.map Prod.fst ([xO q0 2 [.ref q1, .ref q4, .int (nI kc), .int td, .ref q2, .ref q3], xO q1 0 [.ref a1, .int (nI n)], xA γ a1 12 f, xO q2 0 [.ref a2, .int tn], xA γ a2 12 tf])) A (fun r9 w9 => r9 = some (.int (xRs n f)) ∧ w9 = [xO q0 2 [.ref q1, .ref q4, .int (nI kc), .int td, .ref q2, .ref q3], xO q1 0 [.ref a1, .int (nI n)], xA γ a1 12 f, xO q2 0 [.ref a2, .int (nI n)], xA γ a2 12 ((xStl n 300 f).2)])) args s 0 0 A := ⟨_, rfl⟩
  rw [← hQ]
  have hown : s.vm.findClass RX2 = some m.cls := hown
  have hl : lv_has ls 2 [(0, .ref q0)] := hl
  refine lv_aload_n hx hb dX2_tryToRest_0 rfl (lv_at hl 0 rfl) ?_
  refine va_get (D := γ.1) (ci := 2) (v := .ref q2) (C := RX2) (T := TX2) (N := 6) hx hb hts iwX2_tryToRest_2 hown hK hP 0 rfl rfl 4 (by decide) (hts _ flX2_tryToRest_27) (fun _ h9 => h9) rfl dX2_tryToRest_1 ?_
  refine lv_aload_n hx hb dX2_tryToRest_4 rfl (lv_at hl 0 rfl) ?_
  refine va_get (D := γ.1) (ci := 2) (v := .ref q1) (C := RX2) (T := TX2) (N := 6) hx hb hts iwX2_tryToRest_2 hown hK hP 0 rfl rfl 0 (by decide) (hts _ flX2_tryToRest_10) (fun _ h9 => h9) rfl dX2_tryToRest_5 ?_
  refine xVM (q0 := 3) (ci := 0) (As := [.ref q1]) (rest := []) ⟨hx, hb, hml, hown, hts⟩ (c_X0_copyFrom γ l q2 a2 q1 a1 tn (nI n) tf f) (cwV 1 hts gX2_tryToRest_X0_copyFrom rfl rfl rfl hdv_X0_copyFrom ⟨(Nat.le_of_ble_eq_true rfl), (Nat.le_of_ble_eq_true rfl)⟩) hK hP hD hS hA [3, 4, 1, 2] rfl rfl rfl rfl rfl hl.1 rfl (Nat.le_of_ble_eq_true rfl) dX2_tryToRest_8 ⟨(Nat.le_of_ble_eq_true rfl), (Nat.le_of_ble_eq_true rfl)⟩ (fun r9 w9 H locs hw hP hD hS => ?_)
  obtain ⟨rfl, rfl⟩ := hw
  have hP : xP γ ([xO q0 2 [.ref q1, .ref q4, .int (nI kc), .int td, .ref q2, .ref q3], xO q1 0 [.ref a1, .int (nI n)], xA γ a1 12 f, xO q2 0 [.ref a2, .int (nI n)], xA γ a2 12 f]) H := hP
  have hD : va_D A ([xO q0 2 [.ref q1, .ref q4, .int (nI kc), .int td, .ref q2, .ref q3], xO q1 0 [.ref a1, .int (nI n)], xA γ a1 12 f, xO q2 0 [.ref a2, .int (nI n)], xA γ a2 12 f]) := hD
  refine W.eq (g2 := F0 m 11 ls []) rfl ?_
  refine lv_aload_n hx hb dX2_tryToRest_11 rfl (lv_at hl 0 rfl) ?_
  refine va_get (D := γ.1) (ci := 2) (v := .ref q2) (C := RX2) (T := TX2) (N := 6) hx hb hts iwX2_tryToRest_2 hown hK hP 0 rfl rfl 4 (by decide) (hts _ flX2_tryToRest_27) (fun _ h9 => h9) rfl dX2_tryToRest_12 ?_
  refine lv_sipush (v := 300) hx hb dX2_tryToRest_15 (by decide) ?_
  refine xVM (q0 := 3) (ci := 0) (As := [.int 300]) (rest := []) ⟨hx, hb, hml, hown, hts⟩ (c_X0_settleBy γ l q2 a2 n f 300 (by omega) (by omega) (by omega)) (cwV 1 hts gX2_tryToRest_X0_settleBy rfl rfl rfl hdv_X0_settleBy ⟨(Nat.le_of_ble_eq_true rfl), (Nat.le_of_ble_eq_true rfl)⟩) hK hP hD hS hA [3, 4] rfl rfl rfl rfl rfl hl.1 rfl (Nat.le_of_ble_eq_true rfl) dX2_tryToRest_18 ⟨(Nat.le_of_ble_eq_true rfl), (Nat.le_of_ble_eq_true rfl)⟩ (fun r9 w9 H locs hw hP hD hS => ?_)
  obtain ⟨rfl, rfl⟩ := hw
  have hP : xP γ ([xO q0 2 [.ref q1, .ref q4, .int (nI kc), .int td, .ref q2, .ref q3], xO q1 0 [.ref a1, .int (nI n)], xA γ a1 12 f, xO q2 0 [.ref a2, .int (nI n)], xA γ a2 12 ((xStl n 300 f).2)]) H := hP
  have hD : va_D A ([xO q0 2 [.ref q1, .ref q4, .int (nI kc), .int td, .ref q2, .ref q3], xO q1 0 [.ref a1, .int (nI n)], xA γ a1 12 f, xO q2 0 [.ref a2, .int (nI n)], xA γ a2 12 ((xStl n 300 f).2)]) := hD
  refine W.eq (g2 := F0 m 21 ls [.int (nI ((xStl n 300 f).1))]) rfl ?_
  refine lv_istore_n (lv' := [(1, .int (nI ((xStl n 300 f).1))), (0, .ref q0)]) hx hb dX2_tryToRest_21 rfl hl (by decide) rfl (fun ls hl => ?_)
  refine lv_aload_n hx hb dX2_tryToRest_22 rfl (lv_at hl 1 rfl) ?_
  refine va_get (D := γ.1) (ci := 2) (v := .ref q2) (C := RX2) (T := TX2) (N := 6) hx hb hts iwX2_tryToRest_2 hown hK hP 0 rfl rfl 4 (by decide) (hts _ flX2_tryToRest_27) (fun _ h9 => h9) rfl dX2_tryToRest_23 ?_
  refine xVR (q0 := 3) (ci := 0) (As := []) (rest := []) (stk := [.int (xFi (xSt n ((xStl n 300 f).2)) n)]) ⟨hx, hb, hml, hown, hts⟩ (c_X0_firstSteep γ l q2 a2 n ((xStl n 300 f).2) (by omega) (by omega)) (cwV 0 hts gX2_tryToRest_X0_firstSteep rfl rfl rfl hdv_X0_firstSteep ⟨(Nat.le_of_ble_eq_true rfl), (Nat.le_of_ble_eq_true rfl)⟩) hK hP [3, 4] rfl rfl rfl rfl hl.1 rfl (Nat.le_of_ble_eq_true rfl) dX2_tryToRest_26 ⟨(Nat.le_of_ble_eq_true rfl), (Nat.le_of_ble_eq_true rfl)⟩ rfl ?_
  refine lv_if_ge (tgt := 36) hx hb dX2_tryToRest_29 (by decide) (fun c29 => ?_) (fun c29 => ?_)
  · refine lv_iconst (v := (-1)) hx hb dX2_tryToRest_36 (by decide) ?_
    subst hQ
    exact xM_i hx hb hr hlocks dX2_tryToRest_37 hP rfl hS (Nat.le_of_ble_eq_true rfl) (Nat.le_of_ble_eq_true rfl) (⟨by rw [xRs_t c29], rfl⟩)
  · refine lv_iload_n hx hb dX2_tryToRest_32 rfl (lv_at hl 0 rfl) ?_
    refine lv_goto (tgt := 37) hx hb dX2_tryToRest_33 (by decide) ?_
    subst hQ
    exact xM_i hx hb hr hlocks dX2_tryToRest_37 hP rfl hS (Nat.le_of_ble_eq_true rfl) (Nat.le_of_ble_eq_true rfl) (⟨by rw [xRs_f c29], rfl⟩)

theorem flX2_spanAfter_27 : Cond.fieldLink RX2 27 "RingSeesaw" "trial" "LRingSeesaw$Ring;" ∈ wsX2_spanAfter := by decide +kernel
theorem iwX2_spanAfter_2 : ∀ w ∈ wsX20, w ∈ wsX2_spanAfter := by decide +kernel
theorem flX2_spanAfter_10 : Cond.fieldLink RX2 10 "RingSeesaw" "ring" "LRingSeesaw$Ring;" ∈ wsX2_spanAfter := by decide +kernel
set_option maxHeartbeats 4000000 in
set_option maxRecDepth 100000 in
theorem c_X2_spanAfter (γ : xG) (l : Launch) (q0 q1 q2 q3 q4 kc : Nat) (td : Int32) (a1 n : Nat) (f : xRow) (a2 : Nat) (tn : Int32) (tf : xRow) (k : Nat) (x : Int32) (hn0 : 3 ≤ n) (hn1 : n ≤ 12) (hk : k < n) : xM γ l yX2_spanAfter wsX2_spanAfter ({ frames := 3, cells := 0, slots := 0, locals := 66 } : Room) [.ref q0, .int (nI k), .int x] ([xO q0 2 [.ref q1, .ref q4, .int (nI kc), .int td, .ref q2, .ref q3], xO q1 0 [.ref a1, .int (nI n)], xA γ a1 12 f, xO q2 0 [.ref a2, .int tn], xA γ a2 12 tf]) (fun r9 w9 => r9 = some (.int (xSpn n (xTip n f k x))) ∧ w9 = [xO q0 2 [.ref q1, .ref q4, .int (nI kc), .int td, .ref q2, .ref q3], xO q1 0 [.ref a1, .int (nI n)], xA γ a1 12 f, xO q2 0 [.ref a2, .int (nI n)], xA γ a2 12 (xTip n f k x)]) 0 0 := by
  refine xM.of (cc := cX2_spanAfter) (maxL := 3) (ret := (some .int)) (by decide +kernel) rfl (Nat.le_of_ble_eq_true rfl) ?_
  intro p e s m below meth c hx hb hr hml hts hown hlocks hin hP hK A hA hD ls hl
  have hS : va_S A s.heap s.heap [] := va_S.rf
  generalize hargs : ([.ref q0, .int (nI k), .int x] : List Value).toArray = args at hts ⊢
  obtain ⟨Q, hQ⟩ : ∃ Q9, Q9 = MQ below (xMQ γ (List.map Prod.fst ([xO q0 2 [.ref q1, .ref q4, .int (nI kc), .int td, .ref q2, .ref q3], xO q1 0 [.ref a1, .int (nI n)], xA γ a1 12 f, xO q2 0 [.ref a2, .int tn], xA γ a2 12 tf])) A (fun r9 w9 => r9 = some (.int (xSpn n (xTip n f k x))) ∧ w9 = [xO q0 2 [.ref q1, .ref q4, .int (nI kc), .int td, .ref q2, .ref q3], xO q1 0 [.ref a1, .int (nI n)], xA γ a1 12 f, xO q2 0 [.ref a2, .int (nI n)], xA γ a2 12 (xTip n f k x)])) args s 0 0 A := ⟨_, rfl⟩
  rw [← hQ]
  have hown : s.vm.findClass RX2 = some m.cls := hown
  have hl : lv_has ls 3 [(0, .ref q0), (1, .int (nI k)), (2, .int x)] := hl
  refine lv_aload_n hx hb dX2_spanAfter_0 rfl (lv_at hl 0 rfl) ?_
  refine va_get (D := γ.1) (ci := 2) (v := .ref q2) (C := RX2) (T := TX2) (N := 6) hx hb hts iwX2_spanAfter_2 hown hK hP 0 rfl rfl 4 (by decide) (hts _ flX2_spanAfter_27) (fun _ h9 => h9) rfl dX2_spanAfter_1 ?_
  refine lv_aload_n hx hb dX2_spanAfter_4 rfl (lv_at hl 0 rfl) ?_
  refine va_get (D := γ.1) (ci := 2) (v := .ref q1) (C := RX2) (T := TX2) (N := 6) hx hb hts iwX2_spanAfter_2 hown hK hP 0 rfl rfl 0 (by decide) (hts _ flX2_spanAfter_10) (fun _ h9 => h9) rfl dX2_spanAfter_5 ?_
  refine xVM (q0 := 3) (ci := 0) (As := [.ref q1]) (rest := []) ⟨hx, hb, hml, hown, hts⟩ (c_X0_copyFrom γ l q2 a2 q1 a1 tn (nI n) tf f) (cwV 1 hts gX2_spanAfter_X0_copyFrom rfl rfl rfl hdv_X0_copyFrom ⟨(Nat.le_of_ble_eq_true rfl), (Nat.le_of_ble_eq_true rfl)⟩) hK hP hD hS hA [3, 4, 1, 2] rfl rfl rfl rfl rfl hl.1 rfl (Nat.le_of_ble_eq_true rfl) dX2_spanAfter_8 ⟨(Nat.le_of_ble_eq_true rfl), (Nat.le_of_ble_eq_true rfl)⟩ (fun r9 w9 H locs hw hP hD hS => ?_)
  obtain ⟨rfl, rfl⟩ := hw
  have hP : xP γ ([xO q0 2 [.ref q1, .ref q4, .int (nI kc), .int td, .ref q2, .ref q3], xO q1 0 [.ref a1, .int (nI n)], xA γ a1 12 f, xO q2 0 [.ref a2, .int (nI n)], xA γ a2 12 f]) H := hP
  have hD : va_D A ([xO q0 2 [.ref q1, .ref q4, .int (nI kc), .int td, .ref q2, .ref q3], xO q1 0 [.ref a1, .int (nI n)], xA γ a1 12 f, xO q2 0 [.ref a2, .int (nI n)], xA γ a2 12 f]) := hD
  refine W.eq (g2 := F0 m 11 ls []) rfl ?_
  refine lv_aload_n hx hb dX2_spanAfter_11 rfl (lv_at hl 0 rfl) ?_
  refine va_get (D := γ.1) (ci := 2) (v := .ref q2) (C := RX2) (T := TX2) (N := 6) hx hb hts iwX2_spanAfter_2 hown hK hP 0 rfl rfl 4 (by decide) (hts _ flX2_spanAfter_27) (fun _ h9 => h9) rfl dX2_spanAfter_12 ?_
  refine lv_iload_n hx hb dX2_spanAfter_15 rfl (lv_at hl 1 rfl) ?_
  refine lv_iload_n hx hb dX2_spanAfter_16 rfl (lv_at hl 2 rfl) ?_
  refine xVM (q0 := 3) (ci := 0) (As := [.int (nI k), .int x]) (rest := []) ⟨hx, hb, hml, hown, hts⟩ (c_X0_tipBy γ l q2 a2 n f k x (by omega) (by omega) (by omega)) (cwV 2 hts gX2_spanAfter_X0_tipBy rfl rfl rfl hdv_X0_tipBy ⟨(Nat.le_of_ble_eq_true rfl), (Nat.le_of_ble_eq_true rfl)⟩) hK hP hD hS hA [3, 4] rfl rfl rfl rfl rfl hl.1 rfl (Nat.le_of_ble_eq_true rfl) dX2_spanAfter_17 ⟨(Nat.le_of_ble_eq_true rfl), (Nat.le_of_ble_eq_true rfl)⟩ (fun r9 w9 H locs hw hP hD hS => ?_)
  obtain ⟨rfl, rfl⟩ := hw
  have hP : xP γ ([xO q0 2 [.ref q1, .ref q4, .int (nI kc), .int td, .ref q2, .ref q3], xO q1 0 [.ref a1, .int (nI n)], xA γ a1 12 f, xO q2 0 [.ref a2, .int (nI n)], xA γ a2 12 (xTip n f k x)]) H := hP
  have hD : va_D A ([xO q0 2 [.ref q1, .ref q4, .int (nI kc), .int td, .ref q2, .ref q3], xO q1 0 [.ref a1, .int (nI n)], xA γ a1 12 f, xO q2 0 [.ref a2, .int (nI n)], xA γ a2 12 (xTip n f k x)]) := hD
  refine W.eq (g2 := F0 m 20 ls []) rfl ?_
  refine lv_aload_n hx hb dX2_spanAfter_20 rfl (lv_at hl 0 rfl) ?_
  refine va_get (D := γ.1) (ci := 2) (v := .ref q2) (C := RX2) (T := TX2) (N := 6) hx hb hts iwX2_spanAfter_2 hown hK hP 0 rfl rfl 4 (by decide) (hts _ flX2_spanAfter_27) (fun _ h9 => h9) rfl dX2_spanAfter_21 ?_
  refine xVR (q0 := 3) (ci := 0) (As := []) (rest := []) (stk := [.int (xSpn n (xTip n f k x))]) ⟨hx, hb, hml, hown, hts⟩ (c_X0_span γ l q2 a2 n (xTip n f k x) (by omega) (by omega)) (cwV 0 hts gX2_spanAfter_X0_span rfl rfl rfl hdv_X0_span ⟨(Nat.le_of_ble_eq_true rfl), (Nat.le_of_ble_eq_true rfl)⟩) hK hP [3, 4] rfl rfl rfl rfl hl.1 rfl (Nat.le_of_ble_eq_true rfl) dX2_spanAfter_24 ⟨(Nat.le_of_ble_eq_true rfl), (Nat.le_of_ble_eq_true rfl)⟩ rfl ?_
  subst hQ
  exact xM_i hx hb hr hlocks dX2_spanAfter_27 hP rfl hS (Nat.le_of_ble_eq_true rfl) (Nat.le_of_ble_eq_true rfl) (⟨rfl, rfl⟩)

theorem hdv_X2_tryToRest : yX2_tryToRest.cls = RX2 ∧ yX2_tryToRest.cls ≠ "java/lang/invoke/MethodHandle" ∧ yX2_tryToRest.cls ≠ "java/lang/invoke/VarHandle" ∧ (parseMethodDescriptor yX2_tryToRest.desc).map (fun d => d.parameters.length) = some 0 := by decide +kernel
set_option maxHeartbeats 4000000 in
set_option maxRecDepth 100000 in
theorem c_X2_stepsToRest (γ : xG) (l : Launch) (q0 q1 q2 q3 q4 kc : Nat) (td : Int32) (a1 n : Nat) (f : xRow) (a2 : Nat) (tn : Int32) (tf : xRow) (hn0 : 3 ≤ n) (hn1 : n ≤ 12) : xM γ l yX2_stepsToRest wsX2_stepsToRest ({ frames := 5, cells := 0, slots := 0, locals := 110 } : Room) [.ref q0] ([xO q0 2 [.ref q1, .ref q4, .int (nI kc), .int td, .ref q2, .ref q3], xO q1 0 [.ref a1, .int (nI n)], xA γ a1 12 f, xO q2 0 [.ref a2, .int tn], xA γ a2 12 tf]) (fun r9 w9 => r9 = some (.int (xRs n f)) ∧ ∃ (z9 : Int32) (h9 : xRow), w9 = [xO q0 2 [.ref q1, .ref q4, .int (nI kc), .int td, .ref q2, .ref q3], xO q1 0 [.ref a1, .int (nI n)], xA γ a1 12 f, xO q2 0 [.ref a2, .int z9], xA γ a2 12 h9]) 0 0 := by
  refine xM.of (cc := cX2_stepsToRest) (maxL := 1) (ret := (some .int)) (by decide +kernel) rfl (Nat.le_of_ble_eq_true rfl) ?_
  intro p e s m below meth c hx hb hr hml hts hown hlocks hin hP hK A hA hD ls hl
  have hS : va_S A s.heap s.heap [] := va_S.rf
  generalize hargs : ([.ref q0] : List Value).toArray = args at hts ⊢
  obtain ⟨Q, hQ⟩ : ∃ Q9, Q9 = MQ below (xMQ γ (List.map Prod.fst ([xO q0 2 [.ref q1, .ref q4, .int (nI kc), .int td, .ref q2, .ref q3], xO q1 0 [.ref a1, .int (nI n)], xA γ a1 12 f, xO q2 0 [.ref a2, .int tn], xA γ a2 12 tf])) A (fun r9 w9 => r9 = some (.int (xRs n f)) ∧ ∃ (z9 : Int32) (h9 : xRow), w9 = [xO q0 2 [.ref q1, .ref q4, .int (nI kc), .int td, .ref q2, .ref q3], xO q1 0 [.ref a1, .int (nI n)], xA γ a1 12 f, xO q2 0 [.ref a2, .int z9], xA γ a2 12 h9])) args s 0 0 A := ⟨_, rfl⟩
  rw [← hQ]
  have hown : s.vm.findClass RX2 = some m.cls := hown
  have hl : lv_has ls 1 [(0, .ref q0)] := hl
  refine lv_aload_n hx hb dX2_stepsToRest_0 rfl (lv_at hl 0 rfl) ?_
  refine xVM (q0 := 0) (ci := 2) (As := []) (rest := []) ⟨hx, hb, hml, hown, hts⟩ (c_X2_tryToRest γ l q0 q1 q2 q3 q4 kc td a1 n f a2 tn tf (by omega) (by omega)) (cwV 0 hts gX2_stepsToRest_X2_tryToRest rfl rfl rfl hdv_X2_tryToRest ⟨(Nat.le_of_ble_eq_true rfl), (Nat.le_of_ble_eq_true rfl)⟩) hK hP hD hS hA [0, 1, 2, 3, 4] rfl rfl rfl rfl rfl hl.1 rfl (Nat.le_of_ble_eq_true rfl) dX2_stepsToRest_1 ⟨(Nat.le_of_ble_eq_true rfl), (Nat.le_of_ble_eq_true rfl)⟩ (fun r9 w9 H locs hw hP hD hS => ?_)
  obtain ⟨rfl, rfl⟩ := hw
  have hP : xP γ ([xO q0 2 [.ref q1, .ref q4, .int (nI kc), .int td, .ref q2, .ref q3], xO q1 0 [.ref a1, .int (nI n)], xA γ a1 12 f, xO q2 0 [.ref a2, .int (nI n)], xA γ a2 12 ((xStl n 300 f).2)]) H := hP
  have hD : va_D A ([xO q0 2 [.ref q1, .ref q4, .int (nI kc), .int td, .ref q2, .ref q3], xO q1 0 [.ref a1, .int (nI n)], xA γ a1 12 f, xO q2 0 [.ref a2, .int (nI n)], xA γ a2 12 ((xStl n 300 f).2)]) := hD
  refine W.eq (g2 := F0 m 4 ls [.int (xRs n f)]) rfl ?_
  subst hQ
  exact xM_i hx hb hr hlocks dX2_stepsToRest_4 hP rfl hS (Nat.le_of_ble_eq_true rfl) (Nat.le_of_ble_eq_true rfl) (⟨rfl, _, _, rfl⟩)

theorem flX2_spreadAtRest_27 : Cond.fieldLink RX2 27 "RingSeesaw" "trial" "LRingSeesaw$Ring;" ∈ wsX2_spreadAtRest := by decide +kernel
theorem iwX2_spreadAtRest_2 : ∀ w ∈ wsX20, w ∈ wsX2_spreadAtRest := by decide +kernel
set_option maxHeartbeats 4000000 in
set_option maxRecDepth 100000 in
theorem c_X2_spreadAtRest (γ : xG) (l : Launch) (q0 q1 q2 q3 q4 kc : Nat) (td : Int32) (a1 n : Nat) (f : xRow) (a2 : Nat) (tn : Int32) (tf : xRow) (hn0 : 3 ≤ n) (hn1 : n ≤ 12) : xM γ l yX2_spreadAtRest wsX2_spreadAtRest ({ frames := 5, cells := 0, slots := 0, locals := 110 } : Room) [.ref q0] ([xO q0 2 [.ref q1, .ref q4, .int (nI kc), .int td, .ref q2, .ref q3], xO q1 0 [.ref a1, .int (nI n)], xA γ a1 12 f, xO q2 0 [.ref a2, .int tn], xA γ a2 12 tf]) (fun r9 w9 => r9 = some (.int (xSr n f)) ∧ ∃ (z9 : Int32) (h9 : xRow), w9 = [xO q0 2 [.ref q1, .ref q4, .int (nI kc), .int td, .ref q2, .ref q3], xO q1 0 [.ref a1, .int (nI n)], xA γ a1 12 f, xO q2 0 [.ref a2, .int z9], xA γ a2 12 h9]) 0 0 := by
  refine xM.of (cc := cX2_spreadAtRest) (maxL := 1) (ret := (some .int)) (by decide +kernel) rfl (Nat.le_of_ble_eq_true rfl) ?_
  intro p e s m below meth c hx hb hr hml hts hown hlocks hin hP hK A hA hD ls hl
  have hS : va_S A s.heap s.heap [] := va_S.rf
  generalize hargs : ([.ref q0] : List Value).toArray = args at hts ⊢
  obtain ⟨Q, hQ⟩ : ∃ Q9, Q9 = MQ below (xMQ γ (List.map Prod.fst ([xO q0 2 [.ref q1, .ref q4, .int (nI kc), .int td, .ref q2, .ref q3], xO q1 0 [.ref a1, .int (nI n)], xA γ a1 12 f, xO q2 0 [.ref a2, .int tn], xA γ a2 12 tf])) A (fun r9 w9 => r9 = some (.int (xSr n f)) ∧ ∃ (z9 : Int32) (h9 : xRow), w9 = [xO q0 2 [.ref q1, .ref q4, .int (nI kc), .int td, .ref q2, .ref q3], xO q1 0 [.ref a1, .int (nI n)], xA γ a1 12 f, xO q2 0 [.ref a2, .int z9], xA γ a2 12 h9])) args s 0 0 A := ⟨_, rfl⟩
  rw [← hQ]
  have hown : s.vm.findClass RX2 = some m.cls := hown
  have hl : lv_has ls 1 [(0, .ref q0)] := hl
  refine lv_aload_n hx hb dX2_spreadAtRest_0 rfl (lv_at hl 0 rfl) ?_
  refine xVM (q0 := 0) (ci := 2) (As := []) (rest := []) ⟨hx, hb, hml, hown, hts⟩ (c_X2_tryToRest γ l q0 q1 q2 q3 q4 kc td a1 n f a2 tn tf (by omega) (by omega)) (cwV 0 hts gX2_spreadAtRest_X2_tryToRest rfl rfl rfl hdv_X2_tryToRest ⟨(Nat.le_of_ble_eq_true rfl), (Nat.le_of_ble_eq_true rfl)⟩) hK hP hD hS hA [0, 1, 2, 3, 4] rfl rfl rfl rfl rfl hl.1 rfl (Nat.le_of_ble_eq_true rfl) dX2_spreadAtRest_1 ⟨(Nat.le_of_ble_eq_true rfl), (Nat.le_of_ble_eq_true rfl)⟩ (fun r9 w9 H locs hw hP hD hS => ?_)
  obtain ⟨rfl, rfl⟩ := hw
  have hP : xP γ ([xO q0 2 [.ref q1, .ref q4, .int (nI kc), .int td, .ref q2, .ref q3], xO q1 0 [.ref a1, .int (nI n)], xA γ a1 12 f, xO q2 0 [.ref a2, .int (nI n)], xA γ a2 12 ((xStl n 300 f).2)]) H := hP
  have hD : va_D A ([xO q0 2 [.ref q1, .ref q4, .int (nI kc), .int td, .ref q2, .ref q3], xO q1 0 [.ref a1, .int (nI n)], xA γ a1 12 f, xO q2 0 [.ref a2, .int (nI n)], xA γ a2 12 ((xStl n 300 f).2)]) := hD
  refine W.eq (g2 := F0 m 4 ls [.int (xRs n f)]) rfl ?_
  refine lv_if_ge (tgt := 11) hx hb dX2_spreadAtRest_4 (by decide) (fun c4 => ?_) (fun c4 => ?_)
  · refine lv_aload_n hx hb dX2_spreadAtRest_11 rfl (lv_at hl 0 rfl) ?_
    refine va_get (D := γ.1) (ci := 2) (v := .ref q2) (C := RX2) (T := TX2) (N := 6) hx hb hts iwX2_spreadAtRest_2 hown hK hP 0 rfl rfl 4 (by decide) (hts _ flX2_spreadAtRest_27) (fun _ h9 => h9) rfl dX2_spreadAtRest_12 ?_
    refine xVR (q0 := 3) (ci := 0) (As := []) (rest := []) (stk := [.int (xSpn n ((xStl n 300 f).2))]) ⟨hx, hb, hml, hown, hts⟩ (c_X0_span γ l q2 a2 n ((xStl n 300 f).2) (by omega) (by omega)) (cwV 0 hts gX2_spreadAtRest_X0_span rfl rfl rfl hdv_X0_span ⟨(Nat.le_of_ble_eq_true rfl), (Nat.le_of_ble_eq_true rfl)⟩) hK hP [3, 4] rfl rfl rfl rfl hl.1 rfl (Nat.le_of_ble_eq_true rfl) dX2_spreadAtRest_15 ⟨(Nat.le_of_ble_eq_true rfl), (Nat.le_of_ble_eq_true rfl)⟩ rfl ?_
    subst hQ
    exact xM_i hx hb hr hlocks dX2_spreadAtRest_18 hP rfl hS (Nat.le_of_ble_eq_true rfl) (Nat.le_of_ble_eq_true rfl) (⟨by unfold xSr; rw [if_pos c4], _, _, rfl⟩)
  · refine lv_iconst (v := (-1)) hx hb dX2_spreadAtRest_7 (by decide) ?_
    refine lv_goto (tgt := 18) hx hb dX2_spreadAtRest_8 (by decide) ?_
    subst hQ
    exact xM_i hx hb hr hlocks dX2_spreadAtRest_18 hP rfl hS (Nat.le_of_ble_eq_true rfl) (Nat.le_of_ble_eq_true rfl) (⟨by unfold xSr; rw [if_neg c4], _, _, rfl⟩)

theorem hdv_X2_spanAfter : yX2_spanAfter.cls = RX2 ∧ yX2_spanAfter.cls ≠ "java/lang/invoke/MethodHandle" ∧ yX2_spanAfter.cls ≠ "java/lang/invoke/VarHandle" ∧ (parseMethodDescriptor yX2_spanAfter.desc).map (fun d => d.parameters.length) = some 2 := by decide +kernel
set_option maxHeartbeats 4000000 in
set_option maxRecDepth 100000 in
theorem c_X2_spreadWith (γ : xG) (l : Launch) (q0 q1 q2 q3 q4 kc : Nat) (td : Int32) (a1 n : Nat) (f : xRow) (a2 : Nat) (tn : Int32) (tf : xRow) (k : Nat) (x : Int32) (hn0 : 3 ≤ n) (hn1 : n ≤ 12) (hk : k < n) (h1 : ¬ x < (-50)) (h2 : x ≤ 50) : xM γ l yX2_spreadWith wsX2_spreadWith ({ frames := 4, cells := 0, slots := 0, locals := 88 } : Room) [.ref q0, .int (nI k), .int x] ([xO q0 2 [.ref q1, .ref q4, .int (nI kc), .int td, .ref q2, .ref q3], xO q1 0 [.ref a1, .int (nI n)], xA γ a1 12 f, xO q2 0 [.ref a2, .int tn], xA γ a2 12 tf]) (fun r9 w9 => r9 = some (.int (xSpn n (xTip n f k x))) ∧ ∃ (z9 : Int32) (h9 : xRow), w9 = [xO q0 2 [.ref q1, .ref q4, .int (nI kc), .int td, .ref q2, .ref q3], xO q1 0 [.ref a1, .int (nI n)], xA γ a1 12 f, xO q2 0 [.ref a2, .int z9], xA γ a2 12 h9]) 0 0 := by
  refine xM.of (cc := cX2_spreadWith) (maxL := 3) (ret := (some .int)) (by decide +kernel) rfl (Nat.le_of_ble_eq_true rfl) ?_
  intro p e s m below meth c hx hb hr hml hts hown hlocks hin hP hK A hA hD ls hl
  have hS : va_S A s.heap s.heap [] := va_S.rf
  generalize hargs : ([.ref q0, .int (nI k), .int x] : List Value).toArray = args at hts ⊢
  obtain ⟨Q, hQ⟩ : ∃ Q9, Q9 = MQ below (xMQ γ (List.map Prod.fst ([xO q0 2 [.ref q1, .ref q4, .int (nI kc), .int td, .ref q2, .ref q3], xO q1 0 [.ref a1, .int (nI n)], xA γ a1 12 f, xO q2 0 [.ref a2, .int tn], xA γ a2 12 tf])) A (fun r9 w9 => r9 = some (.int (xSpn n (xTip n f k x))) ∧ ∃ (z9 : Int32) (h9 : xRow), w9 = [xO q0 2 [.ref q1, .ref q4, .int (nI kc), .int td, .ref q2, .ref q3], xO q1 0 [.ref a1, .int (nI n)], xA γ a1 12 f, xO q2 0 [.ref a2, .int z9], xA γ a2 12 h9])) args s 0 0 A := ⟨_, rfl⟩
  rw [← hQ]
  have hown : s.vm.findClass RX2 = some m.cls := hown
  have hl : lv_has ls 3 [(0, .ref q0), (1, .int (nI k)), (2, .int x)] := hl
  refine lv_aload_n hx hb dX2_spreadWith_0 rfl (lv_at hl 0 rfl) ?_
  refine lv_iload_n hx hb dX2_spreadWith_1 rfl (lv_at hl 1 rfl) ?_
  refine xVR (q0 := 0) (ci := 2) (As := [.int (nI k)]) (rest := []) (stk := []) ⟨hx, hb, hml, hown, hts⟩ (c_X2_requirePlace γ l q0 q1 q2 q3 q4 kc td a1 n f k (by omega) (by omega) (by omega)) (cwV 1 hts gX2_spreadWith_X2_requirePlace rfl rfl rfl hdv_X2_requirePlace ⟨(Nat.le_of_ble_eq_true rfl), (Nat.le_of_ble_eq_true rfl)⟩) hK hP [0, 1, 2] rfl rfl rfl rfl hl.1 rfl (Nat.le_of_ble_eq_true rfl) dX2_spreadWith_2 ⟨(Nat.le_of_ble_eq_true rfl), (Nat.le_of_ble_eq_true rfl)⟩ rfl ?_
  refine lv_aload_n hx hb dX2_spreadWith_5 rfl (lv_at hl 0 rfl) ?_
  refine lv_iload_n hx hb dX2_spreadWith_6 rfl (lv_at hl 2 rfl) ?_
  refine xVR (q0 := 0) (ci := 2) (As := [.int x]) (rest := []) (stk := []) ⟨hx, hb, hml, hown, hts⟩ (c_X2_requireTimes γ l q0 q1 q2 q3 q4 kc td x h1 h2) (cwV 1 hts gX2_spreadWith_X2_requireTimes rfl rfl rfl hdv_X2_requireTimes ⟨(Nat.le_of_ble_eq_true rfl), (Nat.le_of_ble_eq_true rfl)⟩) hK hP [0] rfl rfl rfl rfl hl.1 rfl (Nat.le_of_ble_eq_true rfl) dX2_spreadWith_7 ⟨(Nat.le_of_ble_eq_true rfl), (Nat.le_of_ble_eq_true rfl)⟩ rfl ?_
  refine lv_aload_n hx hb dX2_spreadWith_10 rfl (lv_at hl 0 rfl) ?_
  refine lv_iload_n hx hb dX2_spreadWith_11 rfl (lv_at hl 1 rfl) ?_
  refine lv_iload_n hx hb dX2_spreadWith_12 rfl (lv_at hl 2 rfl) ?_
  refine xVM (q0 := 0) (ci := 2) (As := [.int (nI k), .int x]) (rest := []) ⟨hx, hb, hml, hown, hts⟩ (c_X2_spanAfter γ l q0 q1 q2 q3 q4 kc td a1 n f a2 tn tf k x (by omega) (by omega) (by omega)) (cwV 2 hts gX2_spreadWith_X2_spanAfter rfl rfl rfl hdv_X2_spanAfter ⟨(Nat.le_of_ble_eq_true rfl), (Nat.le_of_ble_eq_true rfl)⟩) hK hP hD hS hA [0, 1, 2, 3, 4] rfl rfl rfl rfl rfl hl.1 rfl (Nat.le_of_ble_eq_true rfl) dX2_spreadWith_13 ⟨(Nat.le_of_ble_eq_true rfl), (Nat.le_of_ble_eq_true rfl)⟩ (fun r9 w9 H locs hw hP hD hS => ?_)
  obtain ⟨rfl, rfl⟩ := hw
  have hP : xP γ ([xO q0 2 [.ref q1, .ref q4, .int (nI kc), .int td, .ref q2, .ref q3], xO q1 0 [.ref a1, .int (nI n)], xA γ a1 12 f, xO q2 0 [.ref a2, .int (nI n)], xA γ a2 12 (xTip n f k x)]) H := hP
  have hD : va_D A ([xO q0 2 [.ref q1, .ref q4, .int (nI kc), .int td, .ref q2, .ref q3], xO q1 0 [.ref a1, .int (nI n)], xA γ a1 12 f, xO q2 0 [.ref a2, .int (nI n)], xA γ a2 12 (xTip n f k x)]) := hD
  refine W.eq (g2 := F0 m 16 ls [.int (xSpn n (xTip n f k x))]) rfl ?_
  subst hQ
  exact xM_i hx hb hr hlocks dX2_spreadWith_16 hP rfl hS (Nat.le_of_ble_eq_true rfl) (Nat.le_of_ble_eq_true rfl) (⟨rfl, _, _, rfl⟩)

theorem flX2_bestPlace_10 : Cond.fieldLink RX2 10 "RingSeesaw" "ring" "LRingSeesaw$Ring;" ∈ wsX2_bestPlace := by decide +kernel
theorem iwX2_bestPlace_2 : ∀ w ∈ wsX20, w ∈ wsX2_bestPlace := by decide +kernel
theorem wdX2_bestPlace_m148a : Cond.methodLink RX2 148 Lib.Math.min.name ∈ wsX2_bestPlace := by decide +kernel
theorem wdX2_bestPlace_m148b : Cond.static Lib.Math.min.name ∈ wsX2_bestPlace := by decide +kernel
theorem wdX2_bestPlace_m148c : Cond.initialized "java/lang/Math" ∈ wsX2_bestPlace := by decide +kernel
theorem wdX2_bestPlace_m148d : Cond.code Lib.Math.min.name Lib.Math.min.code 2 (some .int) ∈ wsX2_bestPlace := by decide +kernel
set_option maxHeartbeats 4000000 in
set_option maxRecDepth 100000 in
theorem c_X2_bestPlace (γ : xG) (l : Launch) (q0 q1 q2 q3 q4 kc : Nat) (td : Int32) (a1 n : Nat) (f : xRow) (a2 : Nat) (tn : Int32) (tf : xRow) (hn0 : 3 ≤ n) (hn1 : n ≤ 12) : xM γ l yX2_bestPlace wsX2_bestPlace ({ frames := 4, cells := 0, slots := 0, locals := 88 } : Room) [.ref q0] ([xO q0 2 [.ref q1, .ref q4, .int (nI kc), .int td, .ref q2, .ref q3], xO q1 0 [.ref a1, .int (nI n)], xA γ a1 12 f, xO q2 0 [.ref a2, .int tn], xA γ a2 12 tf]) (fun r9 w9 => r9 = some (.int (xBp n f n).1) ∧ ∃ (z9 : Int32) (h9 : xRow), w9 = [xO q0 2 [.ref q1, .ref q4, .int (nI kc), .int td, .ref q2, .ref q3], xO q1 0 [.ref a1, .int (nI n)], xA γ a1 12 f, xO q2 0 [.ref a2, .int z9], xA γ a2 12 h9]) 0 0 := by
  refine xM.of (cc := cX2_bestPlace) (maxL := 5) (ret := (some .int)) (by decide +kernel) rfl (Nat.le_of_ble_eq_true rfl) ?_
  intro p e s m below meth c hx hb hr hml hts hown hlocks hin hP hK A hA hD ls hl
  have hS : va_S A s.heap s.heap [] := va_S.rf
  generalize hargs : ([.ref q0] : List Value).toArray = args at hts ⊢
  obtain ⟨Q, hQ⟩ : ∃ Q9, Q9 = MQ below (xMQ γ (List.map Prod.fst ([xO q0 2 [.ref q1, .ref q4, .int (nI kc), .int td, .ref q2, .ref q3], xO q1 0 [.ref a1, .int (nI n)], xA γ a1 12 f, xO q2 0 [.ref a2, .int tn], xA γ a2 12 tf])) A (fun r9 w9 => r9 = some (.int (xBp n f n).1) ∧ ∃ (z9 : Int32) (h9 : xRow), w9 = [xO q0 2 [.ref q1, .ref q4, .int (nI kc), .int td, .ref q2, .ref q3], xO q1 0 [.ref a1, .int (nI n)], xA γ a1 12 f, xO q2 0 [.ref a2, .int z9], xA γ a2 12 h9])) args s 0 0 A := ⟨_, rfl⟩
  rw [← hQ]
  have hown : s.vm.findClass RX2 = some m.cls := hown
  have hl : lv_has ls 5 [(0, .ref q0)] := hl
  refine lv_iconst (v := (-1)) hx hb dX2_bestPlace_0 (by decide) ?_
  refine lv_istore_n (lv' := [(1, .int (-1)), (0, .ref q0)]) hx hb dX2_bestPlace_1 rfl hl (by decide) rfl (fun ls hl => ?_)
  refine lv_aload_n hx hb dX2_bestPlace_2 rfl (lv_at hl 1 rfl) ?_
  refine va_get (D := γ.1) (ci := 2) (v := .ref q1) (C := RX2) (T := TX2) (N := 6) hx hb hts iwX2_bestPlace_2 hown hK hP 0 rfl rfl 0 (by decide) (hts _ flX2_bestPlace_10) (fun _ h9 => h9) rfl dX2_bestPlace_3 ?_
  refine xVR (q0 := 1) (ci := 0) (As := []) (rest := []) (stk := [.int (xSpn n f)]) ⟨hx, hb, hml, hown, hts⟩ (c_X0_span γ l q1 a1 n f (by omega) (by omega)) (cwV 0 hts gX2_bestPlace_X0_span rfl rfl rfl hdv_X0_span ⟨(Nat.le_of_ble_eq_true rfl), (Nat.le_of_ble_eq_true rfl)⟩) hK hP [1, 2] rfl rfl rfl rfl hl.1 rfl (Nat.le_of_ble_eq_true rfl) dX2_bestPlace_6 ⟨(Nat.le_of_ble_eq_true rfl), (Nat.le_of_ble_eq_true rfl)⟩ rfl ?_
  refine lv_istore_n (lv' := [(2, .int (xSpn n f)), (1, .int (-1)), (0, .ref q0)]) hx hb dX2_bestPlace_9 rfl hl (by decide) rfl (fun ls hl => ?_)
  refine lv_iconst (v := 0) hx hb dX2_bestPlace_10 (by decide) ?_
  refine lv_istore_n (lv' := [(3, .int 0), (2, .int (xSpn n f)), (1, .int (-1)), (0, .ref q0)]) hx hb dX2_bestPlace_11 rfl hl (by decide) rfl (fun ls hl => ?_)
  have loop12 : ∀ j : Nat, ∀ (k : Nat) (tn : Int32) (tf : xRow), k + j = n → ∀ (H : Heap) (locs : List Loc), xP γ ([xO q0 2 [.ref q1, .ref q4, .int (nI kc), .int td, .ref q2, .ref q3], xO q1 0 [.ref a1, .int (nI n)], xA γ a1 12 f, xO q2 0 [.ref a2, .int tn], xA γ a2 12 tf]) H → va_D A ([xO q0 2 [.ref q1, .ref q4, .int (nI kc), .int td, .ref q2, .ref q3], xO q1 0 [.ref a1, .int (nI n)], xA γ a1 12 f, xO q2 0 [.ref a2, .int tn], xA γ a2 12 tf]) → va_S A s.heap H locs → ∀ ls : Array Slot, lv_has ls 5 [(0, .ref q0), (1, .int ((xBp n f k).1)), (2, .int ((xBp n f k).2)), (3, .int (nI k))] → W p l e ({ frames := 4, cells := 0, slots := 0, locals := 88 } : Room) s m args below meth c H locs 0 0 Q (F0 m 12 ls []) := by
    intro j
    induction j with
    | zero =>
      intro k tn tf hj H locs hP hD hS ls hl
      refine lv_iload_n hx hb dX2_bestPlace_12 rfl (lv_at hl 3 rfl) ?_
      refine lv_aload_n hx hb dX2_bestPlace_13 rfl (lv_at hl 0 rfl) ?_
      refine va_get (D := γ.1) (ci := 2) (v := .ref q1) (C := RX2) (T := TX2) (N := 6) hx hb hts iwX2_bestPlace_2 hown hK hP 0 rfl rfl 0 (by decide) (hts _ flX2_bestPlace_10) (fun _ h9 => h9) rfl dX2_bestPlace_14 ?_
      refine xVR (q0 := 1) (ci := 0) (As := []) (rest := [.int (nI k)]) (stk := [.int (nI n), .int (nI k)]) ⟨hx, hb, hml, hown, hts⟩ (c_X0_size γ l q1 a1 n f) (cwV 0 hts gX2_bestPlace_X0_size rfl rfl rfl hdv_X0_size ⟨(Nat.le_of_ble_eq_true rfl), (Nat.le_of_ble_eq_true rfl)⟩) hK hP [1, 2] rfl rfl rfl rfl hl.1 rfl (Nat.le_of_ble_eq_true rfl) dX2_bestPlace_17 ⟨(Nat.le_of_ble_eq_true rfl), (Nat.le_of_ble_eq_true rfl)⟩ rfl ?_
      refine lv_icmp_ge (tgt := 57) hx hb dX2_bestPlace_20 (by decide) (fun _ => ?_) (fun c => absurd (nI_le (a := n) (b := k) (by omega) (by omega)) c)
      refine lv_iload_n hx hb dX2_bestPlace_57 rfl (lv_at hl 1 rfl) ?_
      subst hQ
      exact xM_i hx hb hr hlocks dX2_bestPlace_58 hP rfl hS (Nat.le_of_ble_eq_true rfl) (Nat.le_of_ble_eq_true rfl) (⟨by rw [show k = n by omega], _, _, rfl⟩)
    | succ j ih12 =>
      intro k tn tf hj H locs hP hD hS ls hl
      refine lv_iload_n hx hb dX2_bestPlace_12 rfl (lv_at hl 3 rfl) ?_
      refine lv_aload_n hx hb dX2_bestPlace_13 rfl (lv_at hl 0 rfl) ?_
      refine va_get (D := γ.1) (ci := 2) (v := .ref q1) (C := RX2) (T := TX2) (N := 6) hx hb hts iwX2_bestPlace_2 hown hK hP 0 rfl rfl 0 (by decide) (hts _ flX2_bestPlace_10) (fun _ h9 => h9) rfl dX2_bestPlace_14 ?_
      refine xVR (q0 := 1) (ci := 0) (As := []) (rest := [.int (nI k)]) (stk := [.int (nI n), .int (nI k)]) ⟨hx, hb, hml, hown, hts⟩ (c_X0_size γ l q1 a1 n f) (cwV 0 hts gX2_bestPlace_X0_size rfl rfl rfl hdv_X0_size ⟨(Nat.le_of_ble_eq_true rfl), (Nat.le_of_ble_eq_true rfl)⟩) hK hP [1, 2] rfl rfl rfl rfl hl.1 rfl (Nat.le_of_ble_eq_true rfl) dX2_bestPlace_17 ⟨(Nat.le_of_ble_eq_true rfl), (Nat.le_of_ble_eq_true rfl)⟩ rfl ?_
      refine lv_icmp_ge (tgt := 57) hx hb dX2_bestPlace_20 (by decide) (fun c => absurd c (nI_ge (a := k) (b := n) (by omega) (by omega))) (fun _ => ?_)
      refine lv_aload_n hx hb dX2_bestPlace_23 rfl (lv_at hl 0 rfl) ?_
      refine lv_iload_n hx hb dX2_bestPlace_24 rfl (lv_at hl 3 rfl) ?_
      refine lv_iconst (v := 1) hx hb dX2_bestPlace_25 (by decide) ?_
      refine xVM (q0 := 0) (ci := 2) (As := [.int (nI k), .int 1]) (rest := []) ⟨hx, hb, hml, hown, hts⟩ (c_X2_spanAfter γ l q0 q1 q2 q3 q4 kc td a1 n f a2 tn tf k 1 (by omega) (by omega) (by omega)) (cwV 2 hts gX2_bestPlace_X2_spanAfter rfl rfl rfl hdv_X2_spanAfter ⟨(Nat.le_of_ble_eq_true rfl), (Nat.le_of_ble_eq_true rfl)⟩) hK hP hD hS hA [0, 1, 2, 3, 4] rfl rfl rfl rfl rfl hl.1 rfl (Nat.le_of_ble_eq_true rfl) dX2_bestPlace_26 ⟨(Nat.le_of_ble_eq_true rfl), (Nat.le_of_ble_eq_true rfl)⟩ (fun r9 w9 H locs hw hP hD hS => ?_)
      obtain ⟨rfl, rfl⟩ := hw
      have hP : xP γ ([xO q0 2 [.ref q1, .ref q4, .int (nI kc), .int td, .ref q2, .ref q3], xO q1 0 [.ref a1, .int (nI n)], xA γ a1 12 f, xO q2 0 [.ref a2, .int (nI n)], xA γ a2 12 (xTip n f k 1)]) H := hP
      have hD : va_D A ([xO q0 2 [.ref q1, .ref q4, .int (nI kc), .int td, .ref q2, .ref q3], xO q1 0 [.ref a1, .int (nI n)], xA γ a1 12 f, xO q2 0 [.ref a2, .int (nI n)], xA γ a2 12 (xTip n f k 1)]) := hD
      refine W.eq (g2 := F0 m 29 ls [.int (xSpn n (xTip n f k 1))]) rfl ?_
      refine lv_aload_n hx hb dX2_bestPlace_29 rfl (lv_at hl 0 rfl) ?_
      refine lv_iload_n hx hb dX2_bestPlace_30 rfl (lv_at hl 3 rfl) ?_
      refine lv_iconst (v := (-1)) hx hb dX2_bestPlace_31 (by decide) ?_
      refine xVM (q0 := 0) (ci := 2) (As := [.int (nI k), .int (-1)]) (rest := [.int (xSpn n (xTip n f k 1))]) ⟨hx, hb, hml, hown, hts⟩ (c_X2_spanAfter γ l q0 q1 q2 q3 q4 kc td a1 n f a2 (nI n) (xTip n f k 1) k (-1) (by omega) (by omega) (by omega)) (cwV 2 hts gX2_bestPlace_X2_spanAfter rfl rfl rfl hdv_X2_spanAfter ⟨(Nat.le_of_ble_eq_true rfl), (Nat.le_of_ble_eq_true rfl)⟩) hK hP hD hS hA [0, 1, 2, 3, 4] rfl rfl rfl rfl rfl hl.1 rfl (Nat.le_of_ble_eq_true rfl) dX2_bestPlace_32 ⟨(Nat.le_of_ble_eq_true rfl), (Nat.le_of_ble_eq_true rfl)⟩ (fun r9 w9 H locs hw hP hD hS => ?_)
      obtain ⟨rfl, rfl⟩ := hw
      have hP : xP γ ([xO q0 2 [.ref q1, .ref q4, .int (nI kc), .int td, .ref q2, .ref q3], xO q1 0 [.ref a1, .int (nI n)], xA γ a1 12 f, xO q2 0 [.ref a2, .int (nI n)], xA γ a2 12 (xTip n f k (-1))]) H := hP
      have hD : va_D A ([xO q0 2 [.ref q1, .ref q4, .int (nI kc), .int td, .ref q2, .ref q3], xO q1 0 [.ref a1, .int (nI n)], xA γ a1 12 f, xO q2 0 [.ref a2, .int (nI n)], xA γ a2 12 (xTip n f k (-1))]) := hD
      refine W.eq (g2 := F0 m 35 ls [.int (xSpn n (xTip n f k (-1))), .int (xSpn n (xTip n f k 1))]) rfl ?_
      refine va_mmin hx hb (hml.trans hl.1.symm) hown (hts _ wdX2_bestPlace_m148a) (hts _ wdX2_bestPlace_m148b) (hts _ wdX2_bestPlace_m148c) (hts _ wdX2_bestPlace_m148d) (Nat.le_of_ble_eq_true rfl) (Nat.le_of_ble_eq_true rfl) (Nat.le_of_ble_eq_true rfl) (Nat.le_of_ble_eq_true rfl) dX2_bestPlace_35 ?_
      refine x_top (y := xSp2 n f k) (rfl) ?_
      refine lv_istore (lv' := [(4, .int (xSp2 n f k)), (0, .ref q0), (1, .int ((xBp n f k).1)), (2, .int ((xBp n f k).2)), (3, .int (nI k))]) hx hb dX2_bestPlace_38 hl (by decide) rfl (fun ls hl => ?_)
      refine lv_iload hx hb dX2_bestPlace_40 (lv_at hl 0 rfl) ?_
      refine lv_iload_n hx hb dX2_bestPlace_42 rfl (lv_at hl 3 rfl) ?_
      refine lv_icmp_ge (tgt := 51) hx hb dX2_bestPlace_43 (by decide) (fun c43 => ?_) (fun c43 => ?_)
      · rw [← xBp_f c43] at hl
        refine lv_iinc (v := nI (k + 1)) (lv' := [(3, .int (nI (k + 1))), (4, .int (xSp2 n f k)), (0, .ref q0), (1, .int ((xBp n f (k + 1)).1)), (2, .int ((xBp n f (k + 1)).2))]) hx hb dX2_bestPlace_51 hl (k := 4) rfl (nI_add k 1) (by decide) rfl (fun ls hl => ?_)
        refine lv_goto (tgt := 12) hx hb dX2_bestPlace_54 (by decide) ?_
        exact ih12 (k + 1) (nI n) (xTip n f k (-1)) (by omega) _ _ hP hD hS ls (lv_sub hl [2, 3, 4, 0] rfl)
      · refine lv_iload_n hx hb dX2_bestPlace_46 rfl (lv_at hl 4 rfl) ?_
        refine x_top (y := (xBp n f (k + 1)).1) (by rw [xBp_t c43]) ?_
        refine lv_istore_n (lv' := [(1, .int ((xBp n f (k + 1)).1)), (4, .int (xSp2 n f k)), (0, .ref q0), (2, .int ((xBp n f k).2)), (3, .int (nI k))]) hx hb dX2_bestPlace_47 rfl hl (by decide) rfl (fun ls hl => ?_)
        refine lv_iload hx hb dX2_bestPlace_48 (lv_at hl 1 rfl) ?_
        refine x_top (y := (xBp n f (k + 1)).2) (by rw [xBp_t c43]) ?_
        refine lv_istore_n (lv' := [(2, .int ((xBp n f (k + 1)).2)), (1, .int ((xBp n f (k + 1)).1)), (4, .int (xSp2 n f k)), (0, .ref q0), (3, .int (nI k))]) hx hb dX2_bestPlace_50 rfl hl (by decide) rfl (fun ls hl => ?_)
        refine lv_iinc (v := nI (k + 1)) (lv' := [(3, .int (nI (k + 1))), (2, .int ((xBp n f (k + 1)).2)), (1, .int ((xBp n f (k + 1)).1)), (4, .int (xSp2 n f k)), (0, .ref q0)]) hx hb dX2_bestPlace_51 hl (k := 4) rfl (nI_add k 1) (by decide) rfl (fun ls hl => ?_)
        refine lv_goto (tgt := 12) hx hb dX2_bestPlace_54 (by decide) ?_
        exact ih12 (k + 1) (nI n) (xTip n f k (-1)) (by omega) _ _ hP hD hS ls (lv_sub hl [4, 2, 1, 0] rfl)
  exact loop12 n 0 tn tf (by omega) _ _ hP hD hS ls (lv_sub hl [3, 2, 1, 0] rfl)

theorem flX2_firstPlaceFor_10 : Cond.fieldLink RX2 10 "RingSeesaw" "ring" "LRingSeesaw$Ring;" ∈ wsX2_firstPlaceFor := by decide +kernel
theorem iwX2_firstPlaceFor_2 : ∀ w ∈ wsX20, w ∈ wsX2_firstPlaceFor := by decide +kernel
theorem flX2_firstPlaceFor_27 : Cond.fieldLink RX2 27 "RingSeesaw" "trial" "LRingSeesaw$Ring;" ∈ wsX2_firstPlaceFor := by decide +kernel
set_option maxHeartbeats 4000000 in
set_option maxRecDepth 100000 in
theorem c_X2_firstPlaceFor (γ : xG) (l : Launch) (q0 q1 q2 q3 q4 kc : Nat) (td : Int32) (a1 n : Nat) (f : xRow) (a2 : Nat) (tn : Int32) (tf : xRow) (qk ak : Nat) (g : xRow) (x : Int32) (hn0 : 3 ≤ n) (hn1 : n ≤ 12) : xM γ l yX2_firstPlaceFor wsX2_firstPlaceFor ({ frames := 3, cells := 0, slots := 0, locals := 65 } : Room) [.ref q0, .int x, .ref qk] ([xO qk 0 [.ref ak, .int (nI n)], xA γ ak 12 g, xO q0 2 [.ref q1, .ref q4, .int (nI kc), .int td, .ref q2, .ref q3], xO q1 0 [.ref a1, .int (nI n)], xA γ a1 12 f, xO q2 0 [.ref a2, .int tn], xA γ a2 12 tf]) (fun r9 w9 => r9 = some (.int (xFi (xPf n f g x) n)) ∧ ∃ (z9 : Int32) (h9 : xRow), w9 = [xO qk 0 [.ref ak, .int (nI n)], xA γ ak 12 g, xO q0 2 [.ref q1, .ref q4, .int (nI kc), .int td, .ref q2, .ref q3], xO q1 0 [.ref a1, .int (nI n)], xA γ a1 12 f, xO q2 0 [.ref a2, .int z9], xA γ a2 12 h9]) 0 0 := by
  refine xM.of (cc := cX2_firstPlaceFor) (maxL := 4) (ret := (some .int)) (by decide +kernel) rfl (Nat.le_of_ble_eq_true rfl) ?_
  intro p e s m below meth c hx hb hr hml hts hown hlocks hin hP hK A hA hD ls hl
  have hS : va_S A s.heap s.heap [] := va_S.rf
  generalize hargs : ([.ref q0, .int x, .ref qk] : List Value).toArray = args at hts ⊢
  obtain ⟨Q, hQ⟩ : ∃ Q9, Q9 = MQ below (xMQ γ (List.map Prod.fst ([xO qk 0 [.ref ak, .int (nI n)], xA γ ak 12 g, xO q0 2 [.ref q1, .ref q4, .int (nI kc), .int td, .ref q2, .ref q3], xO q1 0 [.ref a1, .int (nI n)], xA γ a1 12 f, xO q2 0 [.ref a2, .int tn], xA γ a2 12 tf])) A (fun r9 w9 => r9 = some (.int (xFi (xPf n f g x) n)) ∧ ∃ (z9 : Int32) (h9 : xRow), w9 = [xO qk 0 [.ref ak, .int (nI n)], xA γ ak 12 g, xO q0 2 [.ref q1, .ref q4, .int (nI kc), .int td, .ref q2, .ref q3], xO q1 0 [.ref a1, .int (nI n)], xA γ a1 12 f, xO q2 0 [.ref a2, .int z9], xA γ a2 12 h9])) args s 0 0 A := ⟨_, rfl⟩
  rw [← hQ]
  have hown : s.vm.findClass RX2 = some m.cls := hown
  have hl : lv_has ls 4 [(0, .ref q0), (1, .int x), (2, .ref qk)] := hl
  refine lv_iconst (v := 0) hx hb dX2_firstPlaceFor_0 (by decide) ?_
  refine lv_istore_n (lv' := [(3, .int 0), (0, .ref q0), (1, .int x), (2, .ref qk)]) hx hb dX2_firstPlaceFor_1 rfl hl (by decide) rfl (fun ls hl => ?_)
  have loop2 : ∀ j : Nat, ∀ (k : Nat) (tn : Int32) (tf : xRow), k + j = n → (∀ i, i < k → xPf n f g x i = false) → ∀ (H : Heap) (locs : List Loc), xP γ ([xO qk 0 [.ref ak, .int (nI n)], xA γ ak 12 g, xO q0 2 [.ref q1, .ref q4, .int (nI kc), .int td, .ref q2, .ref q3], xO q1 0 [.ref a1, .int (nI n)], xA γ a1 12 f, xO q2 0 [.ref a2, .int tn], xA γ a2 12 tf]) H → va_D A ([xO qk 0 [.ref ak, .int (nI n)], xA γ ak 12 g, xO q0 2 [.ref q1, .ref q4, .int (nI kc), .int td, .ref q2, .ref q3], xO q1 0 [.ref a1, .int (nI n)], xA γ a1 12 f, xO q2 0 [.ref a2, .int tn], xA γ a2 12 tf]) → va_S A s.heap H locs → ∀ ls : Array Slot, lv_has ls 4 [(0, .ref q0), (1, .int x), (2, .ref qk), (3, .int (nI k))] → W p l e ({ frames := 3, cells := 0, slots := 0, locals := 65 } : Room) s m args below meth c H locs 0 0 Q (F0 m 2 ls []) := by
    intro j
    induction j with
    | zero =>
      intro k tn tf hj hno H locs hP hD hS ls hl
      refine lv_iload_n hx hb dX2_firstPlaceFor_2 rfl (lv_at hl 3 rfl) ?_
      refine lv_aload_n hx hb dX2_firstPlaceFor_3 rfl (lv_at hl 0 rfl) ?_
      refine va_get (D := γ.1) (ci := 2) (v := .ref q1) (C := RX2) (T := TX2) (N := 6) hx hb hts iwX2_firstPlaceFor_2 hown hK hP 2 rfl rfl 0 (by decide) (hts _ flX2_firstPlaceFor_10) (fun _ h9 => h9) rfl dX2_firstPlaceFor_4 ?_
      refine xVR (q0 := 3) (ci := 0) (As := []) (rest := [.int (nI k)]) (stk := [.int (nI n), .int (nI k)]) ⟨hx, hb, hml, hown, hts⟩ (c_X0_size γ l q1 a1 n f) (cwV 0 hts gX2_firstPlaceFor_X0_size rfl rfl rfl hdv_X0_size ⟨(Nat.le_of_ble_eq_true rfl), (Nat.le_of_ble_eq_true rfl)⟩) hK hP [3, 4] rfl rfl rfl rfl hl.1 rfl (Nat.le_of_ble_eq_true rfl) dX2_firstPlaceFor_7 ⟨(Nat.le_of_ble_eq_true rfl), (Nat.le_of_ble_eq_true rfl)⟩ rfl ?_
      refine lv_icmp_ge (tgt := 52) hx hb dX2_firstPlaceFor_10 (by decide) (fun _ => ?_) (fun c => absurd (nI_le (a := n) (b := k) (by omega) (by omega)) c)
      refine lv_iconst (v := (-1)) hx hb dX2_firstPlaceFor_52 (by decide) ?_
      subst hQ
      exact xM_i hx hb hr hlocks dX2_firstPlaceFor_53 hP rfl hS (Nat.le_of_ble_eq_true rfl) (Nat.le_of_ble_eq_true rfl) (⟨by rw [xFi_none (fun i hi => hno i (by omega))], _, _, rfl⟩)
    | succ j ih2 =>
      intro k tn tf hj hno H locs hP hD hS ls hl
      refine lv_iload_n hx hb dX2_firstPlaceFor_2 rfl (lv_at hl 3 rfl) ?_
      refine lv_aload_n hx hb dX2_firstPlaceFor_3 rfl (lv_at hl 0 rfl) ?_
      refine va_get (D := γ.1) (ci := 2) (v := .ref q1) (C := RX2) (T := TX2) (N := 6) hx hb hts iwX2_firstPlaceFor_2 hown hK hP 2 rfl rfl 0 (by decide) (hts _ flX2_firstPlaceFor_10) (fun _ h9 => h9) rfl dX2_firstPlaceFor_4 ?_
      refine xVR (q0 := 3) (ci := 0) (As := []) (rest := [.int (nI k)]) (stk := [.int (nI n), .int (nI k)]) ⟨hx, hb, hml, hown, hts⟩ (c_X0_size γ l q1 a1 n f) (cwV 0 hts gX2_firstPlaceFor_X0_size rfl rfl rfl hdv_X0_size ⟨(Nat.le_of_ble_eq_true rfl), (Nat.le_of_ble_eq_true rfl)⟩) hK hP [3, 4] rfl rfl rfl rfl hl.1 rfl (Nat.le_of_ble_eq_true rfl) dX2_firstPlaceFor_7 ⟨(Nat.le_of_ble_eq_true rfl), (Nat.le_of_ble_eq_true rfl)⟩ rfl ?_
      refine lv_icmp_ge (tgt := 52) hx hb dX2_firstPlaceFor_10 (by decide) (fun c => absurd c (nI_ge (a := k) (b := n) (by omega) (by omega))) (fun _ => ?_)
      refine lv_aload_n hx hb dX2_firstPlaceFor_13 rfl (lv_at hl 0 rfl) ?_
      refine va_get (D := γ.1) (ci := 2) (v := .ref q2) (C := RX2) (T := TX2) (N := 6) hx hb hts iwX2_firstPlaceFor_2 hown hK hP 2 rfl rfl 4 (by decide) (hts _ flX2_firstPlaceFor_27) (fun _ h9 => h9) rfl dX2_firstPlaceFor_14 ?_
      refine lv_aload_n hx hb dX2_firstPlaceFor_17 rfl (lv_at hl 0 rfl) ?_
      refine va_get (D := γ.1) (ci := 2) (v := .ref q1) (C := RX2) (T := TX2) (N := 6) hx hb hts iwX2_firstPlaceFor_2 hown hK hP 2 rfl rfl 0 (by decide) (hts _ flX2_firstPlaceFor_10) (fun _ h9 => h9) rfl dX2_firstPlaceFor_18 ?_
      refine xVM (q0 := 5) (ci := 0) (As := [.ref q1]) (rest := []) ⟨hx, hb, hml, hown, hts⟩ (c_X0_copyFrom γ l q2 a2 q1 a1 tn (nI n) tf f) (cwV 1 hts gX2_firstPlaceFor_X0_copyFrom rfl rfl rfl hdv_X0_copyFrom ⟨(Nat.le_of_ble_eq_true rfl), (Nat.le_of_ble_eq_true rfl)⟩) hK hP hD hS hA [5, 6, 3, 4] rfl rfl rfl rfl rfl hl.1 rfl (Nat.le_of_ble_eq_true rfl) dX2_firstPlaceFor_21 ⟨(Nat.le_of_ble_eq_true rfl), (Nat.le_of_ble_eq_true rfl)⟩ (fun r9 w9 H locs hw hP hD hS => ?_)
      obtain ⟨rfl, rfl⟩ := hw
      have hP : xP γ ([xO qk 0 [.ref ak, .int (nI n)], xA γ ak 12 g, xO q0 2 [.ref q1, .ref q4, .int (nI kc), .int td, .ref q2, .ref q3], xO q1 0 [.ref a1, .int (nI n)], xA γ a1 12 f, xO q2 0 [.ref a2, .int (nI n)], xA γ a2 12 f]) H := hP
      have hD : va_D A ([xO qk 0 [.ref ak, .int (nI n)], xA γ ak 12 g, xO q0 2 [.ref q1, .ref q4, .int (nI kc), .int td, .ref q2, .ref q3], xO q1 0 [.ref a1, .int (nI n)], xA γ a1 12 f, xO q2 0 [.ref a2, .int (nI n)], xA γ a2 12 f]) := hD
      refine W.eq (g2 := F0 m 24 ls []) rfl ?_
      refine lv_aload_n hx hb dX2_firstPlaceFor_24 rfl (lv_at hl 0 rfl) ?_
      refine va_get (D := γ.1) (ci := 2) (v := .ref q2) (C := RX2) (T := TX2) (N := 6) hx hb hts iwX2_firstPlaceFor_2 hown hK hP 2 rfl rfl 4 (by decide) (hts _ flX2_firstPlaceFor_27) (fun _ h9 => h9) rfl dX2_firstPlaceFor_25 ?_
      refine lv_iload_n hx hb dX2_firstPlaceFor_28 rfl (lv_at hl 3 rfl) ?_
      refine lv_iload_n hx hb dX2_firstPlaceFor_29 rfl (lv_at hl 1 rfl) ?_
      refine xVM (q0 := 5) (ci := 0) (As := [.int (nI k), .int x]) (rest := []) ⟨hx, hb, hml, hown, hts⟩ (c_X0_write γ l q2 a2 (nI n) f k x (by omega)) (cwV 2 hts gX2_firstPlaceFor_X0_write rfl rfl rfl hdv_X0_write ⟨(Nat.le_of_ble_eq_true rfl), (Nat.le_of_ble_eq_true rfl)⟩) hK hP hD hS hA [5, 6] rfl rfl rfl rfl rfl hl.1 rfl (Nat.le_of_ble_eq_true rfl) dX2_firstPlaceFor_30 ⟨(Nat.le_of_ble_eq_true rfl), (Nat.le_of_ble_eq_true rfl)⟩ (fun r9 w9 H locs hw hP hD hS => ?_)
      obtain ⟨rfl, rfl⟩ := hw
      have hP : xP γ ([xO qk 0 [.ref ak, .int (nI n)], xA γ ak 12 g, xO q0 2 [.ref q1, .ref q4, .int (nI kc), .int td, .ref q2, .ref q3], xO q1 0 [.ref a1, .int (nI n)], xA γ a1 12 f, xO q2 0 [.ref a2, .int (nI n)], xA γ a2 12 (upd f k x)]) H := hP
      have hD : va_D A ([xO qk 0 [.ref ak, .int (nI n)], xA γ ak 12 g, xO q0 2 [.ref q1, .ref q4, .int (nI kc), .int td, .ref q2, .ref q3], xO q1 0 [.ref a1, .int (nI n)], xA γ a1 12 f, xO q2 0 [.ref a2, .int (nI n)], xA γ a2 12 (upd f k x)]) := hD
      refine W.eq (g2 := F0 m 33 ls []) rfl ?_
      refine lv_aload_n hx hb dX2_firstPlaceFor_33 rfl (lv_at hl 0 rfl) ?_
      refine va_get (D := γ.1) (ci := 2) (v := .ref q2) (C := RX2) (T := TX2) (N := 6) hx hb hts iwX2_firstPlaceFor_2 hown hK hP 2 rfl rfl 4 (by decide) (hts _ flX2_firstPlaceFor_27) (fun _ h9 => h9) rfl dX2_firstPlaceFor_34 ?_
      refine lv_aload_n hx hb dX2_firstPlaceFor_37 rfl (lv_at hl 2 rfl) ?_
      refine xVR (q0 := 5) (ci := 0) (As := [.ref qk]) (rest := []) (stk := [.int (if xCB n (upd f k x) g = true then 1 else 0)]) ⟨hx, hb, hml, hown, hts⟩ (c_X0_canBecome γ l q2 a2 qk ak n (upd f k x) g (by omega) (by omega)) (cwV 1 hts gX2_firstPlaceFor_X0_canBecome rfl rfl rfl hdv_X0_canBecome ⟨(Nat.le_of_ble_eq_true rfl), (Nat.le_of_ble_eq_true rfl)⟩) hK hP [5, 6, 0, 1] rfl rfl rfl rfl hl.1 rfl (Nat.le_of_ble_eq_true rfl) dX2_firstPlaceFor_38 ⟨(Nat.le_of_ble_eq_true rfl), (Nat.le_of_ble_eq_true rfl)⟩ rfl ?_
      refine lv_if_eq (tgt := 46) hx hb dX2_firstPlaceFor_41 (by decide) (fun c41 => ?_) (fun c41 => ?_)
      · refine lv_iinc (v := nI (k + 1)) (lv' := [(3, .int (nI (k + 1))), (0, .ref q0), (1, .int x), (2, .ref qk)]) hx hb dX2_firstPlaceFor_46 hl (k := 3) rfl (nI_add k 1) (by decide) rfl (fun ls hl => ?_)
        refine lv_goto (tgt := 2) hx hb dX2_firstPlaceFor_49 (by decide) ?_
        exact ih2 (k + 1) (nI n) (upd f k x) (by omega) (fun i hi => by rcases (show i < k ∨ i = k by omega) with h | h; exact hno i h; (rw [h]; exact xB_f c41)) _ _ hP hD hS ls (lv_sub hl [1, 2, 3, 0] rfl)
      · refine lv_iload_n hx hb dX2_firstPlaceFor_44 rfl (lv_at hl 3 rfl) ?_
        subst hQ
        exact xM_i hx hb hr hlocks dX2_firstPlaceFor_45 hP rfl hS (Nat.le_of_ble_eq_true rfl) (Nat.le_of_ble_eq_true rfl) (⟨by rw [xFi_some (xB_t c41) hno (by omega)], _, _, rfl⟩)
  exact loop2 n 0 tn tf (by omega) (fun i h => absurd h (Nat.not_lt_zero i)) _ _ hP hD hS ls (lv_sub hl [1, 2, 3, 0] rfl)

theorem hdv_X2_firstPlaceFor : yX2_firstPlaceFor.cls = RX2 ∧ yX2_firstPlaceFor.cls ≠ "java/lang/invoke/MethodHandle" ∧ yX2_firstPlaceFor.cls ≠ "java/lang/invoke/VarHandle" ∧ (parseMethodDescriptor yX2_firstPlaceFor.desc).map (fun d => d.parameters.length) = some 2 := by decide +kernel
theorem flX2_placeFor_20 : Cond.fieldLink RX2 20 "RingSeesaw" "keptCount" "I" ∈ wsX2_placeFor := by decide +kernel
theorem iwX2_placeFor_2 : ∀ w ∈ wsX20, w ∈ wsX2_placeFor := by decide +kernel
set_option maxHeartbeats 4000000 in
set_option maxRecDepth 100000 in
theorem c_X2_placeFor (γ : xG) (l : Launch) (q0 q1 q2 q3 q4 kc : Nat) (td : Int32) (a1 n : Nat) (f : xRow) (a2 : Nat) (tn : Int32) (tf : xRow) (kq ka : Nat → Nat) (kn : Nat → Int32) (ks : Nat → xRow) (x : Int32) (hn0 : 3 ≤ n) (hn1 : n ≤ 12) (hkc : kc ≤ 6) (hk0 : 0 < kc) (h1 : ¬ x < (-999)) (h2 : x ≤ 999) : xM γ l yX2_placeFor wsX2_placeFor ({ frames := 4, cells := 0, slots := 0, locals := 88 } : Room) [.ref q0, .int x] ([xO q0 2 [.ref q1, .ref q4, .int (nI kc), .int td, .ref q2, .ref q3], xO q1 0 [.ref a1, .int (nI n)], xA γ a1 12 f, xO q2 0 [.ref a2, .int tn], xA γ a2 12 tf, xQ γ q4 6 (fun t9 => some (kq t9)), xO (kq 0) 0 [.ref (ka 0), .int (nI n)], xA γ (ka 0) 12 (ks 0)]) (fun r9 w9 => r9 = some (.int (xPl n kc f ks x)) ∧ ∃ (z9 : Int32) (h9 : xRow), w9 = [xO q0 2 [.ref q1, .ref q4, .int (nI kc), .int td, .ref q2, .ref q3], xO q1 0 [.ref a1, .int (nI n)], xA γ a1 12 f, xO q2 0 [.ref a2, .int z9], xA γ a2 12 h9, xQ γ q4 6 (fun t9 => some (kq t9)), xO (kq 0) 0 [.ref (ka 0), .int (nI n)], xA γ (ka 0) 12 (ks 0)]) 0 0 := by
  refine xM.of (cc := cX2_placeFor) (maxL := 2) (ret := (some .int)) (by decide +kernel) rfl (Nat.le_of_ble_eq_true rfl) ?_
  intro p e s m below meth c hx hb hr hml hts hown hlocks hin hP hK A hA hD ls hl
  have hS : va_S A s.heap s.heap [] := va_S.rf
  generalize hargs : ([.ref q0, .int x] : List Value).toArray = args at hts ⊢
  obtain ⟨Q, hQ⟩ : ∃ Q9, Q9 = MQ below (xMQ γ (List.map Prod.fst ([xO q0 2 [.ref q1, .ref q4, .int (nI kc), .int td, .ref q2, .ref q3], xO q1 0 [.ref a1, .int (nI n)], xA γ a1 12 f, xO q2 0 [.ref a2, .int tn], xA γ a2 12 tf, xQ γ q4 6 (fun t9 => some (kq t9)), xO (kq 0) 0 [.ref (ka 0), .int (nI n)], xA γ (ka 0) 12 (ks 0)])) A (fun r9 w9 => r9 = some (.int (xPl n kc f ks x)) ∧ ∃ (z9 : Int32) (h9 : xRow), w9 = [xO q0 2 [.ref q1, .ref q4, .int (nI kc), .int td, .ref q2, .ref q3], xO q1 0 [.ref a1, .int (nI n)], xA γ a1 12 f, xO q2 0 [.ref a2, .int z9], xA γ a2 12 h9, xQ γ q4 6 (fun t9 => some (kq t9)), xO (kq 0) 0 [.ref (ka 0), .int (nI n)], xA γ (ka 0) 12 (ks 0)])) args s 0 0 A := ⟨_, rfl⟩
  rw [← hQ]
  have hown : s.vm.findClass RX2 = some m.cls := hown
  have hl : lv_has ls 2 [(0, .ref q0), (1, .int x)] := hl
  refine lv_aload_n hx hb dX2_placeFor_0 rfl (lv_at hl 0 rfl) ?_
  refine lv_iload_n hx hb dX2_placeFor_1 rfl (lv_at hl 1 rfl) ?_
  refine xVR (q0 := 0) (ci := 2) (As := [.int x]) (rest := []) (stk := []) ⟨hx, hb, hml, hown, hts⟩ (c_X2_requireNumber γ l q0 q1 q2 q3 q4 kc td x h1 h2) (cwV 1 hts gX2_placeFor_X2_requireNumber rfl rfl rfl hdv_X2_requireNumber ⟨(Nat.le_of_ble_eq_true rfl), (Nat.le_of_ble_eq_true rfl)⟩) hK hP [0] rfl rfl rfl rfl hl.1 rfl (Nat.le_of_ble_eq_true rfl) dX2_placeFor_2 ⟨(Nat.le_of_ble_eq_true rfl), (Nat.le_of_ble_eq_true rfl)⟩ rfl ?_
  refine lv_aload_n hx hb dX2_placeFor_5 rfl (lv_at hl 0 rfl) ?_
  refine va_get (D := γ.1) (ci := 2) (v := .int (nI kc)) (C := RX2) (T := TX2) (N := 6) hx hb hts iwX2_placeFor_2 hown hK hP 0 rfl rfl 2 (by decide) (hts _ flX2_placeFor_20) (fun _ h9 => h9) rfl dX2_placeFor_6 ?_
  refine lv_if_ne (tgt := 16) hx hb dX2_placeFor_9 (by decide) (fun _ => ?_) (fun c => absurd c (nI_ne0 (by omega) (by omega)))
  refine lv_aload_n hx hb dX2_placeFor_16 rfl (lv_at hl 0 rfl) ?_
  refine lv_iload_n hx hb dX2_placeFor_17 rfl (lv_at hl 1 rfl) ?_
  refine lv_aload_n hx hb dX2_placeFor_18 rfl (lv_at hl 0 rfl) ?_
  refine lv_iconst (v := 0) hx hb dX2_placeFor_19 (by decide) ?_
  refine xVR (q0 := 0) (ci := 2) (As := [.int 0]) (rest := [.int x, .ref q0]) (stk := [.ref (kq 0), .int x, .ref q0]) ⟨hx, hb, hml, hown, hts⟩ (c_X2_keptRing γ l q0 q1 q2 q3 q4 kc td kq 0 (by omega) (by omega)) (cwV 1 hts gX2_placeFor_X2_keptRing rfl rfl rfl hdv_X2_keptRing ⟨(Nat.le_of_ble_eq_true rfl), (Nat.le_of_ble_eq_true rfl)⟩) hK hP [0, 5] rfl rfl rfl rfl hl.1 rfl (Nat.le_of_ble_eq_true rfl) dX2_placeFor_20 ⟨(Nat.le_of_ble_eq_true rfl), (Nat.le_of_ble_eq_true rfl)⟩ rfl ?_
  refine xVM (q0 := 0) (ci := 2) (As := [.int x, .ref (kq 0)]) (rest := []) ⟨hx, hb, hml, hown, hts⟩ (c_X2_firstPlaceFor γ l q0 q1 q2 q3 q4 kc td a1 n f a2 tn tf (kq 0) (ka 0) (ks 0) x (by omega) (by omega)) (cwV 2 hts gX2_placeFor_X2_firstPlaceFor rfl rfl rfl hdv_X2_firstPlaceFor ⟨(Nat.le_of_ble_eq_true rfl), (Nat.le_of_ble_eq_true rfl)⟩) hK hP hD hS hA [6, 7, 0, 1, 2, 3, 4] rfl rfl rfl rfl rfl hl.1 rfl (Nat.le_of_ble_eq_true rfl) dX2_placeFor_23 ⟨(Nat.le_of_ble_eq_true rfl), (Nat.le_of_ble_eq_true rfl)⟩ (fun r9 w9 H locs hw hP hD hS => ?_)
  obtain ⟨rfl, tn39x, tf40x, rfl⟩ := hw
  have hP : xP γ ([xO q0 2 [.ref q1, .ref q4, .int (nI kc), .int td, .ref q2, .ref q3], xO q1 0 [.ref a1, .int (nI n)], xA γ a1 12 f, xO q2 0 [.ref a2, .int tn39x], xA γ a2 12 tf40x, xQ γ q4 6 (fun t9 => some (kq t9)), xO (kq 0) 0 [.ref (ka 0), .int (nI n)], xA γ (ka 0) 12 (ks 0)]) H := hP
  have hD : va_D A ([xO q0 2 [.ref q1, .ref q4, .int (nI kc), .int td, .ref q2, .ref q3], xO q1 0 [.ref a1, .int (nI n)], xA γ a1 12 f, xO q2 0 [.ref a2, .int tn39x], xA γ a2 12 tf40x, xQ γ q4 6 (fun t9 => some (kq t9)), xO (kq 0) 0 [.ref (ka 0), .int (nI n)], xA γ (ka 0) 12 (ks 0)]) := hD
  refine W.eq (g2 := F0 m 26 ls [.int (xFi (xPf n f (ks 0) x) n)]) rfl ?_
  subst hQ
  exact xM_i hx hb hr hlocks dX2_placeFor_26 hP rfl hS (Nat.le_of_ble_eq_true rfl) (Nat.le_of_ble_eq_true rfl) (⟨by unfold xPl; rw [if_neg (by omega)], _, _, rfl⟩)

set_option maxHeartbeats 4000000 in
set_option maxRecDepth 100000 in
theorem c_X2_placeFor0 (γ : xG) (l : Launch) (q0 q1 q2 q3 q4 kc : Nat) (td : Int32) (x : Int32) (f : xRow) (n : Nat) (ks : Nat → xRow) (hk0 : kc = 0) (h1 : ¬ x < (-999)) (h2 : x ≤ 999) : xR γ l yX2_placeFor wsX2_placeFor ({ frames := 1, cells := 0, slots := 0, locals := 21 } : Room) [.ref q0, .int x] ([xO q0 2 [.ref q1, .ref q4, .int (nI kc), .int td, .ref q2, .ref q3]]) (some (.int (xPl n kc f ks x))) := by
  refine xR.of (cc := cX2_placeFor) (maxL := 2) (ret := (some .int)) (by decide +kernel) rfl (Nat.le_of_ble_eq_true rfl) ?_
  intro p e s m below meth c hx hb hr hml hts hown hlocks hP hK ls hl
  generalize hargs : ([.ref q0, .int x] : List Value).toArray = args at hts ⊢
  obtain ⟨Q, hQ⟩ : ∃ Q9, Q9 = MQ below (xRQ (some (.int (xPl n kc f ks x)))) args s 0 0 (fun _ => False) := ⟨_, rfl⟩
  rw [← hQ]
  have hown : s.vm.findClass RX2 = some m.cls := hown
  have hl : lv_has ls 2 [(0, .ref q0), (1, .int x)] := hl
  refine lv_aload_n hx hb dX2_placeFor_0 rfl (lv_at hl 0 rfl) ?_
  refine lv_iload_n hx hb dX2_placeFor_1 rfl (lv_at hl 1 rfl) ?_
  refine xVR (q0 := 0) (ci := 2) (As := [.int x]) (rest := []) (stk := []) ⟨hx, hb, hml, hown, hts⟩ (c_X2_requireNumber γ l q0 q1 q2 q3 q4 kc td x h1 h2) (cwV 1 hts gX2_placeFor_X2_requireNumber rfl rfl rfl hdv_X2_requireNumber ⟨(Nat.le_of_ble_eq_true rfl), (Nat.le_of_ble_eq_true rfl)⟩) hK hP [0] rfl rfl rfl rfl hl.1 rfl (Nat.le_of_ble_eq_true rfl) dX2_placeFor_2 ⟨(Nat.le_of_ble_eq_true rfl), (Nat.le_of_ble_eq_true rfl)⟩ rfl ?_
  refine lv_aload_n hx hb dX2_placeFor_5 rfl (lv_at hl 0 rfl) ?_
  refine va_get (D := γ.1) (ci := 2) (v := .int (nI kc)) (C := RX2) (T := TX2) (N := 6) hx hb hts iwX2_placeFor_2 hown hK hP 0 rfl rfl 2 (by decide) (hts _ flX2_placeFor_20) (fun _ h9 => h9) rfl dX2_placeFor_6 ?_
  refine lv_if_ne (tgt := 16) hx hb dX2_placeFor_9 (by decide) (fun c => absurd (by rw [hk0]; rfl) c) (fun _ => ?_)
  refine lv_iconst (v := (-1)) hx hb dX2_placeFor_12 (by decide) ?_
  refine lv_goto (tgt := 26) hx hb dX2_placeFor_13 (by decide) ?_
  subst hQ
  exact xR_i hx hb hr hlocks dX2_placeFor_26 (by unfold xPl; rw [if_pos hk0])

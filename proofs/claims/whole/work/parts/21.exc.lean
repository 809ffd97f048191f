/-! bad calls of RingSeesaw: what they throw (rows laid by wip/whole/spec_exc.py) -/
theorem wdX2_requirePlace_x221a : Cond.classLink RX2 221 "java/lang/IndexOutOfBoundsException" ∈ wsX2_requirePlace := by decide +kernel
theorem wdX2_requirePlace_x221b : Cond.initialized "java/lang/IndexOutOfBoundsException" ∈ wsX2_requirePlace := by decide +kernel
theorem wdX2_requirePlace_at225 : ∀ w ∈ (vx_atS RX2 225 "java/lang/IndexOutOfBoundsException" ["java/lang/RuntimeException", "java/lang/Exception"]).filter goodWord, w ∈ wsX2_requirePlace := by decide +kernel
theorem vxat225_bad : ∀ w ∈ (vx_atS RX2 225 "java/lang/IndexOutOfBoundsException" ["java/lang/RuntimeException", "java/lang/Exception"]).filter (fun w => !goodWord w), w ∈ [Cond.castable "java/lang/IndexOutOfBoundsException" "java/lang/IndexOutOfBoundsException", Cond.declares ⟨"java/lang/RuntimeException", "<init>", "(Ljava/lang/String;)V"⟩, Cond.declares ⟨"java/lang/Exception", "<init>", "(Ljava/lang/String;)V"⟩, Cond.declares ⟨"java/lang/Throwable", "<init>", "(Ljava/lang/String;)V"⟩] := by decide +kernel
theorem vxat225_good : ∀ w ∈ Cond.classLink RX2 221 "java/lang/IndexOutOfBoundsException" :: Cond.initialized "java/lang/IndexOutOfBoundsException" :: vx_atS RX2 225 "java/lang/IndexOutOfBoundsException" ["java/lang/RuntimeException", "java/lang/Exception"], vx_ot w = true := by decide +kernel
set_option maxHeartbeats 4000000 in
set_option maxRecDepth 100000 in
theorem c_X2_requirePlace_x (γ : xG) (l : Launch) (hlt : l.stackTraces = false) (sa : Nat → Nat) (q0 q1 q2 q3 q4 kc : Nat) (td : Int32) (a1 n : Nat) (f : xRow) (x : Int32) (hn0 : 3 ≤ n) (hn1 : n ≤ 12) (hxb : xInB x 0 (nI n - 1) = false) : xX γ l yX2_requirePlace wsX2_requirePlace ({ frames := 6, cells := 1, slots := 6, locals := 82 } : Room) [.ref q0, .int x] sa ([xO q0 2 [.ref q1, .ref q4, .int (nI kc), .int td, .ref q2, .ref q3], xO q1 0 [.ref a1, .int (nI n)], xA γ a1 12 f]) "java/lang/IndexOutOfBoundsException" := by
  refine xX.of (cc := cX2_requirePlace) (maxL := 2) (ret := none) (by decide +kernel) rfl (Nat.le_of_ble_eq_true rfl) ?_
  intro p e s m below meth c hx hb hr hml hts hown hlocks hP hK hE ht ls hl
  generalize hargs : ([.ref q0, .int x] : List Value).toArray = args at hts ⊢
  obtain ⟨Q, hQ⟩ : ∃ Q9, Q9 = vx_MQ below (fun _ _ _ _ => False) (xXQ "java/lang/IndexOutOfBoundsException") args s 1 6 (fun _ => False) := ⟨_, rfl⟩
  rw [← hQ]
  have hown : s.vm.findClass RX2 = some m.cls := hown
  have hl : lv_has ls 2 [(0, .ref q0), (1, .int x)] := hl
  refine lv_iload_n hx hb dX2_requirePlace_0 rfl (lv_at hl 1 rfl) ?_
  refine lv_if_lt (tgt := 15) hx hb dX2_requirePlace_1 (by decide) (fun c1 => ?_) (fun c1 => ?_)
  · subst hQ
    exact xX_throw (ik := 221) (is := 223) (ic := 225) (rest := []) hx hb hlt hown (by decide +kernel) hts wdX2_requirePlace_x221a wdX2_requirePlace_x221b hE.2.1.place wdX2_requirePlace_at225 vxat225_bad (xBadI hE.1) vxat225_good hE hml hl.1 dX2_requirePlace_15 dX2_requirePlace_18 dX2_requirePlace_19 dX2_requirePlace_21 dX2_requirePlace_24 ht hlocks (Nat.le_of_ble_eq_true rfl) (Nat.le_of_ble_eq_true rfl) (Nat.le_of_ble_eq_true rfl) (Nat.le_of_ble_eq_true rfl)
  · refine lv_iload_n hx hb dX2_requirePlace_4 rfl (lv_at hl 1 rfl) ?_
    refine lv_aload_n hx hb dX2_requirePlace_5 rfl (lv_at hl 0 rfl) ?_
    refine va_get (D := γ.1) (ci := 2) (v := .ref q1) (C := RX2) (T := TX2) (N := 6) hx hb hts iwX2_requirePlace_2 hown hK hP 0 rfl rfl 0 (by decide) (hts _ flX2_requirePlace_10) (fun _ h9 => h9) rfl dX2_requirePlace_6 ?_
    refine xVR (q0 := 1) (ci := 0) (As := []) (rest := [.int x]) (stk := [.int (nI n), .int x]) ⟨hx, hb, hml, hown, hts⟩ (c_X0_size γ l q1 a1 n f) (cwV 0 hts gX2_requirePlace_X0_size rfl rfl rfl hdv_X0_size ⟨(Nat.le_of_ble_eq_true rfl), (Nat.le_of_ble_eq_true rfl)⟩) hK hP [1, 2] rfl rfl rfl rfl hl.1 rfl (Nat.le_of_ble_eq_true rfl) dX2_requirePlace_9 ⟨(Nat.le_of_ble_eq_true rfl), (Nat.le_of_ble_eq_true rfl)⟩ rfl ?_
    refine lv_icmp_lt (tgt := 25) hx hb dX2_requirePlace_12 (by decide) (fun c => absurd c (xpl_bad hn1 hxb c1)) (fun _ => ?_)
    subst hQ
    exact xX_throw (ik := 221) (is := 223) (ic := 225) (rest := []) hx hb hlt hown (by decide +kernel) hts wdX2_requirePlace_x221a wdX2_requirePlace_x221b hE.2.1.place wdX2_requirePlace_at225 vxat225_bad (xBadI hE.1) vxat225_good hE hml hl.1 dX2_requirePlace_15 dX2_requirePlace_18 dX2_requirePlace_19 dX2_requirePlace_21 dX2_requirePlace_24 ht hlocks (Nat.le_of_ble_eq_true rfl) (Nat.le_of_ble_eq_true rfl) (Nat.le_of_ble_eq_true rfl) (Nat.le_of_ble_eq_true rfl)

theorem wdX2_requireNumber_x37a : Cond.classLink RX2 37 "java/lang/IllegalArgumentException" ∈ wsX2_requireNumber := by decide +kernel
theorem wdX2_requireNumber_x37b : Cond.initialized "java/lang/IllegalArgumentException" ∈ wsX2_requireNumber := by decide +kernel
theorem wdX2_requireNumber_at41 : ∀ w ∈ (vx_atS RX2 41 "java/lang/IllegalArgumentException" ["java/lang/RuntimeException", "java/lang/Exception"]).filter goodWord, w ∈ wsX2_requireNumber := by decide +kernel
theorem vxat41_bad : ∀ w ∈ (vx_atS RX2 41 "java/lang/IllegalArgumentException" ["java/lang/RuntimeException", "java/lang/Exception"]).filter (fun w => !goodWord w), w ∈ [Cond.castable "java/lang/IllegalArgumentException" "java/lang/IllegalArgumentException", Cond.declares ⟨"java/lang/RuntimeException", "<init>", "(Ljava/lang/String;)V"⟩, Cond.declares ⟨"java/lang/Exception", "<init>", "(Ljava/lang/String;)V"⟩, Cond.declares ⟨"java/lang/Throwable", "<init>", "(Ljava/lang/String;)V"⟩] := by decide +kernel
theorem vxat41_good : ∀ w ∈ Cond.classLink RX2 37 "java/lang/IllegalArgumentException" :: Cond.initialized "java/lang/IllegalArgumentException" :: vx_atS RX2 41 "java/lang/IllegalArgumentException" ["java/lang/RuntimeException", "java/lang/Exception"], vx_ot w = true := by decide +kernel
set_option maxHeartbeats 4000000 in
set_option maxRecDepth 100000 in
theorem c_X2_requireNumber_x (γ : xG) (l : Launch) (hlt : l.stackTraces = false) (sa : Nat → Nat) (q0 q1 q2 q3 q4 kc : Nat) (td : Int32) (x : Int32) (hxb : xInB x (-999) 999 = false) : xX γ l yX2_requireNumber wsX2_requireNumber ({ frames := 6, cells := 1, slots := 6, locals := 82 } : Room) [.ref q0, .int x] sa ([xO q0 2 [.ref q1, .ref q4, .int (nI kc), .int td, .ref q2, .ref q3]]) "java/lang/IllegalArgumentException" := by
  refine xX.of (cc := cX2_requireNumber) (maxL := 2) (ret := none) (by decide +kernel) rfl (Nat.le_of_ble_eq_true rfl) ?_
  intro p e s m below meth c hx hb hr hml hts hown hlocks hP hK hE ht ls hl
  generalize hargs : ([.ref q0, .int x] : List Value).toArray = args at hts ⊢
  obtain ⟨Q, hQ⟩ : ∃ Q9, Q9 = vx_MQ below (fun _ _ _ _ => False) (xXQ "java/lang/IllegalArgumentException") args s 1 6 (fun _ => False) := ⟨_, rfl⟩
  rw [← hQ]
  have hown : s.vm.findClass RX2 = some m.cls := hown
  have hl : lv_has ls 2 [(0, .ref q0), (1, .int x)] := hl
  refine lv_iload_n hx hb dX2_requireNumber_0 rfl (lv_at hl 1 rfl) ?_
  refine lv_sipush (v := (-999)) hx hb dX2_requireNumber_1 (by decide) ?_
  refine lv_icmp_lt (tgt := 14) hx hb dX2_requireNumber_4 (by decide) (fun c4 => ?_) (fun c4 => ?_)
  · subst hQ
    exact xX_throw (ik := 37) (is := 226) (ic := 41) (rest := []) hx hb hlt hown (by decide +kernel) hts wdX2_requireNumber_x37a wdX2_requireNumber_x37b hE.2.1.number wdX2_requireNumber_at41 vxat41_bad (xBadA hE.1) vxat41_good hE hml hl.1 dX2_requireNumber_14 dX2_requireNumber_17 dX2_requireNumber_18 dX2_requireNumber_20 dX2_requireNumber_23 ht hlocks (Nat.le_of_ble_eq_true rfl) (Nat.le_of_ble_eq_true rfl) (Nat.le_of_ble_eq_true rfl) (Nat.le_of_ble_eq_true rfl)
  · refine lv_iload_n hx hb dX2_requireNumber_7 rfl (lv_at hl 1 rfl) ?_
    refine lv_sipush (v := 999) hx hb dX2_requireNumber_8 (by decide) ?_
    refine lv_icmp_le (tgt := 24) hx hb dX2_requireNumber_11 (by decide) (fun c => absurd c (xin_bad hxb c4)) (fun _ => ?_)
    subst hQ
    exact xX_throw (ik := 37) (is := 226) (ic := 41) (rest := []) hx hb hlt hown (by decide +kernel) hts wdX2_requireNumber_x37a wdX2_requireNumber_x37b hE.2.1.number wdX2_requireNumber_at41 vxat41_bad (xBadA hE.1) vxat41_good hE hml hl.1 dX2_requireNumber_14 dX2_requireNumber_17 dX2_requireNumber_18 dX2_requireNumber_20 dX2_requireNumber_23 ht hlocks (Nat.le_of_ble_eq_true rfl) (Nat.le_of_ble_eq_true rfl) (Nat.le_of_ble_eq_true rfl) (Nat.le_of_ble_eq_true rfl)

theorem wdX2_requireTimes_x37a : Cond.classLink RX2 37 "java/lang/IllegalArgumentException" ∈ wsX2_requireTimes := by decide +kernel
theorem wdX2_requireTimes_x37b : Cond.initialized "java/lang/IllegalArgumentException" ∈ wsX2_requireTimes := by decide +kernel
theorem wdX2_requireTimes_at41 : ∀ w ∈ (vx_atS RX2 41 "java/lang/IllegalArgumentException" ["java/lang/RuntimeException", "java/lang/Exception"]).filter goodWord, w ∈ wsX2_requireTimes := by decide +kernel
set_option maxHeartbeats 4000000 in
set_option maxRecDepth 100000 in
theorem c_X2_requireTimes_x (γ : xG) (l : Launch) (hlt : l.stackTraces = false) (sa : Nat → Nat) (q0 q1 q2 q3 q4 kc : Nat) (td : Int32) (x : Int32) (hxb : xInB x (-50) 50 = false) : xX γ l yX2_requireTimes wsX2_requireTimes ({ frames := 6, cells := 1, slots := 6, locals := 82 } : Room) [.ref q0, .int x] sa ([xO q0 2 [.ref q1, .ref q4, .int (nI kc), .int td, .ref q2, .ref q3]]) "java/lang/IllegalArgumentException" := by
  refine xX.of (cc := cX2_requireTimes) (maxL := 2) (ret := none) (by decide +kernel) rfl (Nat.le_of_ble_eq_true rfl) ?_
  intro p e s m below meth c hx hb hr hml hts hown hlocks hP hK hE ht ls hl
  generalize hargs : ([.ref q0, .int x] : List Value).toArray = args at hts ⊢
  obtain ⟨Q, hQ⟩ : ∃ Q9, Q9 = vx_MQ below (fun _ _ _ _ => False) (xXQ "java/lang/IllegalArgumentException") args s 1 6 (fun _ => False) := ⟨_, rfl⟩
  rw [← hQ]
  have hown : s.vm.findClass RX2 = some m.cls := hown
  have hl : lv_has ls 2 [(0, .ref q0), (1, .int x)] := hl
  refine lv_iload_n hx hb dX2_requireTimes_0 rfl (lv_at hl 1 rfl) ?_
  refine lv_bipush (v := (-50)) hx hb dX2_requireTimes_1 (by decide) ?_
  refine lv_icmp_lt (tgt := 12) hx hb dX2_requireTimes_3 (by decide) (fun c4 => ?_) (fun c4 => ?_)
  · subst hQ
    exact xX_throw (ik := 37) (is := 228) (ic := 41) (rest := []) hx hb hlt hown (by decide +kernel) hts wdX2_requireTimes_x37a wdX2_requireTimes_x37b hE.2.1.times wdX2_requireTimes_at41 vxat41_bad (xBadA hE.1) vxat41_good hE hml hl.1 dX2_requireTimes_12 dX2_requireTimes_15 dX2_requireTimes_16 dX2_requireTimes_18 dX2_requireTimes_21 ht hlocks (Nat.le_of_ble_eq_true rfl) (Nat.le_of_ble_eq_true rfl) (Nat.le_of_ble_eq_true rfl) (Nat.le_of_ble_eq_true rfl)
  · refine lv_iload_n hx hb dX2_requireTimes_6 rfl (lv_at hl 1 rfl) ?_
    refine lv_bipush (v := 50) hx hb dX2_requireTimes_7 (by decide) ?_
    refine lv_icmp_le (tgt := 22) hx hb dX2_requireTimes_9 (by decide) (fun c => absurd c (xin_bad hxb c4)) (fun _ => ?_)
    subst hQ
    exact xX_throw (ik := 37) (is := 228) (ic := 41) (rest := []) hx hb hlt hown (by decide +kernel) hts wdX2_requireTimes_x37a wdX2_requireTimes_x37b hE.2.1.times wdX2_requireTimes_at41 vxat41_bad (xBadA hE.1) vxat41_good hE hml hl.1 dX2_requireTimes_12 dX2_requireTimes_15 dX2_requireTimes_16 dX2_requireTimes_18 dX2_requireTimes_21 ht hlocks (Nat.le_of_ble_eq_true rfl) (Nat.le_of_ble_eq_true rfl) (Nat.le_of_ble_eq_true rfl) (Nat.le_of_ble_eq_true rfl)

theorem wdX2_requireWayTo_x80a : Cond.classLink RX2 80 "java/lang/IllegalStateException" ∈ wsX2_requireWayTo := by decide +kernel
theorem wdX2_requireWayTo_x80b : Cond.initialized "java/lang/IllegalStateException" ∈ wsX2_requireWayTo := by decide +kernel
theorem wdX2_requireWayTo_at84 : ∀ w ∈ (vx_atS RX2 84 "java/lang/IllegalStateException" ["java/lang/RuntimeException", "java/lang/Exception"]).filter goodWord, w ∈ wsX2_requireWayTo := by decide +kernel
theorem vxat84_bad : ∀ w ∈ (vx_atS RX2 84 "java/lang/IllegalStateException" ["java/lang/RuntimeException", "java/lang/Exception"]).filter (fun w => !goodWord w), w ∈ [Cond.castable "java/lang/IllegalStateException" "java/lang/IllegalStateException", Cond.declares ⟨"java/lang/RuntimeException", "<init>", "(Ljava/lang/String;)V"⟩, Cond.declares ⟨"java/lang/Exception", "<init>", "(Ljava/lang/String;)V"⟩, Cond.declares ⟨"java/lang/Throwable", "<init>", "(Ljava/lang/String;)V"⟩] := by decide +kernel
theorem vxat84_good : ∀ w ∈ Cond.classLink RX2 80 "java/lang/IllegalStateException" :: Cond.initialized "java/lang/IllegalStateException" :: vx_atS RX2 84 "java/lang/IllegalStateException" ["java/lang/RuntimeException", "java/lang/Exception"], vx_ot w = true := by decide +kernel
set_option maxHeartbeats 4000000 in
set_option maxRecDepth 100000 in
theorem c_X2_requireWayTo_x (γ : xG) (l : Launch) (hlt : l.stackTraces = false) (sa : Nat → Nat) (q0 q1 q2 q3 q4 kc : Nat) (td : Int32) (a1 n : Nat) (f : xRow) (qk ak : Nat) (g : xRow) (hn0 : 3 ≤ n) (hn1 : n ≤ 12) (hcb : xCB n f g = false) : xX γ l yX2_requireWayTo wsX2_requireWayTo ({ frames := 6, cells := 1, slots := 6, locals := 82 } : Room) [.ref q0, .ref qk] sa ([xO q0 2 [.ref q1, .ref q4, .int (nI kc), .int td, .ref q2, .ref q3], xO q1 0 [.ref a1, .int (nI n)], xA γ a1 12 f, xO qk 0 [.ref ak, .int (nI n)], xA γ ak 12 g]) "java/lang/IllegalStateException" := by
  refine xX.of (cc := cX2_requireWayTo) (maxL := 2) (ret := none) (by decide +kernel) rfl (Nat.le_of_ble_eq_true rfl) ?_
  intro p e s m below meth c hx hb hr hml hts hown hlocks hP hK hE ht ls hl
  generalize hargs : ([.ref q0, .ref qk] : List Value).toArray = args at hts ⊢
  obtain ⟨Q, hQ⟩ : ∃ Q9, Q9 = vx_MQ below (fun _ _ _ _ => False) (xXQ "java/lang/IllegalStateException") args s 1 6 (fun _ => False) := ⟨_, rfl⟩
  rw [← hQ]
  have hown : s.vm.findClass RX2 = some m.cls := hown
  have hl : lv_has ls 2 [(0, .ref q0), (1, .ref qk)] := hl
  refine lv_aload_n hx hb dX2_requireWayTo_0 rfl (lv_at hl 0 rfl) ?_
  refine va_get (D := γ.1) (ci := 2) (v := .ref q1) (C := RX2) (T := TX2) (N := 6) hx hb hts iwX2_requireWayTo_2 hown hK hP 0 rfl rfl 0 (by decide) (hts _ flX2_requireWayTo_10) (fun _ h9 => h9) rfl dX2_requireWayTo_1 ?_
  refine lv_aload_n hx hb dX2_requireWayTo_4 rfl (lv_at hl 1 rfl) ?_
  refine xVR (q0 := 1) (ci := 0) (As := [.ref qk]) (rest := []) (stk := [.int (if xCB n f g = true then 1 else 0)]) ⟨hx, hb, hml, hown, hts⟩ (c_X0_canBecome γ l q1 a1 qk ak n f g (by omega) (by omega)) (cwV 1 hts gX2_requireWayTo_X0_canBecome rfl rfl rfl hdv_X0_canBecome ⟨(Nat.le_of_ble_eq_true rfl), (Nat.le_of_ble_eq_true rfl)⟩) hK hP [1, 2, 3, 4] rfl rfl rfl rfl hl.1 rfl (Nat.le_of_ble_eq_true rfl) dX2_requireWayTo_5 ⟨(Nat.le_of_ble_eq_true rfl), (Nat.le_of_ble_eq_true rfl)⟩ rfl ?_
  refine lv_if_ne (tgt := 21) hx hb dX2_requireWayTo_8 (by decide) (fun c => absurd ((xB_0 hcb).symm) c) (fun _ => ?_)
  subst hQ
  exact xX_throw (ik := 80) (is := 230) (ic := 84) (rest := []) hx hb hlt hown (by decide +kernel) hts wdX2_requireWayTo_x80a wdX2_requireWayTo_x80b hE.2.1.way wdX2_requireWayTo_at84 vxat84_bad (xBadS hE.1) vxat84_good hE hml hl.1 dX2_requireWayTo_11 dX2_requireWayTo_14 dX2_requireWayTo_15 dX2_requireWayTo_17 dX2_requireWayTo_20 ht hlocks (Nat.le_of_ble_eq_true rfl) (Nat.le_of_ble_eq_true rfl) (Nat.le_of_ble_eq_true rfl) (Nat.le_of_ble_eq_true rfl)

theorem wdX2_keptRing_x221a : Cond.classLink RX2 221 "java/lang/IndexOutOfBoundsException" ∈ wsX2_keptRing := by decide +kernel
theorem wdX2_keptRing_x221b : Cond.initialized "java/lang/IndexOutOfBoundsException" ∈ wsX2_keptRing := by decide +kernel
theorem wdX2_keptRing_at225 : ∀ w ∈ (vx_atS RX2 225 "java/lang/IndexOutOfBoundsException" ["java/lang/RuntimeException", "java/lang/Exception"]).filter goodWord, w ∈ wsX2_keptRing := by decide +kernel
set_option maxHeartbeats 4000000 in
set_option maxRecDepth 100000 in
theorem c_X2_keptRing_x (γ : xG) (l : Launch) (hlt : l.stackTraces = false) (sa : Nat → Nat) (q0 q1 q2 q3 q4 kc : Nat) (td : Int32) (kq : Nat → Nat) (x : Int32) (hkc : kc ≤ 6) (hxb : xInB x 0 (nI kc - 1) = false) : xX γ l yX2_keptRing wsX2_keptRing ({ frames := 6, cells := 1, slots := 6, locals := 82 } : Room) [.ref q0, .int x] sa ([xO q0 2 [.ref q1, .ref q4, .int (nI kc), .int td, .ref q2, .ref q3], xQ γ q4 6 (fun t9 => some (kq t9))]) "java/lang/IndexOutOfBoundsException" := by
  refine xX.of (cc := cX2_keptRing) (maxL := 3) (ret := (some (.object "RingSeesaw$Ring"))) (by decide +kernel) rfl (Nat.le_of_ble_eq_true rfl) ?_
  intro p e s m below meth c hx hb hr hml hts hown hlocks hP hK hE ht ls hl
  generalize hargs : ([.ref q0, .int x] : List Value).toArray = args at hts ⊢
  obtain ⟨Q, hQ⟩ : ∃ Q9, Q9 = vx_MQ below (fun _ _ _ _ => False) (xXQ "java/lang/IndexOutOfBoundsException") args s 1 6 (fun _ => False) := ⟨_, rfl⟩
  rw [← hQ]
  have hown : s.vm.findClass RX2 = some m.cls := hown
  have hl : lv_has ls 3 [(0, .ref q0), (1, .int x)] := hl
  refine lv_iload_n hx hb dX2_keptRing_0 rfl (lv_at hl 1 rfl) ?_
  refine lv_if_lt (tgt := 21) hx hb dX2_keptRing_1 (by decide) (fun c1 => ?_) (fun c1 => ?_)
  · subst hQ
    exact xX_throw (ik := 221) (is := 232) (ic := 225) (rest := []) hx hb hlt hown (by decide +kernel) hts wdX2_keptRing_x221a wdX2_keptRing_x221b hE.2.1.target wdX2_keptRing_at225 vxat225_bad (xBadI hE.1) vxat225_good hE hml hl.1 dX2_keptRing_21 dX2_keptRing_24 dX2_keptRing_25 dX2_keptRing_27 dX2_keptRing_30 ht hlocks (Nat.le_of_ble_eq_true rfl) (Nat.le_of_ble_eq_true rfl) (Nat.le_of_ble_eq_true rfl) (Nat.le_of_ble_eq_true rfl)
  · refine lv_iload_n hx hb dX2_keptRing_4 rfl (lv_at hl 1 rfl) ?_
    refine lv_aload_n hx hb dX2_keptRing_5 rfl (lv_at hl 0 rfl) ?_
    refine va_get (D := γ.1) (ci := 2) (v := .int (nI kc)) (C := RX2) (T := TX2) (N := 6) hx hb hts iwX2_keptRing_2 hown hK hP 0 rfl rfl 2 (by decide) (hts _ flX2_keptRing_20) (fun _ h9 => h9) rfl dX2_keptRing_6 ?_
    refine lv_icmp_ge (tgt := 21) hx hb dX2_keptRing_9 (by decide) (fun _ => ?_) (fun c => absurd (Int32.not_lt.mp (xpl_bad (n := kc) (by omega) hxb c1)) c)
    subst hQ
    exact xX_throw (ik := 221) (is := 232) (ic := 225) (rest := []) hx hb hlt hown (by decide +kernel) hts wdX2_keptRing_x221a wdX2_keptRing_x221b hE.2.1.target wdX2_keptRing_at225 vxat225_bad (xBadI hE.1) vxat225_good hE hml hl.1 dX2_keptRing_21 dX2_keptRing_24 dX2_keptRing_25 dX2_keptRing_27 dX2_keptRing_30 ht hlocks (Nat.le_of_ble_eq_true rfl) (Nat.le_of_ble_eq_true rfl) (Nat.le_of_ble_eq_true rfl) (Nat.le_of_ble_eq_true rfl)

theorem wdX2_lay_x37a : Cond.classLink RX2 37 "java/lang/IllegalArgumentException" ∈ wsX2_lay := by decide +kernel
theorem wdX2_lay_x37b : Cond.initialized "java/lang/IllegalArgumentException" ∈ wsX2_lay := by decide +kernel
theorem wdX2_lay_at41 : ∀ w ∈ (vx_atS RX2 41 "java/lang/IllegalArgumentException" ["java/lang/RuntimeException", "java/lang/Exception"]).filter goodWord, w ∈ wsX2_lay := by decide +kernel
set_option maxHeartbeats 4000000 in
set_option maxRecDepth 100000 in
theorem c_X2_lay_x (γ : xG) (l : Launch) (hlt : l.stackTraces = false) (sa : Nat → Nat) (q0 q1 q2 q3 q4 kc : Nat) (td : Int32) (x : Int32) (hxb : xInB x 3 12 = false) : xX γ l yX2_lay wsX2_lay ({ frames := 6, cells := 1, slots := 6, locals := 82 } : Room) [.ref q0, .int x] sa ([xO q0 2 [.ref q1, .ref q4, .int (nI kc), .int td, .ref q2, .ref q3]]) "java/lang/IllegalArgumentException" := by
  refine xX.of (cc := cX2_lay) (maxL := 3) (ret := (some .int)) (by decide +kernel) rfl (Nat.le_of_ble_eq_true rfl) ?_
  intro p e s m below meth c hx hb hr hml hts hown hlocks hP hK hE ht ls hl
  generalize hargs : ([.ref q0, .int x] : List Value).toArray = args at hts ⊢
  obtain ⟨Q, hQ⟩ : ∃ Q9, Q9 = vx_MQ below (fun _ _ _ _ => False) (xXQ "java/lang/IllegalArgumentException") args s 1 6 (fun _ => False) := ⟨_, rfl⟩
  rw [← hQ]
  have hown : s.vm.findClass RX2 = some m.cls := hown
  have hl : lv_has ls 3 [(0, .ref q0), (1, .int x)] := hl
  refine lv_iload_n hx hb dX2_lay_0 rfl (lv_at hl 1 rfl) ?_
  refine lv_iconst (v := 3) hx hb dX2_lay_1 (by decide) ?_
  refine lv_icmp_lt (tgt := 11) hx hb dX2_lay_2 (by decide) (fun c2 => ?_) (fun c2 => ?_)
  · subst hQ
    exact xX_throw (ik := 37) (is := 39) (ic := 41) (rest := []) hx hb hlt hown (by decide +kernel) hts wdX2_lay_x37a wdX2_lay_x37b hE.2.1.lay wdX2_lay_at41 vxat41_bad (xBadA hE.1) vxat41_good hE hml hl.1 dX2_lay_11 dX2_lay_14 dX2_lay_15 dX2_lay_17 dX2_lay_20 ht hlocks (Nat.le_of_ble_eq_true rfl) (Nat.le_of_ble_eq_true rfl) (Nat.le_of_ble_eq_true rfl) (Nat.le_of_ble_eq_true rfl)
  · refine lv_iload_n hx hb dX2_lay_5 rfl (lv_at hl 1 rfl) ?_
    refine lv_bipush (v := 12) hx hb dX2_lay_6 (by decide) ?_
    refine lv_icmp_le (tgt := 21) hx hb dX2_lay_8 (by decide) (fun c => absurd c (xin_bad hxb c2)) (fun _ => ?_)
    subst hQ
    exact xX_throw (ik := 37) (is := 39) (ic := 41) (rest := []) hx hb hlt hown (by decide +kernel) hts wdX2_lay_x37a wdX2_lay_x37b hE.2.1.lay wdX2_lay_at41 vxat41_bad (xBadA hE.1) vxat41_good hE hml hl.1 dX2_lay_11 dX2_lay_14 dX2_lay_15 dX2_lay_17 dX2_lay_20 ht hlocks (Nat.le_of_ble_eq_true rfl) (Nat.le_of_ble_eq_true rfl) (Nat.le_of_ble_eq_true rfl) (Nat.le_of_ble_eq_true rfl)

theorem wdX2_settle_x37a : Cond.classLink RX2 37 "java/lang/IllegalArgumentException" ∈ wsX2_settle := by decide +kernel
theorem wdX2_settle_x37b : Cond.initialized "java/lang/IllegalArgumentException" ∈ wsX2_settle := by decide +kernel
theorem wdX2_settle_at41 : ∀ w ∈ (vx_atS RX2 41 "java/lang/IllegalArgumentException" ["java/lang/RuntimeException", "java/lang/Exception"]).filter goodWord, w ∈ wsX2_settle := by decide +kernel
set_option maxHeartbeats 4000000 in
set_option maxRecDepth 100000 in
theorem c_X2_settle_x (γ : xG) (l : Launch) (hlt : l.stackTraces = false) (sa : Nat → Nat) (q0 q1 q2 q3 q4 kc : Nat) (td : Int32) (x : Int32) (hxb : xInB x 1 200 = false) : xX γ l yX2_settle wsX2_settle ({ frames := 6, cells := 1, slots := 6, locals := 82 } : Room) [.ref q0, .int x] sa ([xO q0 2 [.ref q1, .ref q4, .int (nI kc), .int td, .ref q2, .ref q3]]) "java/lang/IllegalArgumentException" := by
  refine xX.of (cc := cX2_settle) (maxL := 3) (ret := (some .int)) (by decide +kernel) rfl (Nat.le_of_ble_eq_true rfl) ?_
  intro p e s m below meth c hx hb hr hml hts hown hlocks hP hK hE ht ls hl
  generalize hargs : ([.ref q0, .int x] : List Value).toArray = args at hts ⊢
  obtain ⟨Q, hQ⟩ : ∃ Q9, Q9 = vx_MQ below (fun _ _ _ _ => False) (xXQ "java/lang/IllegalArgumentException") args s 1 6 (fun _ => False) := ⟨_, rfl⟩
  rw [← hQ]
  have hown : s.vm.findClass RX2 = some m.cls := hown
  have hl : lv_has ls 3 [(0, .ref q0), (1, .int x)] := hl
  refine lv_iload_n hx hb dX2_settle_0 rfl (lv_at hl 1 rfl) ?_
  refine lv_iconst (v := 1) hx hb dX2_settle_1 (by decide) ?_
  refine lv_icmp_lt (tgt := 12) hx hb dX2_settle_2 (by decide) (fun c2 => ?_) (fun c2 => ?_)
  · subst hQ
    exact xX_throw (ik := 37) (is := 93) (ic := 41) (rest := []) hx hb hlt hown (by decide +kernel) hts wdX2_settle_x37a wdX2_settle_x37b hE.2.1.settle wdX2_settle_at41 vxat41_bad (xBadA hE.1) vxat41_good hE hml hl.1 dX2_settle_12 dX2_settle_15 dX2_settle_16 dX2_settle_18 dX2_settle_21 ht hlocks (Nat.le_of_ble_eq_true rfl) (Nat.le_of_ble_eq_true rfl) (Nat.le_of_ble_eq_true rfl) (Nat.le_of_ble_eq_true rfl)
  · refine lv_iload_n hx hb dX2_settle_5 rfl (lv_at hl 1 rfl) ?_
    refine lv_sipush (v := 200) hx hb dX2_settle_6 (by decide) ?_
    refine lv_icmp_le (tgt := 22) hx hb dX2_settle_9 (by decide) (fun c => absurd c (xin_bad hxb c2)) (fun _ => ?_)
    subst hQ
    exact xX_throw (ik := 37) (is := 93) (ic := 41) (rest := []) hx hb hlt hown (by decide +kernel) hts wdX2_settle_x37a wdX2_settle_x37b hE.2.1.settle wdX2_settle_at41 vxat41_bad (xBadA hE.1) vxat41_good hE hml hl.1 dX2_settle_12 dX2_settle_15 dX2_settle_16 dX2_settle_18 dX2_settle_21 ht hlocks (Nat.le_of_ble_eq_true rfl) (Nat.le_of_ble_eq_true rfl) (Nat.le_of_ble_eq_true rfl) (Nat.le_of_ble_eq_true rfl)

theorem wdX2_keep_x80a : Cond.classLink RX2 80 "java/lang/IllegalStateException" ∈ wsX2_keep := by decide +kernel
theorem wdX2_keep_x80b : Cond.initialized "java/lang/IllegalStateException" ∈ wsX2_keep := by decide +kernel
theorem wdX2_keep_at84 : ∀ w ∈ (vx_atS RX2 84 "java/lang/IllegalStateException" ["java/lang/RuntimeException", "java/lang/Exception"]).filter goodWord, w ∈ wsX2_keep := by decide +kernel
set_option maxHeartbeats 4000000 in
set_option maxRecDepth 100000 in
theorem c_X2_keep_x (γ : xG) (l : Launch) (hlt : l.stackTraces = false) (sa : Nat → Nat) (q0 q1 q2 q3 q4 kc : Nat) (td : Int32) (hk : kc = 6) : xX γ l yX2_keep wsX2_keep ({ frames := 6, cells := 1, slots := 6, locals := 82 } : Room) [.ref q0] sa ([xO q0 2 [.ref q1, .ref q4, .int (nI kc), .int td, .ref q2, .ref q3]]) "java/lang/IllegalStateException" := by
  refine xX.of (cc := cX2_keep) (maxL := 2) (ret := (some .int)) (by decide +kernel) rfl (Nat.le_of_ble_eq_true rfl) ?_
  intro p e s m below meth c hx hb hr hml hts hown hlocks hP hK hE ht ls hl
  generalize hargs : ([.ref q0] : List Value).toArray = args at hts ⊢
  obtain ⟨Q, hQ⟩ : ∃ Q9, Q9 = vx_MQ below (fun _ _ _ _ => False) (xXQ "java/lang/IllegalStateException") args s 1 6 (fun _ => False) := ⟨_, rfl⟩
  rw [← hQ]
  have hown : s.vm.findClass RX2 = some m.cls := hown
  have hl : lv_has ls 2 [(0, .ref q0)] := hl
  refine lv_aload_n hx hb dX2_keep_0 rfl (lv_at hl 0 rfl) ?_
  refine va_get (D := γ.1) (ci := 2) (v := .int (nI kc)) (C := RX2) (T := TX2) (N := 6) hx hb hts iwX2_keep_2 hown hK hP 0 rfl rfl 2 (by decide) (hts _ flX2_keep_20) (fun _ h9 => h9) rfl dX2_keep_1 ?_
  refine lv_bipush (v := 6) hx hb dX2_keep_4 (by decide) ?_
  refine lv_icmp_lt (tgt := 19) hx hb dX2_keep_6 (by decide) (fun c => absurd c (nI_nlt (a := kc) (b := 6) (by omega) (by omega))) (fun _ => ?_)
  subst hQ
  exact xX_throw (ik := 80) (is := 82) (ic := 84) (rest := []) hx hb hlt hown (by decide +kernel) hts wdX2_keep_x80a wdX2_keep_x80b hE.2.1.keep wdX2_keep_at84 vxat84_bad (xBadS hE.1) vxat84_good hE hml hl.1 dX2_keep_9 dX2_keep_12 dX2_keep_13 dX2_keep_15 dX2_keep_18 ht hlocks (Nat.le_of_ble_eq_true rfl) (Nat.le_of_ble_eq_true rfl) (Nat.le_of_ble_eq_true rfl) (Nat.le_of_ble_eq_true rfl)

set_option maxHeartbeats 4000000 in
set_option maxRecDepth 100000 in
theorem c_X2_put_x1 (γ : xG) (l : Launch) (hlt : l.stackTraces = false) (sa : Nat → Nat) (q0 q1 q2 q3 q4 kc : Nat) (td : Int32) (a1 n : Nat) (f : xRow) (y x : Int32) (hn0 : 3 ≤ n) (hn1 : n ≤ 12) (hxb : xInB y 0 (nI n - 1) = false) : xX γ l yX2_put wsX2_put ({ frames := 7, cells := 1, slots := 6, locals := 103 } : Room) [.ref q0, .int y, .int x] sa ([xO q0 2 [.ref q1, .ref q4, .int (nI kc), .int td, .ref q2, .ref q3], xO q1 0 [.ref a1, .int (nI n)], xA γ a1 12 f]) "java/lang/IndexOutOfBoundsException" := by
  refine xX.of (cc := cX2_put) (maxL := 4) (ret := (some .int)) (by decide +kernel) rfl (Nat.le_of_ble_eq_true rfl) ?_
  intro p e s m below meth c hx hb hr hml hts hown hlocks hP hK hE ht ls hl
  generalize hargs : ([.ref q0, .int y, .int x] : List Value).toArray = args at hts ⊢
  obtain ⟨Q, hQ⟩ : ∃ Q9, Q9 = vx_MQ below (fun _ _ _ _ => False) (xXQ "java/lang/IndexOutOfBoundsException") args s 1 6 (fun _ => False) := ⟨_, rfl⟩
  rw [← hQ]
  have hown : s.vm.findClass RX2 = some m.cls := hown
  have hl : lv_has ls 4 [(0, .ref q0), (1, .int y), (2, .int x)] := hl
  refine lv_aload_n hx hb dX2_put_0 rfl (lv_at hl 0 rfl) ?_
  refine lv_iload_n hx hb dX2_put_1 rfl (lv_at hl 1 rfl) ?_
  refine xXV (q0 := 0) (ci := 2) (As := [.int y]) (rest := []) ⟨hx, hb, hml, hown, hts⟩ (c_X2_requirePlace_x γ l hlt sa q0 q1 q2 q3 q4 kc td a1 n f y hn0 hn1 hxb) (cwV 1 hts gX2_put_X2_requirePlace rfl rfl rfl hdv_X2_requirePlace ⟨(Nat.le_of_ble_eq_true rfl), (Nat.le_of_ble_eq_true rfl)⟩) hK hP (fun U hU hW => hE.warm hW hU) [0, 1, 2] rfl rfl rfl rfl hl.1 rfl (Nat.le_of_ble_eq_true rfl) dX2_put_2 ⟨(Nat.le_of_ble_eq_true rfl), (Nat.le_of_ble_eq_true rfl)⟩ (fun H1 ce9 q9 hz9 hk9 hce hcv hcl => ?_)
  subst hQ
  exact vx_out (E := "java/lang/IndexOutOfBoundsException") (fun x hx => (ht x hx).elim) hlocks hce hcv hcl (fun t ht9 _ => ⟨rfl, by rw [ht9]; exact hz9, by rw [ht9]; exact hk9⟩) (fun _ h => nomatch h) (Nat.le_refl _) (Nat.le_refl _)

set_option maxHeartbeats 4000000 in
set_option maxRecDepth 100000 in
theorem c_X2_put_x2 (γ : xG) (l : Launch) (hlt : l.stackTraces = false) (sa : Nat → Nat) (q0 q1 q2 q3 q4 kc : Nat) (td : Int32) (a1 n : Nat) (f : xRow) (k : Nat) (x : Int32) (hn0 : 3 ≤ n) (hn1 : n ≤ 12) (hk : k < n) (hxb : xInB x (-999) 999 = false) : xX γ l yX2_put wsX2_put ({ frames := 7, cells := 1, slots := 6, locals := 103 } : Room) [.ref q0, .int (nI k), .int x] sa ([xO q0 2 [.ref q1, .ref q4, .int (nI kc), .int td, .ref q2, .ref q3], xO q1 0 [.ref a1, .int (nI n)], xA γ a1 12 f]) "java/lang/IllegalArgumentException" := by
  refine xX.of (cc := cX2_put) (maxL := 4) (ret := (some .int)) (by decide +kernel) rfl (Nat.le_of_ble_eq_true rfl) ?_
  intro p e s m below meth c hx hb hr hml hts hown hlocks hP hK hE ht ls hl
  generalize hargs : ([.ref q0, .int (nI k), .int x] : List Value).toArray = args at hts ⊢
  obtain ⟨Q, hQ⟩ : ∃ Q9, Q9 = vx_MQ below (fun _ _ _ _ => False) (xXQ "java/lang/IllegalArgumentException") args s 1 6 (fun _ => False) := ⟨_, rfl⟩
  rw [← hQ]
  have hown : s.vm.findClass RX2 = some m.cls := hown
  have hl : lv_has ls 4 [(0, .ref q0), (1, .int (nI k)), (2, .int x)] := hl
  refine lv_aload_n hx hb dX2_put_0 rfl (lv_at hl 0 rfl) ?_
  refine lv_iload_n hx hb dX2_put_1 rfl (lv_at hl 1 rfl) ?_
  refine xVR (q0 := 0) (ci := 2) (As := [.int (nI k)]) (rest := []) (stk := []) ⟨hx, hb, hml, hown, hts⟩ (c_X2_requirePlace γ l q0 q1 q2 q3 q4 kc td a1 n f k (by omega) (by omega) (by omega)) (cwV 1 hts gX2_put_X2_requirePlace rfl rfl rfl hdv_X2_requirePlace ⟨(Nat.le_of_ble_eq_true rfl), (Nat.le_of_ble_eq_true rfl)⟩) hK hP [0, 1, 2] rfl rfl rfl rfl hl.1 rfl (Nat.le_of_ble_eq_true rfl) dX2_put_2 ⟨(Nat.le_of_ble_eq_true rfl), (Nat.le_of_ble_eq_true rfl)⟩ rfl ?_
  refine lv_aload_n hx hb dX2_put_5 rfl (lv_at hl 0 rfl) ?_
  refine lv_iload_n hx hb dX2_put_6 rfl (lv_at hl 2 rfl) ?_
  refine xXV (q0 := 0) (ci := 2) (As := [.int x]) (rest := []) ⟨hx, hb, hml, hown, hts⟩ (c_X2_requireNumber_x γ l hlt sa q0 q1 q2 q3 q4 kc td x hxb) (cwV 1 hts gX2_put_X2_requireNumber rfl rfl rfl hdv_X2_requireNumber ⟨(Nat.le_of_ble_eq_true rfl), (Nat.le_of_ble_eq_true rfl)⟩) hK hP (fun U hU hW => hE.warm hW hU) [0] rfl rfl rfl rfl hl.1 rfl (Nat.le_of_ble_eq_true rfl) dX2_put_7 ⟨(Nat.le_of_ble_eq_true rfl), (Nat.le_of_ble_eq_true rfl)⟩ (fun H1 ce9 q9 hz9 hk9 hce hcv hcl => ?_)
  subst hQ
  exact vx_out (E := "java/lang/IllegalArgumentException") (fun x hx => (ht x hx).elim) hlocks hce hcv hcl (fun t ht9 _ => ⟨rfl, by rw [ht9]; exact hz9, by rw [ht9]; exact hk9⟩) (fun _ h => nomatch h) (Nat.le_refl _) (Nat.le_refl _)

set_option maxHeartbeats 4000000 in
set_option maxRecDepth 100000 in
theorem c_X2_tip_x1 (γ : xG) (l : Launch) (hlt : l.stackTraces = false) (sa : Nat → Nat) (q0 q1 q2 q3 q4 kc : Nat) (td : Int32) (a1 n : Nat) (f : xRow) (y x : Int32) (hn0 : 3 ≤ n) (hn1 : n ≤ 12) (hxb : xInB y 0 (nI n - 1) = false) : xX γ l yX2_tip wsX2_tip ({ frames := 7, cells := 1, slots := 6, locals := 103 } : Room) [.ref q0, .int y, .int x] sa ([xO q0 2 [.ref q1, .ref q4, .int (nI kc), .int td, .ref q2, .ref q3], xO q1 0 [.ref a1, .int (nI n)], xA γ a1 12 f]) "java/lang/IndexOutOfBoundsException" := by
  refine xX.of (cc := cX2_tip) (maxL := 3) (ret := (some .int)) (by decide +kernel) rfl (Nat.le_of_ble_eq_true rfl) ?_
  intro p e s m below meth c hx hb hr hml hts hown hlocks hP hK hE ht ls hl
  generalize hargs : ([.ref q0, .int y, .int x] : List Value).toArray = args at hts ⊢
  obtain ⟨Q, hQ⟩ : ∃ Q9, Q9 = vx_MQ below (fun _ _ _ _ => False) (xXQ "java/lang/IndexOutOfBoundsException") args s 1 6 (fun _ => False) := ⟨_, rfl⟩
  rw [← hQ]
  have hown : s.vm.findClass RX2 = some m.cls := hown
  have hl : lv_has ls 3 [(0, .ref q0), (1, .int y), (2, .int x)] := hl
  refine lv_aload_n hx hb dX2_tip_0 rfl (lv_at hl 0 rfl) ?_
  refine lv_iload_n hx hb dX2_tip_1 rfl (lv_at hl 1 rfl) ?_
  refine xXV (q0 := 0) (ci := 2) (As := [.int y]) (rest := []) ⟨hx, hb, hml, hown, hts⟩ (c_X2_requirePlace_x γ l hlt sa q0 q1 q2 q3 q4 kc td a1 n f y hn0 hn1 hxb) (cwV 1 hts gX2_tip_X2_requirePlace rfl rfl rfl hdv_X2_requirePlace ⟨(Nat.le_of_ble_eq_true rfl), (Nat.le_of_ble_eq_true rfl)⟩) hK hP (fun U hU hW => hE.warm hW hU) [0, 1, 2] rfl rfl rfl rfl hl.1 rfl (Nat.le_of_ble_eq_true rfl) dX2_tip_2 ⟨(Nat.le_of_ble_eq_true rfl), (Nat.le_of_ble_eq_true rfl)⟩ (fun H1 ce9 q9 hz9 hk9 hce hcv hcl => ?_)
  subst hQ
  exact vx_out (E := "java/lang/IndexOutOfBoundsException") (fun x hx => (ht x hx).elim) hlocks hce hcv hcl (fun t ht9 _ => ⟨rfl, by rw [ht9]; exact hz9, by rw [ht9]; exact hk9⟩) (fun _ h => nomatch h) (Nat.le_refl _) (Nat.le_refl _)

set_option maxHeartbeats 4000000 in
set_option maxRecDepth 100000 in
theorem c_X2_tip_x2 (γ : xG) (l : Launch) (hlt : l.stackTraces = false) (sa : Nat → Nat) (q0 q1 q2 q3 q4 kc : Nat) (td : Int32) (a1 n : Nat) (f : xRow) (k : Nat) (x : Int32) (hn0 : 3 ≤ n) (hn1 : n ≤ 12) (hk : k < n) (hxb : xInB x (-50) 50 = false) : xX γ l yX2_tip wsX2_tip ({ frames := 7, cells := 1, slots := 6, locals := 103 } : Room) [.ref q0, .int (nI k), .int x] sa ([xO q0 2 [.ref q1, .ref q4, .int (nI kc), .int td, .ref q2, .ref q3], xO q1 0 [.ref a1, .int (nI n)], xA γ a1 12 f]) "java/lang/IllegalArgumentException" := by
  refine xX.of (cc := cX2_tip) (maxL := 3) (ret := (some .int)) (by decide +kernel) rfl (Nat.le_of_ble_eq_true rfl) ?_
  intro p e s m below meth c hx hb hr hml hts hown hlocks hP hK hE ht ls hl
  generalize hargs : ([.ref q0, .int (nI k), .int x] : List Value).toArray = args at hts ⊢
  obtain ⟨Q, hQ⟩ : ∃ Q9, Q9 = vx_MQ below (fun _ _ _ _ => False) (xXQ "java/lang/IllegalArgumentException") args s 1 6 (fun _ => False) := ⟨_, rfl⟩
  rw [← hQ]
  have hown : s.vm.findClass RX2 = some m.cls := hown
  have hl : lv_has ls 3 [(0, .ref q0), (1, .int (nI k)), (2, .int x)] := hl
  refine lv_aload_n hx hb dX2_tip_0 rfl (lv_at hl 0 rfl) ?_
  refine lv_iload_n hx hb dX2_tip_1 rfl (lv_at hl 1 rfl) ?_
  refine xVR (q0 := 0) (ci := 2) (As := [.int (nI k)]) (rest := []) (stk := []) ⟨hx, hb, hml, hown, hts⟩ (c_X2_requirePlace γ l q0 q1 q2 q3 q4 kc td a1 n f k (by omega) (by omega) (by omega)) (cwV 1 hts gX2_tip_X2_requirePlace rfl rfl rfl hdv_X2_requirePlace ⟨(Nat.le_of_ble_eq_true rfl), (Nat.le_of_ble_eq_true rfl)⟩) hK hP [0, 1, 2] rfl rfl rfl rfl hl.1 rfl (Nat.le_of_ble_eq_true rfl) dX2_tip_2 ⟨(Nat.le_of_ble_eq_true rfl), (Nat.le_of_ble_eq_true rfl)⟩ rfl ?_
  refine lv_aload_n hx hb dX2_tip_5 rfl (lv_at hl 0 rfl) ?_
  refine lv_iload_n hx hb dX2_tip_6 rfl (lv_at hl 2 rfl) ?_
  refine xXV (q0 := 0) (ci := 2) (As := [.int x]) (rest := []) ⟨hx, hb, hml, hown, hts⟩ (c_X2_requireTimes_x γ l hlt sa q0 q1 q2 q3 q4 kc td x hxb) (cwV 1 hts gX2_tip_X2_requireTimes rfl rfl rfl hdv_X2_requireTimes ⟨(Nat.le_of_ble_eq_true rfl), (Nat.le_of_ble_eq_true rfl)⟩) hK hP (fun U hU hW => hE.warm hW hU) [0] rfl rfl rfl rfl hl.1 rfl (Nat.le_of_ble_eq_true rfl) dX2_tip_7 ⟨(Nat.le_of_ble_eq_true rfl), (Nat.le_of_ble_eq_true rfl)⟩ (fun H1 ce9 q9 hz9 hk9 hce hcv hcl => ?_)
  subst hQ
  exact vx_out (E := "java/lang/IllegalArgumentException") (fun x hx => (ht x hx).elim) hlocks hce hcv hcl (fun t ht9 _ => ⟨rfl, by rw [ht9]; exact hz9, by rw [ht9]; exact hk9⟩) (fun _ h => nomatch h) (Nat.le_refl _) (Nat.le_refl _)

set_option maxHeartbeats 4000000 in
set_option maxRecDepth 100000 in
theorem c_X2_spreadWith_x1 (γ : xG) (l : Launch) (hlt : l.stackTraces = false) (sa : Nat → Nat) (q0 q1 q2 q3 q4 kc : Nat) (td : Int32) (a1 n : Nat) (f : xRow) (y x : Int32) (hn0 : 3 ≤ n) (hn1 : n ≤ 12) (hxb : xInB y 0 (nI n - 1) = false) : xX γ l yX2_spreadWith wsX2_spreadWith ({ frames := 7, cells := 1, slots := 6, locals := 103 } : Room) [.ref q0, .int y, .int x] sa ([xO q0 2 [.ref q1, .ref q4, .int (nI kc), .int td, .ref q2, .ref q3], xO q1 0 [.ref a1, .int (nI n)], xA γ a1 12 f]) "java/lang/IndexOutOfBoundsException" := by
  refine xX.of (cc := cX2_spreadWith) (maxL := 3) (ret := (some .int)) (by decide +kernel) rfl (Nat.le_of_ble_eq_true rfl) ?_
  intro p e s m below meth c hx hb hr hml hts hown hlocks hP hK hE ht ls hl
  generalize hargs : ([.ref q0, .int y, .int x] : List Value).toArray = args at hts ⊢
  obtain ⟨Q, hQ⟩ : ∃ Q9, Q9 = vx_MQ below (fun _ _ _ _ => False) (xXQ "java/lang/IndexOutOfBoundsException") args s 1 6 (fun _ => False) := ⟨_, rfl⟩
  rw [← hQ]
  have hown : s.vm.findClass RX2 = some m.cls := hown
  have hl : lv_has ls 3 [(0, .ref q0), (1, .int y), (2, .int x)] := hl
  refine lv_aload_n hx hb dX2_spreadWith_0 rfl (lv_at hl 0 rfl) ?_
  refine lv_iload_n hx hb dX2_spreadWith_1 rfl (lv_at hl 1 rfl) ?_
  refine xXV (q0 := 0) (ci := 2) (As := [.int y]) (rest := []) ⟨hx, hb, hml, hown, hts⟩ (c_X2_requirePlace_x γ l hlt sa q0 q1 q2 q3 q4 kc td a1 n f y hn0 hn1 hxb) (cwV 1 hts gX2_spreadWith_X2_requirePlace rfl rfl rfl hdv_X2_requirePlace ⟨(Nat.le_of_ble_eq_true rfl), (Nat.le_of_ble_eq_true rfl)⟩) hK hP (fun U hU hW => hE.warm hW hU) [0, 1, 2] rfl rfl rfl rfl hl.1 rfl (Nat.le_of_ble_eq_true rfl) dX2_spreadWith_2 ⟨(Nat.le_of_ble_eq_true rfl), (Nat.le_of_ble_eq_true rfl)⟩ (fun H1 ce9 q9 hz9 hk9 hce hcv hcl => ?_)
  subst hQ
  exact vx_out (E := "java/lang/IndexOutOfBoundsException") (fun x hx => (ht x hx).elim) hlocks hce hcv hcl (fun t ht9 _ => ⟨rfl, by rw [ht9]; exact hz9, by rw [ht9]; exact hk9⟩) (fun _ h => nomatch h) (Nat.le_refl _) (Nat.le_refl _)

set_option maxHeartbeats 4000000 in
set_option maxRecDepth 100000 in
theorem c_X2_spreadWith_x2 (γ : xG) (l : Launch) (hlt : l.stackTraces = false) (sa : Nat → Nat) (q0 q1 q2 q3 q4 kc : Nat) (td : Int32) (a1 n : Nat) (f : xRow) (k : Nat) (x : Int32) (hn0 : 3 ≤ n) (hn1 : n ≤ 12) (hk : k < n) (hxb : xInB x (-50) 50 = false) : xX γ l yX2_spreadWith wsX2_spreadWith ({ frames := 7, cells := 1, slots := 6, locals := 103 } : Room) [.ref q0, .int (nI k), .int x] sa ([xO q0 2 [.ref q1, .ref q4, .int (nI kc), .int td, .ref q2, .ref q3], xO q1 0 [.ref a1, .int (nI n)], xA γ a1 12 f]) "java/lang/IllegalArgumentException" := by
  refine xX.of (cc := cX2_spreadWith) (maxL := 3) (ret := (some .int)) (by decide +kernel) rfl (Nat.le_of_ble_eq_true rfl) ?_
  intro p e s m below meth c hx hb hr hml hts hown hlocks hP hK hE ht ls hl
  generalize hargs : ([.ref q0, .int (nI k), .int x] : List Value).toArray = args at hts ⊢
  obtain ⟨Q, hQ⟩ : ∃ Q9, Q9 = vx_MQ below (fun _ _ _ _ => False) (xXQ "java/lang/IllegalArgumentException") args s 1 6 (fun _ => False) := ⟨_, rfl⟩
  rw [← hQ]
  have hown : s.vm.findClass RX2 = some m.cls := hown
  have hl : lv_has ls 3 [(0, .ref q0), (1, .int (nI k)), (2, .int x)] := hl
  refine lv_aload_n hx hb dX2_spreadWith_0 rfl (lv_at hl 0 rfl) ?_
  refine lv_iload_n hx hb dX2_spreadWith_1 rfl (lv_at hl 1 rfl) ?_
  refine xVR (q0 := 0) (ci := 2) (As := [.int (nI k)]) (rest := []) (stk := []) ⟨hx, hb, hml, hown, hts⟩ (c_X2_requirePlace γ l q0 q1 q2 q3 q4 kc td a1 n f k (by omega) (by omega) (by omega)) (cwV 1 hts gX2_spreadWith_X2_requirePlace rfl rfl rfl hdv_X2_requirePlace ⟨(Nat.le_of_ble_eq_true rfl), (Nat.le_of_ble_eq_true rfl)⟩) hK hP [0, 1, 2] rfl rfl rfl rfl hl.1 rfl (Nat.le_of_ble_eq_true rfl) dX2_spreadWith_2 ⟨(Nat.le_of_ble_eq_true rfl), (Nat.le_of_ble_eq_true rfl)⟩ rfl ?_
  refine lv_aload_n hx hb dX2_spreadWith_5 rfl (lv_at hl 0 rfl) ?_
  refine lv_iload_n hx hb dX2_spreadWith_6 rfl (lv_at hl 2 rfl) ?_
  refine xXV (q0 := 0) (ci := 2) (As := [.int x]) (rest := []) ⟨hx, hb, hml, hown, hts⟩ (c_X2_requireTimes_x γ l hlt sa q0 q1 q2 q3 q4 kc td x hxb) (cwV 1 hts gX2_spreadWith_X2_requireTimes rfl rfl rfl hdv_X2_requireTimes ⟨(Nat.le_of_ble_eq_true rfl), (Nat.le_of_ble_eq_true rfl)⟩) hK hP (fun U hU hW => hE.warm hW hU) [0] rfl rfl rfl rfl hl.1 rfl (Nat.le_of_ble_eq_true rfl) dX2_spreadWith_7 ⟨(Nat.le_of_ble_eq_true rfl), (Nat.le_of_ble_eq_true rfl)⟩ (fun H1 ce9 q9 hz9 hk9 hce hcv hcl => ?_)
  subst hQ
  exact vx_out (E := "java/lang/IllegalArgumentException") (fun x hx => (ht x hx).elim) hlocks hce hcv hcl (fun t ht9 _ => ⟨rfl, by rw [ht9]; exact hz9, by rw [ht9]; exact hk9⟩) (fun _ h => nomatch h) (Nat.le_refl _) (Nat.le_refl _)

set_option maxHeartbeats 4000000 in
set_option maxRecDepth 100000 in
theorem c_X2_numberAt_x (γ : xG) (l : Launch) (hlt : l.stackTraces = false) (sa : Nat → Nat) (q0 q1 q2 q3 q4 kc : Nat) (td : Int32) (a1 n : Nat) (f : xRow) (x : Int32) (hn0 : 3 ≤ n) (hn1 : n ≤ 12) (hxb : xInB x 0 (nI n - 1) = false) : xX γ l yX2_numberAt wsX2_numberAt ({ frames := 7, cells := 1, slots := 6, locals := 103 } : Room) [.ref q0, .int x] sa ([xO q0 2 [.ref q1, .ref q4, .int (nI kc), .int td, .ref q2, .ref q3], xO q1 0 [.ref a1, .int (nI n)], xA γ a1 12 f]) "java/lang/IndexOutOfBoundsException" := by
  refine xX.of (cc := cX2_numberAt) (maxL := 2) (ret := (some .int)) (by decide +kernel) rfl (Nat.le_of_ble_eq_true rfl) ?_
  intro p e s m below meth c hx hb hr hml hts hown hlocks hP hK hE ht ls hl
  generalize hargs : ([.ref q0, .int x] : List Value).toArray = args at hts ⊢
  obtain ⟨Q, hQ⟩ : ∃ Q9, Q9 = vx_MQ below (fun _ _ _ _ => False) (xXQ "java/lang/IndexOutOfBoundsException") args s 1 6 (fun _ => False) := ⟨_, rfl⟩
  rw [← hQ]
  have hown : s.vm.findClass RX2 = some m.cls := hown
  have hl : lv_has ls 2 [(0, .ref q0), (1, .int x)] := hl
  refine lv_aload_n hx hb dX2_numberAt_0 rfl (lv_at hl 0 rfl) ?_
  refine lv_iload_n hx hb dX2_numberAt_1 rfl (lv_at hl 1 rfl) ?_
  refine xXV (q0 := 0) (ci := 2) (As := [.int x]) (rest := []) ⟨hx, hb, hml, hown, hts⟩ (c_X2_requirePlace_x γ l hlt sa q0 q1 q2 q3 q4 kc td a1 n f x hn0 hn1 hxb) (cwV 1 hts gX2_numberAt_X2_requirePlace rfl rfl rfl hdv_X2_requirePlace ⟨(Nat.le_of_ble_eq_true rfl), (Nat.le_of_ble_eq_true rfl)⟩) hK hP (fun U hU hW => hE.warm hW hU) [0, 1, 2] rfl rfl rfl rfl hl.1 rfl (Nat.le_of_ble_eq_true rfl) dX2_numberAt_2 ⟨(Nat.le_of_ble_eq_true rfl), (Nat.le_of_ble_eq_true rfl)⟩ (fun H1 ce9 q9 hz9 hk9 hce hcv hcl => ?_)
  subst hQ
  exact vx_out (E := "java/lang/IndexOutOfBoundsException") (fun x hx => (ht x hx).elim) hlocks hce hcv hcl (fun t ht9 _ => ⟨rfl, by rw [ht9]; exact hz9, by rw [ht9]; exact hk9⟩) (fun _ h => nomatch h) (Nat.le_refl _) (Nat.le_refl _)

set_option maxHeartbeats 4000000 in
set_option maxRecDepth 100000 in
theorem c_X2_isSteep_x (γ : xG) (l : Launch) (hlt : l.stackTraces = false) (sa : Nat → Nat) (q0 q1 q2 q3 q4 kc : Nat) (td : Int32) (a1 n : Nat) (f : xRow) (x : Int32) (hn0 : 3 ≤ n) (hn1 : n ≤ 12) (hxb : xInB x 0 (nI n - 1) = false) : xX γ l yX2_isSteep wsX2_isSteep ({ frames := 7, cells := 1, slots := 6, locals := 103 } : Room) [.ref q0, .int x] sa ([xO q0 2 [.ref q1, .ref q4, .int (nI kc), .int td, .ref q2, .ref q3], xO q1 0 [.ref a1, .int (nI n)], xA γ a1 12 f]) "java/lang/IndexOutOfBoundsException" := by
  refine xX.of (cc := cX2_isSteep) (maxL := 2) (ret := (some .boolean)) (by decide +kernel) rfl (Nat.le_of_ble_eq_true rfl) ?_
  intro p e s m below meth c hx hb hr hml hts hown hlocks hP hK hE ht ls hl
  generalize hargs : ([.ref q0, .int x] : List Value).toArray = args at hts ⊢
  obtain ⟨Q, hQ⟩ : ∃ Q9, Q9 = vx_MQ below (fun _ _ _ _ => False) (xXQ "java/lang/IndexOutOfBoundsException") args s 1 6 (fun _ => False) := ⟨_, rfl⟩
  rw [← hQ]
  have hown : s.vm.findClass RX2 = some m.cls := hown
  have hl : lv_has ls 2 [(0, .ref q0), (1, .int x)] := hl
  refine lv_aload_n hx hb dX2_isSteep_0 rfl (lv_at hl 0 rfl) ?_
  refine lv_iload_n hx hb dX2_isSteep_1 rfl (lv_at hl 1 rfl) ?_
  refine xXV (q0 := 0) (ci := 2) (As := [.int x]) (rest := []) ⟨hx, hb, hml, hown, hts⟩ (c_X2_requirePlace_x γ l hlt sa q0 q1 q2 q3 q4 kc td a1 n f x hn0 hn1 hxb) (cwV 1 hts gX2_isSteep_X2_requirePlace rfl rfl rfl hdv_X2_requirePlace ⟨(Nat.le_of_ble_eq_true rfl), (Nat.le_of_ble_eq_true rfl)⟩) hK hP (fun U hU hW => hE.warm hW hU) [0, 1, 2] rfl rfl rfl rfl hl.1 rfl (Nat.le_of_ble_eq_true rfl) dX2_isSteep_2 ⟨(Nat.le_of_ble_eq_true rfl), (Nat.le_of_ble_eq_true rfl)⟩ (fun H1 ce9 q9 hz9 hk9 hce hcv hcl => ?_)
  subst hQ
  exact vx_out (E := "java/lang/IndexOutOfBoundsException") (fun x hx => (ht x hx).elim) hlocks hce hcv hcl (fun t ht9 _ => ⟨rfl, by rw [ht9]; exact hz9, by rw [ht9]; exact hk9⟩) (fun _ h => nomatch h) (Nat.le_refl _) (Nat.le_refl _)

set_option maxHeartbeats 4000000 in
set_option maxRecDepth 100000 in
theorem c_X2_tilt_x (γ : xG) (l : Launch) (hlt : l.stackTraces = false) (sa : Nat → Nat) (q0 q1 q2 q3 q4 kc : Nat) (td : Int32) (a1 n : Nat) (f : xRow) (x : Int32) (hn0 : 3 ≤ n) (hn1 : n ≤ 12) (hxb : xInB x 0 (nI n - 1) = false) : xX γ l yX2_tilt wsX2_tilt ({ frames := 7, cells := 1, slots := 6, locals := 103 } : Room) [.ref q0, .int x] sa ([xO q0 2 [.ref q1, .ref q4, .int (nI kc), .int td, .ref q2, .ref q3], xO q1 0 [.ref a1, .int (nI n)], xA γ a1 12 f]) "java/lang/IndexOutOfBoundsException" := by
  refine xX.of (cc := cX2_tilt) (maxL := 2) (ret := (some .int)) (by decide +kernel) rfl (Nat.le_of_ble_eq_true rfl) ?_
  intro p e s m below meth c hx hb hr hml hts hown hlocks hP hK hE ht ls hl
  generalize hargs : ([.ref q0, .int x] : List Value).toArray = args at hts ⊢
  obtain ⟨Q, hQ⟩ : ∃ Q9, Q9 = vx_MQ below (fun _ _ _ _ => False) (xXQ "java/lang/IndexOutOfBoundsException") args s 1 6 (fun _ => False) := ⟨_, rfl⟩
  rw [← hQ]
  have hown : s.vm.findClass RX2 = some m.cls := hown
  have hl : lv_has ls 2 [(0, .ref q0), (1, .int x)] := hl
  refine lv_aload_n hx hb dX2_tilt_0 rfl (lv_at hl 0 rfl) ?_
  refine lv_iload_n hx hb dX2_tilt_1 rfl (lv_at hl 1 rfl) ?_
  refine xXV (q0 := 0) (ci := 2) (As := [.int x]) (rest := []) ⟨hx, hb, hml, hown, hts⟩ (c_X2_requirePlace_x γ l hlt sa q0 q1 q2 q3 q4 kc td a1 n f x hn0 hn1 hxb) (cwV 1 hts gX2_tilt_X2_requirePlace rfl rfl rfl hdv_X2_requirePlace ⟨(Nat.le_of_ble_eq_true rfl), (Nat.le_of_ble_eq_true rfl)⟩) hK hP (fun U hU hW => hE.warm hW hU) [0, 1, 2] rfl rfl rfl rfl hl.1 rfl (Nat.le_of_ble_eq_true rfl) dX2_tilt_2 ⟨(Nat.le_of_ble_eq_true rfl), (Nat.le_of_ble_eq_true rfl)⟩ (fun H1 ce9 q9 hz9 hk9 hce hcv hcl => ?_)
  subst hQ
  exact vx_out (E := "java/lang/IndexOutOfBoundsException") (fun x hx => (ht x hx).elim) hlocks hce hcv hcl (fun t ht9 _ => ⟨rfl, by rw [ht9]; exact hz9, by rw [ht9]; exact hk9⟩) (fun _ h => nomatch h) (Nat.le_refl _) (Nat.le_refl _)

set_option maxHeartbeats 4000000 in
set_option maxRecDepth 100000 in
theorem c_X2_differences_x (γ : xG) (l : Launch) (hlt : l.stackTraces = false) (sa : Nat → Nat) (q0 q1 q2 q3 q4 kc : Nat) (td : Int32) (kq : Nat → Nat) (x : Int32) (hkc : kc ≤ 6) (hxb : xInB x 0 (nI kc - 1) = false) : xX γ l yX2_differences wsX2_differences ({ frames := 7, cells := 1, slots := 6, locals := 104 } : Room) [.ref q0, .int x] sa ([xO q0 2 [.ref q1, .ref q4, .int (nI kc), .int td, .ref q2, .ref q3], xQ γ q4 6 (fun t9 => some (kq t9))]) "java/lang/IndexOutOfBoundsException" := by
  refine xX.of (cc := cX2_differences) (maxL := 2) (ret := (some .int)) (by decide +kernel) rfl (Nat.le_of_ble_eq_true rfl) ?_
  intro p e s m below meth c hx hb hr hml hts hown hlocks hP hK hE ht ls hl
  generalize hargs : ([.ref q0, .int x] : List Value).toArray = args at hts ⊢
  obtain ⟨Q, hQ⟩ : ∃ Q9, Q9 = vx_MQ below (fun _ _ _ _ => False) (xXQ "java/lang/IndexOutOfBoundsException") args s 1 6 (fun _ => False) := ⟨_, rfl⟩
  rw [← hQ]
  have hown : s.vm.findClass RX2 = some m.cls := hown
  have hl : lv_has ls 2 [(0, .ref q0), (1, .int x)] := hl
  refine lv_aload_n hx hb dX2_differences_0 rfl (lv_at hl 0 rfl) ?_
  refine va_get (D := γ.1) (ci := 2) (v := .ref q1) (C := RX2) (T := TX2) (N := 6) hx hb hts iwX2_differences_2 hown hK hP 0 rfl rfl 0 (by decide) (hts _ flX2_differences_10) (fun _ h9 => h9) rfl dX2_differences_1 ?_
  refine lv_aload_n hx hb dX2_differences_4 rfl (lv_at hl 0 rfl) ?_
  refine lv_iload_n hx hb dX2_differences_5 rfl (lv_at hl 1 rfl) ?_
  refine xXV (q0 := 0) (ci := 2) (As := [.int x]) (rest := [.ref q1]) ⟨hx, hb, hml, hown, hts⟩ (c_X2_keptRing_x γ l hlt sa q0 q1 q2 q3 q4 kc td kq x hkc hxb) (cwV 1 hts gX2_differences_X2_keptRing rfl rfl rfl hdv_X2_keptRing ⟨(Nat.le_of_ble_eq_true rfl), (Nat.le_of_ble_eq_true rfl)⟩) hK hP (fun U hU hW => hE.warm hW hU) [0, 1] rfl rfl rfl rfl hl.1 rfl (Nat.le_of_ble_eq_true rfl) dX2_differences_6 ⟨(Nat.le_of_ble_eq_true rfl), (Nat.le_of_ble_eq_true rfl)⟩ (fun H1 ce9 q9 hz9 hk9 hce hcv hcl => ?_)
  subst hQ
  exact vx_out (E := "java/lang/IndexOutOfBoundsException") (fun x hx => (ht x hx).elim) hlocks hce hcv hcl (fun t ht9 _ => ⟨rfl, by rw [ht9]; exact hz9, by rw [ht9]; exact hk9⟩) (fun _ h => nomatch h) (Nat.le_refl _) (Nat.le_refl _)

set_option maxHeartbeats 4000000 in
set_option maxRecDepth 100000 in
theorem c_X2_canReach_x (γ : xG) (l : Launch) (hlt : l.stackTraces = false) (sa : Nat → Nat) (q0 q1 q2 q3 q4 kc : Nat) (td : Int32) (kq : Nat → Nat) (x : Int32) (hkc : kc ≤ 6) (hxb : xInB x 0 (nI kc - 1) = false) : xX γ l yX2_canReach wsX2_canReach ({ frames := 7, cells := 1, slots := 6, locals := 104 } : Room) [.ref q0, .int x] sa ([xO q0 2 [.ref q1, .ref q4, .int (nI kc), .int td, .ref q2, .ref q3], xQ γ q4 6 (fun t9 => some (kq t9))]) "java/lang/IndexOutOfBoundsException" := by
  refine xX.of (cc := cX2_canReach) (maxL := 2) (ret := (some .boolean)) (by decide +kernel) rfl (Nat.le_of_ble_eq_true rfl) ?_
  intro p e s m below meth c hx hb hr hml hts hown hlocks hP hK hE ht ls hl
  generalize hargs : ([.ref q0, .int x] : List Value).toArray = args at hts ⊢
  obtain ⟨Q, hQ⟩ : ∃ Q9, Q9 = vx_MQ below (fun _ _ _ _ => False) (xXQ "java/lang/IndexOutOfBoundsException") args s 1 6 (fun _ => False) := ⟨_, rfl⟩
  rw [← hQ]
  have hown : s.vm.findClass RX2 = some m.cls := hown
  have hl : lv_has ls 2 [(0, .ref q0), (1, .int x)] := hl
  refine lv_aload_n hx hb dX2_canReach_0 rfl (lv_at hl 0 rfl) ?_
  refine va_get (D := γ.1) (ci := 2) (v := .ref q1) (C := RX2) (T := TX2) (N := 6) hx hb hts iwX2_canReach_2 hown hK hP 0 rfl rfl 0 (by decide) (hts _ flX2_canReach_10) (fun _ h9 => h9) rfl dX2_canReach_1 ?_
  refine lv_aload_n hx hb dX2_canReach_4 rfl (lv_at hl 0 rfl) ?_
  refine lv_iload_n hx hb dX2_canReach_5 rfl (lv_at hl 1 rfl) ?_
  refine xXV (q0 := 0) (ci := 2) (As := [.int x]) (rest := [.ref q1]) ⟨hx, hb, hml, hown, hts⟩ (c_X2_keptRing_x γ l hlt sa q0 q1 q2 q3 q4 kc td kq x hkc hxb) (cwV 1 hts gX2_canReach_X2_keptRing rfl rfl rfl hdv_X2_keptRing ⟨(Nat.le_of_ble_eq_true rfl), (Nat.le_of_ble_eq_true rfl)⟩) hK hP (fun U hU hW => hE.warm hW hU) [0, 1] rfl rfl rfl rfl hl.1 rfl (Nat.le_of_ble_eq_true rfl) dX2_canReach_6 ⟨(Nat.le_of_ble_eq_true rfl), (Nat.le_of_ble_eq_true rfl)⟩ (fun H1 ce9 q9 hz9 hk9 hce hcv hcl => ?_)
  subst hQ
  exact vx_out (E := "java/lang/IndexOutOfBoundsException") (fun x hx => (ht x hx).elim) hlocks hce hcv hcl (fun t ht9 _ => ⟨rfl, by rw [ht9]; exact hz9, by rw [ht9]; exact hk9⟩) (fun _ h => nomatch h) (Nat.le_refl _) (Nat.le_refl _)

set_option maxHeartbeats 4000000 in
set_option maxRecDepth 100000 in
theorem c_X2_fewestTips_x (γ : xG) (l : Launch) (hlt : l.stackTraces = false) (sa : Nat → Nat) (q0 q1 q2 q3 q4 kc : Nat) (td : Int32) (kq : Nat → Nat) (x : Int32) (hkc : kc ≤ 6) (hxb : xInB x 0 (nI kc - 1) = false) : xX γ l yX2_fewestTips wsX2_fewestTips ({ frames := 7, cells := 1, slots := 6, locals := 104 } : Room) [.ref q0, .int x] sa ([xO q0 2 [.ref q1, .ref q4, .int (nI kc), .int td, .ref q2, .ref q3], xQ γ q4 6 (fun t9 => some (kq t9))]) "java/lang/IndexOutOfBoundsException" := by
  refine xX.of (cc := cX2_fewestTips) (maxL := 2) (ret := (some .int)) (by decide +kernel) rfl (Nat.le_of_ble_eq_true rfl) ?_
  intro p e s m below meth c hx hb hr hml hts hown hlocks hP hK hE ht ls hl
  generalize hargs : ([.ref q0, .int x] : List Value).toArray = args at hts ⊢
  obtain ⟨Q, hQ⟩ : ∃ Q9, Q9 = vx_MQ below (fun _ _ _ _ => False) (xXQ "java/lang/IndexOutOfBoundsException") args s 1 6 (fun _ => False) := ⟨_, rfl⟩
  rw [← hQ]
  have hown : s.vm.findClass RX2 = some m.cls := hown
  have hl : lv_has ls 2 [(0, .ref q0), (1, .int x)] := hl
  refine lv_aload_n hx hb dX2_fewestTips_0 rfl (lv_at hl 0 rfl) ?_
  refine lv_aload_n hx hb dX2_fewestTips_1 rfl (lv_at hl 0 rfl) ?_
  refine lv_iload_n hx hb dX2_fewestTips_2 rfl (lv_at hl 1 rfl) ?_
  refine xXV (q0 := 0) (ci := 2) (As := [.int x]) (rest := [.ref q0]) ⟨hx, hb, hml, hown, hts⟩ (c_X2_keptRing_x γ l hlt sa q0 q1 q2 q3 q4 kc td kq x hkc hxb) (cwV 1 hts gX2_fewestTips_X2_keptRing rfl rfl rfl hdv_X2_keptRing ⟨(Nat.le_of_ble_eq_true rfl), (Nat.le_of_ble_eq_true rfl)⟩) hK hP (fun U hU hW => hE.warm hW hU) [0, 1] rfl rfl rfl rfl hl.1 rfl (Nat.le_of_ble_eq_true rfl) dX2_fewestTips_3 ⟨(Nat.le_of_ble_eq_true rfl), (Nat.le_of_ble_eq_true rfl)⟩ (fun H1 ce9 q9 hz9 hk9 hce hcv hcl => ?_)
  subst hQ
  exact vx_out (E := "java/lang/IndexOutOfBoundsException") (fun x hx => (ht x hx).elim) hlocks hce hcv hcl (fun t ht9 _ => ⟨rfl, by rw [ht9]; exact hz9, by rw [ht9]; exact hk9⟩) (fun _ h => nomatch h) (Nat.le_refl _) (Nat.le_refl _)

set_option maxHeartbeats 4000000 in
set_option maxRecDepth 100000 in
theorem c_X2_reach_x1 (γ : xG) (l : Launch) (hlt : l.stackTraces = false) (sa : Nat → Nat) (q0 q1 q2 q3 q4 kc : Nat) (td : Int32) (kq : Nat → Nat) (x : Int32) (hkc : kc ≤ 6) (hxb : xInB x 0 (nI kc - 1) = false) : xX γ l yX2_reach wsX2_reach ({ frames := 7, cells := 1, slots := 6, locals := 104 } : Room) [.ref q0, .int x] sa ([xO q0 2 [.ref q1, .ref q4, .int (nI kc), .int td, .ref q2, .ref q3], xQ γ q4 6 (fun t9 => some (kq t9))]) "java/lang/IndexOutOfBoundsException" := by
  refine xX.of (cc := cX2_reach) (maxL := 4) (ret := (some .int)) (by decide +kernel) rfl (Nat.le_of_ble_eq_true rfl) ?_
  intro p e s m below meth c hx hb hr hml hts hown hlocks hP hK hE ht ls hl
  generalize hargs : ([.ref q0, .int x] : List Value).toArray = args at hts ⊢
  obtain ⟨Q, hQ⟩ : ∃ Q9, Q9 = vx_MQ below (fun _ _ _ _ => False) (xXQ "java/lang/IndexOutOfBoundsException") args s 1 6 (fun _ => False) := ⟨_, rfl⟩
  rw [← hQ]
  have hown : s.vm.findClass RX2 = some m.cls := hown
  have hl : lv_has ls 4 [(0, .ref q0), (1, .int x)] := hl
  refine lv_aload_n hx hb dX2_reach_0 rfl (lv_at hl 0 rfl) ?_
  refine lv_iload_n hx hb dX2_reach_1 rfl (lv_at hl 1 rfl) ?_
  refine xXV (q0 := 0) (ci := 2) (As := [.int x]) (rest := []) ⟨hx, hb, hml, hown, hts⟩ (c_X2_keptRing_x γ l hlt sa q0 q1 q2 q3 q4 kc td kq x hkc hxb) (cwV 1 hts gX2_reach_X2_keptRing rfl rfl rfl hdv_X2_keptRing ⟨(Nat.le_of_ble_eq_true rfl), (Nat.le_of_ble_eq_true rfl)⟩) hK hP (fun U hU hW => hE.warm hW hU) [0, 1] rfl rfl rfl rfl hl.1 rfl (Nat.le_of_ble_eq_true rfl) dX2_reach_2 ⟨(Nat.le_of_ble_eq_true rfl), (Nat.le_of_ble_eq_true rfl)⟩ (fun H1 ce9 q9 hz9 hk9 hce hcv hcl => ?_)
  subst hQ
  exact vx_out (E := "java/lang/IndexOutOfBoundsException") (fun x hx => (ht x hx).elim) hlocks hce hcv hcl (fun t ht9 _ => ⟨rfl, by rw [ht9]; exact hz9, by rw [ht9]; exact hk9⟩) (fun _ h => nomatch h) (Nat.le_refl _) (Nat.le_refl _)

set_option maxHeartbeats 4000000 in
set_option maxRecDepth 100000 in
theorem c_X2_reach_x2 (γ : xG) (l : Launch) (hlt : l.stackTraces = false) (sa : Nat → Nat) (q0 q1 q2 q3 q4 kc : Nat) (td : Int32) (a1 n : Nat) (f : xRow) (kq ka : Nat → Nat) (kn : Nat → Int32) (ks : Nat → xRow) (k : Nat) (hn0 : 3 ≤ n) (hn1 : n ≤ 12) (hk : k < kc) (hkc : kc ≤ 6) (hcb : xCB n f (ks k) = false) : xX γ l yX2_reach wsX2_reach ({ frames := 7, cells := 1, slots := 6, locals := 103 } : Room) [.ref q0, .int (nI k)] sa ([xO q0 2 [.ref q1, .ref q4, .int (nI kc), .int td, .ref q2, .ref q3], xO q1 0 [.ref a1, .int (nI n)], xA γ a1 12 f, xQ γ q4 6 (fun t9 => some (kq t9)), xO (kq k) 0 [.ref (ka k), .int (nI n)], xA γ (ka k) 12 (ks k)]) "java/lang/IllegalStateException" := by
  refine xX.of (cc := cX2_reach) (maxL := 4) (ret := (some .int)) (by decide +kernel) rfl (Nat.le_of_ble_eq_true rfl) ?_
  intro p e s m below meth c hx hb hr hml hts hown hlocks hP hK hE ht ls hl
  generalize hargs : ([.ref q0, .int (nI k)] : List Value).toArray = args at hts ⊢
  obtain ⟨Q, hQ⟩ : ∃ Q9, Q9 = vx_MQ below (fun _ _ _ _ => False) (xXQ "java/lang/IllegalStateException") args s 1 6 (fun _ => False) := ⟨_, rfl⟩
  rw [← hQ]
  have hown : s.vm.findClass RX2 = some m.cls := hown
  have hl : lv_has ls 4 [(0, .ref q0), (1, .int (nI k))] := hl
  refine lv_aload_n hx hb dX2_reach_0 rfl (lv_at hl 0 rfl) ?_
  refine lv_iload_n hx hb dX2_reach_1 rfl (lv_at hl 1 rfl) ?_
  refine xVR (q0 := 0) (ci := 2) (As := [.int (nI k)]) (rest := []) (stk := [.ref (kq k)]) ⟨hx, hb, hml, hown, hts⟩ (c_X2_keptRing γ l q0 q1 q2 q3 q4 kc td kq k (by omega) (by omega)) (cwV 1 hts gX2_reach_X2_keptRing rfl rfl rfl hdv_X2_keptRing ⟨(Nat.le_of_ble_eq_true rfl), (Nat.le_of_ble_eq_true rfl)⟩) hK hP [0, 3] rfl rfl rfl rfl hl.1 rfl (Nat.le_of_ble_eq_true rfl) dX2_reach_2 ⟨(Nat.le_of_ble_eq_true rfl), (Nat.le_of_ble_eq_true rfl)⟩ rfl ?_
  refine lv_astore_n (lv' := [(2, .ref (kq k)), (0, .ref q0), (1, .int (nI k))]) hx hb dX2_reach_5 rfl hl (by decide) rfl (fun ls hl => ?_)
  refine lv_aload_n hx hb dX2_reach_6 rfl (lv_at hl 1 rfl) ?_
  refine lv_aload_n hx hb dX2_reach_7 rfl (lv_at hl 0 rfl) ?_
  refine xXV (q0 := 0) (ci := 2) (As := [.ref (kq k)]) (rest := []) ⟨hx, hb, hml, hown, hts⟩ (c_X2_requireWayTo_x γ l hlt sa q0 q1 q2 q3 q4 kc td a1 n f (kq k) (ka k) (ks k) hn0 hn1 hcb) (cwV 1 hts gX2_reach_X2_requireWayTo rfl rfl rfl hdv_X2_requireWayTo ⟨(Nat.le_of_ble_eq_true rfl), (Nat.le_of_ble_eq_true rfl)⟩) hK hP (fun U hU hW => hE.warm hW hU) [0, 1, 2, 4, 5] rfl rfl rfl rfl hl.1 rfl (Nat.le_of_ble_eq_true rfl) dX2_reach_8 ⟨(Nat.le_of_ble_eq_true rfl), (Nat.le_of_ble_eq_true rfl)⟩ (fun H1 ce9 q9 hz9 hk9 hce hcv hcl => ?_)
  subst hQ
  exact vx_out (E := "java/lang/IllegalStateException") (fun x hx => (ht x hx).elim) hlocks hce hcv hcl (fun t ht9 _ => ⟨rfl, by rw [ht9]; exact hz9, by rw [ht9]; exact hk9⟩) (fun _ h => nomatch h) (Nat.le_refl _) (Nat.le_refl _)

set_option maxHeartbeats 4000000 in
set_option maxRecDepth 100000 in
theorem c_X2_numberIn_x1 (γ : xG) (l : Launch) (hlt : l.stackTraces = false) (sa : Nat → Nat) (q0 q1 q2 q3 q4 kc : Nat) (td : Int32) (kq : Nat → Nat) (y x : Int32) (hkc : kc ≤ 6) (hxb : xInB y 0 (nI kc - 1) = false) : xX γ l yX2_numberIn wsX2_numberIn ({ frames := 7, cells := 1, slots := 6, locals := 104 } : Room) [.ref q0, .int y, .int x] sa ([xO q0 2 [.ref q1, .ref q4, .int (nI kc), .int td, .ref q2, .ref q3], xQ γ q4 6 (fun t9 => some (kq t9))]) "java/lang/IndexOutOfBoundsException" := by
  refine xX.of (cc := cX2_numberIn) (maxL := 4) (ret := (some .int)) (by decide +kernel) rfl (Nat.le_of_ble_eq_true rfl) ?_
  intro p e s m below meth c hx hb hr hml hts hown hlocks hP hK hE ht ls hl
  generalize hargs : ([.ref q0, .int y, .int x] : List Value).toArray = args at hts ⊢
  obtain ⟨Q, hQ⟩ : ∃ Q9, Q9 = vx_MQ below (fun _ _ _ _ => False) (xXQ "java/lang/IndexOutOfBoundsException") args s 1 6 (fun _ => False) := ⟨_, rfl⟩
  rw [← hQ]
  have hown : s.vm.findClass RX2 = some m.cls := hown
  have hl : lv_has ls 4 [(0, .ref q0), (1, .int y), (2, .int x)] := hl
  refine lv_aload_n hx hb dX2_numberIn_0 rfl (lv_at hl 0 rfl) ?_
  refine lv_iload_n hx hb dX2_numberIn_1 rfl (lv_at hl 1 rfl) ?_
  refine xXV (q0 := 0) (ci := 2) (As := [.int y]) (rest := []) ⟨hx, hb, hml, hown, hts⟩ (c_X2_keptRing_x γ l hlt sa q0 q1 q2 q3 q4 kc td kq y hkc hxb) (cwV 1 hts gX2_numberIn_X2_keptRing rfl rfl rfl hdv_X2_keptRing ⟨(Nat.le_of_ble_eq_true rfl), (Nat.le_of_ble_eq_true rfl)⟩) hK hP (fun U hU hW => hE.warm hW hU) [0, 1] rfl rfl rfl rfl hl.1 rfl (Nat.le_of_ble_eq_true rfl) dX2_numberIn_2 ⟨(Nat.le_of_ble_eq_true rfl), (Nat.le_of_ble_eq_true rfl)⟩ (fun H1 ce9 q9 hz9 hk9 hce hcv hcl => ?_)
  subst hQ
  exact vx_out (E := "java/lang/IndexOutOfBoundsException") (fun x hx => (ht x hx).elim) hlocks hce hcv hcl (fun t ht9 _ => ⟨rfl, by rw [ht9]; exact hz9, by rw [ht9]; exact hk9⟩) (fun _ h => nomatch h) (Nat.le_refl _) (Nat.le_refl _)

set_option maxHeartbeats 4000000 in
set_option maxRecDepth 100000 in
theorem c_X2_numberIn_x2 (γ : xG) (l : Launch) (hlt : l.stackTraces = false) (sa : Nat → Nat) (q0 q1 q2 q3 q4 kc : Nat) (td : Int32) (a1 n : Nat) (f : xRow) (kq : Nat → Nat) (k : Nat) (x : Int32) (hn0 : 3 ≤ n) (hn1 : n ≤ 12) (hk : k < kc) (hkc : kc ≤ 6) (hxb : xInB x 0 (nI n - 1) = false) : xX γ l yX2_numberIn wsX2_numberIn ({ frames := 7, cells := 1, slots := 6, locals := 103 } : Room) [.ref q0, .int (nI k), .int x] sa ([xO q0 2 [.ref q1, .ref q4, .int (nI kc), .int td, .ref q2, .ref q3], xO q1 0 [.ref a1, .int (nI n)], xA γ a1 12 f, xQ γ q4 6 (fun t9 => some (kq t9))]) "java/lang/IndexOutOfBoundsException" := by
  refine xX.of (cc := cX2_numberIn) (maxL := 4) (ret := (some .int)) (by decide +kernel) rfl (Nat.le_of_ble_eq_true rfl) ?_
  intro p e s m below meth c hx hb hr hml hts hown hlocks hP hK hE ht ls hl
  generalize hargs : ([.ref q0, .int (nI k), .int x] : List Value).toArray = args at hts ⊢
  obtain ⟨Q, hQ⟩ : ∃ Q9, Q9 = vx_MQ below (fun _ _ _ _ => False) (xXQ "java/lang/IndexOutOfBoundsException") args s 1 6 (fun _ => False) := ⟨_, rfl⟩
  rw [← hQ]
  have hown : s.vm.findClass RX2 = some m.cls := hown
  have hl : lv_has ls 4 [(0, .ref q0), (1, .int (nI k)), (2, .int x)] := hl
  refine lv_aload_n hx hb dX2_numberIn_0 rfl (lv_at hl 0 rfl) ?_
  refine lv_iload_n hx hb dX2_numberIn_1 rfl (lv_at hl 1 rfl) ?_
  refine xVR (q0 := 0) (ci := 2) (As := [.int (nI k)]) (rest := []) (stk := [.ref (kq k)]) ⟨hx, hb, hml, hown, hts⟩ (c_X2_keptRing γ l q0 q1 q2 q3 q4 kc td kq k (by omega) (by omega)) (cwV 1 hts gX2_numberIn_X2_keptRing rfl rfl rfl hdv_X2_keptRing ⟨(Nat.le_of_ble_eq_true rfl), (Nat.le_of_ble_eq_true rfl)⟩) hK hP [0, 3] rfl rfl rfl rfl hl.1 rfl (Nat.le_of_ble_eq_true rfl) dX2_numberIn_2 ⟨(Nat.le_of_ble_eq_true rfl), (Nat.le_of_ble_eq_true rfl)⟩ rfl ?_
  refine lv_astore_n (lv' := [(3, .ref (kq k)), (0, .ref q0), (1, .int (nI k)), (2, .int x)]) hx hb dX2_numberIn_5 rfl hl (by decide) rfl (fun ls hl => ?_)
  refine lv_aload_n hx hb dX2_numberIn_6 rfl (lv_at hl 1 rfl) ?_
  refine lv_iload_n hx hb dX2_numberIn_7 rfl (lv_at hl 3 rfl) ?_
  refine xXV (q0 := 0) (ci := 2) (As := [.int x]) (rest := []) ⟨hx, hb, hml, hown, hts⟩ (c_X2_requirePlace_x γ l hlt sa q0 q1 q2 q3 q4 kc td a1 n f x hn0 hn1 hxb) (cwV 1 hts gX2_numberIn_X2_requirePlace rfl rfl rfl hdv_X2_requirePlace ⟨(Nat.le_of_ble_eq_true rfl), (Nat.le_of_ble_eq_true rfl)⟩) hK hP (fun U hU hW => hE.warm hW hU) [0, 1, 2] rfl rfl rfl rfl hl.1 rfl (Nat.le_of_ble_eq_true rfl) dX2_numberIn_8 ⟨(Nat.le_of_ble_eq_true rfl), (Nat.le_of_ble_eq_true rfl)⟩ (fun H1 ce9 q9 hz9 hk9 hce hcv hcl => ?_)
  subst hQ
  exact vx_out (E := "java/lang/IndexOutOfBoundsException") (fun x hx => (ht x hx).elim) hlocks hce hcv hcl (fun t ht9 _ => ⟨rfl, by rw [ht9]; exact hz9, by rw [ht9]; exact hk9⟩) (fun _ h => nomatch h) (Nat.le_refl _) (Nat.le_refl _)

set_option maxHeartbeats 4000000 in
set_option maxRecDepth 100000 in
theorem c_X2_tipsTo_x1 (γ : xG) (l : Launch) (hlt : l.stackTraces = false) (sa : Nat → Nat) (q0 q1 q2 q3 q4 kc : Nat) (td : Int32) (kq : Nat → Nat) (y x : Int32) (hkc : kc ≤ 6) (hxb : xInB y 0 (nI kc - 1) = false) : xX γ l yX2_tipsTo wsX2_tipsTo ({ frames := 7, cells := 1, slots := 6, locals := 104 } : Room) [.ref q0, .int y, .int x] sa ([xO q0 2 [.ref q1, .ref q4, .int (nI kc), .int td, .ref q2, .ref q3], xQ γ q4 6 (fun t9 => some (kq t9))]) "java/lang/IndexOutOfBoundsException" := by
  refine xX.of (cc := cX2_tipsTo) (maxL := 4) (ret := (some .int)) (by decide +kernel) rfl (Nat.le_of_ble_eq_true rfl) ?_
  intro p e s m below meth c hx hb hr hml hts hown hlocks hP hK hE ht ls hl
  generalize hargs : ([.ref q0, .int y, .int x] : List Value).toArray = args at hts ⊢
  obtain ⟨Q, hQ⟩ : ∃ Q9, Q9 = vx_MQ below (fun _ _ _ _ => False) (xXQ "java/lang/IndexOutOfBoundsException") args s 1 6 (fun _ => False) := ⟨_, rfl⟩
  rw [← hQ]
  have hown : s.vm.findClass RX2 = some m.cls := hown
  have hl : lv_has ls 4 [(0, .ref q0), (1, .int y), (2, .int x)] := hl
  refine lv_aload_n hx hb dX2_tipsTo_0 rfl (lv_at hl 0 rfl) ?_
  refine lv_iload_n hx hb dX2_tipsTo_1 rfl (lv_at hl 1 rfl) ?_
  refine xXV (q0 := 0) (ci := 2) (As := [.int y]) (rest := []) ⟨hx, hb, hml, hown, hts⟩ (c_X2_keptRing_x γ l hlt sa q0 q1 q2 q3 q4 kc td kq y hkc hxb) (cwV 1 hts gX2_tipsTo_X2_keptRing rfl rfl rfl hdv_X2_keptRing ⟨(Nat.le_of_ble_eq_true rfl), (Nat.le_of_ble_eq_true rfl)⟩) hK hP (fun U hU hW => hE.warm hW hU) [0, 1] rfl rfl rfl rfl hl.1 rfl (Nat.le_of_ble_eq_true rfl) dX2_tipsTo_2 ⟨(Nat.le_of_ble_eq_true rfl), (Nat.le_of_ble_eq_true rfl)⟩ (fun H1 ce9 q9 hz9 hk9 hce hcv hcl => ?_)
  subst hQ
  exact vx_out (E := "java/lang/IndexOutOfBoundsException") (fun x hx => (ht x hx).elim) hlocks hce hcv hcl (fun t ht9 _ => ⟨rfl, by rw [ht9]; exact hz9, by rw [ht9]; exact hk9⟩) (fun _ h => nomatch h) (Nat.le_refl _) (Nat.le_refl _)

set_option maxHeartbeats 4000000 in
set_option maxRecDepth 100000 in
theorem c_X2_tipsTo_x2 (γ : xG) (l : Launch) (hlt : l.stackTraces = false) (sa : Nat → Nat) (q0 q1 q2 q3 q4 kc : Nat) (td : Int32) (a1 n : Nat) (f : xRow) (kq : Nat → Nat) (k : Nat) (x : Int32) (hn0 : 3 ≤ n) (hn1 : n ≤ 12) (hk : k < kc) (hkc : kc ≤ 6) (hxb : xInB x 0 (nI n - 1) = false) : xX γ l yX2_tipsTo wsX2_tipsTo ({ frames := 7, cells := 1, slots := 6, locals := 103 } : Room) [.ref q0, .int (nI k), .int x] sa ([xO q0 2 [.ref q1, .ref q4, .int (nI kc), .int td, .ref q2, .ref q3], xO q1 0 [.ref a1, .int (nI n)], xA γ a1 12 f, xQ γ q4 6 (fun t9 => some (kq t9))]) "java/lang/IndexOutOfBoundsException" := by
  refine xX.of (cc := cX2_tipsTo) (maxL := 4) (ret := (some .int)) (by decide +kernel) rfl (Nat.le_of_ble_eq_true rfl) ?_
  intro p e s m below meth c hx hb hr hml hts hown hlocks hP hK hE ht ls hl
  generalize hargs : ([.ref q0, .int (nI k), .int x] : List Value).toArray = args at hts ⊢
  obtain ⟨Q, hQ⟩ : ∃ Q9, Q9 = vx_MQ below (fun _ _ _ _ => False) (xXQ "java/lang/IndexOutOfBoundsException") args s 1 6 (fun _ => False) := ⟨_, rfl⟩
  rw [← hQ]
  have hown : s.vm.findClass RX2 = some m.cls := hown
  have hl : lv_has ls 4 [(0, .ref q0), (1, .int (nI k)), (2, .int x)] := hl
  refine lv_aload_n hx hb dX2_tipsTo_0 rfl (lv_at hl 0 rfl) ?_
  refine lv_iload_n hx hb dX2_tipsTo_1 rfl (lv_at hl 1 rfl) ?_
  refine xVR (q0 := 0) (ci := 2) (As := [.int (nI k)]) (rest := []) (stk := [.ref (kq k)]) ⟨hx, hb, hml, hown, hts⟩ (c_X2_keptRing γ l q0 q1 q2 q3 q4 kc td kq k (by omega) (by omega)) (cwV 1 hts gX2_tipsTo_X2_keptRing rfl rfl rfl hdv_X2_keptRing ⟨(Nat.le_of_ble_eq_true rfl), (Nat.le_of_ble_eq_true rfl)⟩) hK hP [0, 3] rfl rfl rfl rfl hl.1 rfl (Nat.le_of_ble_eq_true rfl) dX2_tipsTo_2 ⟨(Nat.le_of_ble_eq_true rfl), (Nat.le_of_ble_eq_true rfl)⟩ rfl ?_
  refine lv_astore_n (lv' := [(3, .ref (kq k)), (0, .ref q0), (1, .int (nI k)), (2, .int x)]) hx hb dX2_tipsTo_5 rfl hl (by decide) rfl (fun ls hl => ?_)
  refine lv_aload_n hx hb dX2_tipsTo_6 rfl (lv_at hl 1 rfl) ?_
  refine lv_iload_n hx hb dX2_tipsTo_7 rfl (lv_at hl 3 rfl) ?_
  refine xXV (q0 := 0) (ci := 2) (As := [.int x]) (rest := []) ⟨hx, hb, hml, hown, hts⟩ (c_X2_requirePlace_x γ l hlt sa q0 q1 q2 q3 q4 kc td a1 n f x hn0 hn1 hxb) (cwV 1 hts gX2_tipsTo_X2_requirePlace rfl rfl rfl hdv_X2_requirePlace ⟨(Nat.le_of_ble_eq_true rfl), (Nat.le_of_ble_eq_true rfl)⟩) hK hP (fun U hU hW => hE.warm hW hU) [0, 1, 2] rfl rfl rfl rfl hl.1 rfl (Nat.le_of_ble_eq_true rfl) dX2_tipsTo_8 ⟨(Nat.le_of_ble_eq_true rfl), (Nat.le_of_ble_eq_true rfl)⟩ (fun H1 ce9 q9 hz9 hk9 hce hcv hcl => ?_)
  subst hQ
  exact vx_out (E := "java/lang/IndexOutOfBoundsException") (fun x hx => (ht x hx).elim) hlocks hce hcv hcl (fun t ht9 _ => ⟨rfl, by rw [ht9]; exact hz9, by rw [ht9]; exact hk9⟩) (fun _ h => nomatch h) (Nat.le_refl _) (Nat.le_refl _)

set_option maxHeartbeats 4000000 in
set_option maxRecDepth 100000 in
theorem c_X2_tipsTo_x3 (γ : xG) (l : Launch) (hlt : l.stackTraces = false) (sa : Nat → Nat) (q0 q1 q2 q3 q4 kc : Nat) (td : Int32) (a1 n : Nat) (f : xRow) (kq ka : Nat → Nat) (kn : Nat → Int32) (ks : Nat → xRow) (k i9 : Nat) (hn0 : 3 ≤ n) (hn1 : n ≤ 12) (hk : k < kc) (hkc : kc ≤ 6) (hi : i9 < n) (hcb : xCB n f (ks k) = false) : xX γ l yX2_tipsTo wsX2_tipsTo ({ frames := 7, cells := 1, slots := 6, locals := 103 } : Room) [.ref q0, .int (nI k), .int (nI i9)] sa ([xO q0 2 [.ref q1, .ref q4, .int (nI kc), .int td, .ref q2, .ref q3], xO q1 0 [.ref a1, .int (nI n)], xA γ a1 12 f, xQ γ q4 6 (fun t9 => some (kq t9)), xO (kq k) 0 [.ref (ka k), .int (nI n)], xA γ (ka k) 12 (ks k)]) "java/lang/IllegalStateException" := by
  refine xX.of (cc := cX2_tipsTo) (maxL := 4) (ret := (some .int)) (by decide +kernel) rfl (Nat.le_of_ble_eq_true rfl) ?_
  intro p e s m below meth c hx hb hr hml hts hown hlocks hP hK hE ht ls hl
  generalize hargs : ([.ref q0, .int (nI k), .int (nI i9)] : List Value).toArray = args at hts ⊢
  obtain ⟨Q, hQ⟩ : ∃ Q9, Q9 = vx_MQ below (fun _ _ _ _ => False) (xXQ "java/lang/IllegalStateException") args s 1 6 (fun _ => False) := ⟨_, rfl⟩
  rw [← hQ]
  have hown : s.vm.findClass RX2 = some m.cls := hown
  have hl : lv_has ls 4 [(0, .ref q0), (1, .int (nI k)), (2, .int (nI i9))] := hl
  refine lv_aload_n hx hb dX2_tipsTo_0 rfl (lv_at hl 0 rfl) ?_
  refine lv_iload_n hx hb dX2_tipsTo_1 rfl (lv_at hl 1 rfl) ?_
  refine xVR (q0 := 0) (ci := 2) (As := [.int (nI k)]) (rest := []) (stk := [.ref (kq k)]) ⟨hx, hb, hml, hown, hts⟩ (c_X2_keptRing γ l q0 q1 q2 q3 q4 kc td kq k (by omega) (by omega)) (cwV 1 hts gX2_tipsTo_X2_keptRing rfl rfl rfl hdv_X2_keptRing ⟨(Nat.le_of_ble_eq_true rfl), (Nat.le_of_ble_eq_true rfl)⟩) hK hP [0, 3] rfl rfl rfl rfl hl.1 rfl (Nat.le_of_ble_eq_true rfl) dX2_tipsTo_2 ⟨(Nat.le_of_ble_eq_true rfl), (Nat.le_of_ble_eq_true rfl)⟩ rfl ?_
  refine lv_astore_n (lv' := [(3, .ref (kq k)), (0, .ref q0), (1, .int (nI k)), (2, .int (nI i9))]) hx hb dX2_tipsTo_5 rfl hl (by decide) rfl (fun ls hl => ?_)
  refine lv_aload_n hx hb dX2_tipsTo_6 rfl (lv_at hl 1 rfl) ?_
  refine lv_iload_n hx hb dX2_tipsTo_7 rfl (lv_at hl 3 rfl) ?_
  refine xVR (q0 := 0) (ci := 2) (As := [.int (nI i9)]) (rest := []) (stk := []) ⟨hx, hb, hml, hown, hts⟩ (c_X2_requirePlace γ l q0 q1 q2 q3 q4 kc td a1 n f i9 (by omega) (by omega) (by omega)) (cwV 1 hts gX2_tipsTo_X2_requirePlace rfl rfl rfl hdv_X2_requirePlace ⟨(Nat.le_of_ble_eq_true rfl), (Nat.le_of_ble_eq_true rfl)⟩) hK hP [0, 1, 2] rfl rfl rfl rfl hl.1 rfl (Nat.le_of_ble_eq_true rfl) dX2_tipsTo_8 ⟨(Nat.le_of_ble_eq_true rfl), (Nat.le_of_ble_eq_true rfl)⟩ rfl ?_
  refine lv_aload_n hx hb dX2_tipsTo_11 rfl (lv_at hl 1 rfl) ?_
  refine lv_aload_n hx hb dX2_tipsTo_12 rfl (lv_at hl 0 rfl) ?_
  refine xXV (q0 := 0) (ci := 2) (As := [.ref (kq k)]) (rest := []) ⟨hx, hb, hml, hown, hts⟩ (c_X2_requireWayTo_x γ l hlt sa q0 q1 q2 q3 q4 kc td a1 n f (kq k) (ka k) (ks k) hn0 hn1 hcb) (cwV 1 hts gX2_tipsTo_X2_requireWayTo rfl rfl rfl hdv_X2_requireWayTo ⟨(Nat.le_of_ble_eq_true rfl), (Nat.le_of_ble_eq_true rfl)⟩) hK hP (fun U hU hW => hE.warm hW hU) [0, 1, 2, 4, 5] rfl rfl rfl rfl hl.1 rfl (Nat.le_of_ble_eq_true rfl) dX2_tipsTo_13 ⟨(Nat.le_of_ble_eq_true rfl), (Nat.le_of_ble_eq_true rfl)⟩ (fun H1 ce9 q9 hz9 hk9 hce hcv hcl => ?_)
  subst hQ
  exact vx_out (E := "java/lang/IllegalStateException") (fun x hx => (ht x hx).elim) hlocks hce hcv hcl (fun t ht9 _ => ⟨rfl, by rw [ht9]; exact hz9, by rw [ht9]; exact hk9⟩) (fun _ h => nomatch h) (Nat.le_refl _) (Nat.le_refl _)

set_option maxHeartbeats 4000000 in
set_option maxRecDepth 100000 in
theorem c_X2_placeFor_x (γ : xG) (l : Launch) (hlt : l.stackTraces = false) (sa : Nat → Nat) (q0 q1 q2 q3 q4 kc : Nat) (td : Int32) (x : Int32) (hxb : xInB x (-999) 999 = false) : xX γ l yX2_placeFor wsX2_placeFor ({ frames := 7, cells := 1, slots := 6, locals := 103 } : Room) [.ref q0, .int x] sa ([xO q0 2 [.ref q1, .ref q4, .int (nI kc), .int td, .ref q2, .ref q3]]) "java/lang/IllegalArgumentException" := by
  refine xX.of (cc := cX2_placeFor) (maxL := 2) (ret := (some .int)) (by decide +kernel) rfl (Nat.le_of_ble_eq_true rfl) ?_
  intro p e s m below meth c hx hb hr hml hts hown hlocks hP hK hE ht ls hl
  generalize hargs : ([.ref q0, .int x] : List Value).toArray = args at hts ⊢
  obtain ⟨Q, hQ⟩ : ∃ Q9, Q9 = vx_MQ below (fun _ _ _ _ => False) (xXQ "java/lang/IllegalArgumentException") args s 1 6 (fun _ => False) := ⟨_, rfl⟩
  rw [← hQ]
  have hown : s.vm.findClass RX2 = some m.cls := hown
  have hl : lv_has ls 2 [(0, .ref q0), (1, .int x)] := hl
  refine lv_aload_n hx hb dX2_placeFor_0 rfl (lv_at hl 0 rfl) ?_
  refine lv_iload_n hx hb dX2_placeFor_1 rfl (lv_at hl 1 rfl) ?_
  refine xXV (q0 := 0) (ci := 2) (As := [.int x]) (rest := []) ⟨hx, hb, hml, hown, hts⟩ (c_X2_requireNumber_x γ l hlt sa q0 q1 q2 q3 q4 kc td x hxb) (cwV 1 hts gX2_placeFor_X2_requireNumber rfl rfl rfl hdv_X2_requireNumber ⟨(Nat.le_of_ble_eq_true rfl), (Nat.le_of_ble_eq_true rfl)⟩) hK hP (fun U hU hW => hE.warm hW hU) [0] rfl rfl rfl rfl hl.1 rfl (Nat.le_of_ble_eq_true rfl) dX2_placeFor_2 ⟨(Nat.le_of_ble_eq_true rfl), (Nat.le_of_ble_eq_true rfl)⟩ (fun H1 ce9 q9 hz9 hk9 hce hcv hcl => ?_)
  subst hQ
  exact vx_out (E := "java/lang/IllegalArgumentException") (fun x hx => (ht x hx).elim) hlocks hce hcv hcl (fun t ht9 _ => ⟨rfl, by rw [ht9]; exact hz9, by rw [ht9]; exact hk9⟩) (fun _ h => nomatch h) (Nat.le_refl _) (Nat.le_refl _)

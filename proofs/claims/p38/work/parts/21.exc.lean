/-! bad calls of RingSeesaw: what they throw (rows laid by wip/whole/spec_exc.py) -/
theorem wdX2_requirePlace_x221a : Cond.classLink RX2 221 "java/lang/IndexOutOfBoundsException" ∈ wsX2_requirePlace := by decide +kernel
theorem wdX2_requirePlace_x221b : Cond.initialized "java/lang/IndexOutOfBoundsException" ∈ wsX2_requirePlace := by decide +kernel
theorem wdX2_requirePlace_at225 : ∀ w ∈ (vx_atS RX2 225 "java/lang/IndexOutOfBoundsException" ["java/lang/RuntimeException", "java/lang/Exception"]).filter goodWord, w ∈ wsX2_requirePlace := by decide +kernel
theorem vxat225_bad : ∀ w ∈ (vx_atS RX2 225 "java/lang/IndexOutOfBoundsException" ["java/lang/RuntimeException", "java/lang/Exception"]).filter (fun w => !goodWord w), w ∈ [Cond.castable "java/lang/IndexOutOfBoundsException" "java/lang/IndexOutOfBoundsException", Cond.declares ⟨"java/lang/RuntimeException", "<init>", "(Ljava/lang/String;)V"⟩, Cond.declares ⟨"java/lang/Exception", "<init>", "(Ljava/lang/String;)V"⟩, Cond.declares ⟨"java/lang/Throwable", "<init>", "(Ljava/lang/String;)V"⟩] := by decide +kernel
theorem vxat225_good : ∀ w ∈ Cond.classLink RX2 221 "java/lang/IndexOutOfBoundsException" :: Cond.initialized "java/lang/IndexOutOfBoundsException" :: vx_atS RX2 225 "java/lang/IndexOutOfBoundsException" ["java/lang/RuntimeException", "java/lang/Exception"], vx_ot w = true := by decide +kernel
theorem wdX2_requireNumber_x37a : Cond.classLink RX2 37 "java/lang/IllegalArgumentException" ∈ wsX2_requireNumber := by decide +kernel
theorem wdX2_requireNumber_x37b : Cond.initialized "java/lang/IllegalArgumentException" ∈ wsX2_requireNumber := by decide +kernel
theorem wdX2_requireNumber_at41 : ∀ w ∈ (vx_atS RX2 41 "java/lang/IllegalArgumentException" ["java/lang/RuntimeException", "java/lang/Exception"]).filter goodWord, w ∈ wsX2_requireNumber := by decide +kernel
theorem vxat41_bad : ∀ w ∈ (vx_atS RX2 41 "java/lang/IllegalArgumentException" ["java/lang/RuntimeException", "java/lang/Exception"]).filter (fun w => !goodWord w), w ∈ [Cond.castable "java/lang/IllegalArgumentException" "java/lang/IllegalArgumentException", Cond.declares ⟨"java/lang/RuntimeException", "<init>", "(Ljava/lang/String;)V"⟩, Cond.declares ⟨"java/lang/Exception", "<init>", "(Ljava/lang/String;)V"⟩, Cond.declares ⟨"java/lang/Throwable", "<init>", "(Ljava/lang/String;)V"⟩] := by decide +kernel
theorem vxat41_good : ∀ w ∈ Cond.classLink RX2 37 "java/lang/IllegalArgumentException" :: Cond.initialized "java/lang/IllegalArgumentException" :: vx_atS RX2 41 "java/lang/IllegalArgumentException" ["java/lang/RuntimeException", "java/lang/Exception"], vx_ot w = true := by decide +kernel
theorem wdX2_requireTimes_x37a : Cond.classLink RX2 37 "java/lang/IllegalArgumentException" ∈ wsX2_requireTimes := by decide +kernel
theorem wdX2_requireTimes_x37b : Cond.initialized "java/lang/IllegalArgumentException" ∈ wsX2_requireTimes := by decide +kernel
theorem wdX2_requireTimes_at41 : ∀ w ∈ (vx_atS RX2 41 "java/lang/IllegalArgumentException" ["java/lang/RuntimeException", "java/lang/Exception"]).filter goodWord, w ∈ wsX2_requireTimes := by decide +kernel
theorem wdX2_requireWayTo_x80a : Cond.classLink RX2 80 "java/lang/IllegalStateException" ∈ wsX2_requireWayTo := by decide +kernel
theorem wdX2_requireWayTo_x80b : Cond.initialized "java/lang/IllegalStateException" ∈ wsX2_requireWayTo := by decide +kernel
theorem wdX2_requireWayTo_at84 : ∀ w ∈ (vx_atS RX2 84 "java/lang/IllegalStateException" ["java/lang/RuntimeException", "java/lang/Exception"]).filter goodWord, w ∈ wsX2_requireWayTo := by decide +kernel
theorem vxat84_bad : ∀ w ∈ (vx_atS RX2 84 "java/lang/IllegalStateException" ["java/lang/RuntimeException", "java/lang/Exception"]).filter (fun w => !goodWord w), w ∈ [Cond.castable "java/lang/IllegalStateException" "java/lang/IllegalStateException", Cond.declares ⟨"java/lang/RuntimeException", "<init>", "(Ljava/lang/String;)V"⟩, Cond.declares ⟨"java/lang/Exception", "<init>", "(Ljava/lang/String;)V"⟩, Cond.declares ⟨"java/lang/Throwable", "<init>", "(Ljava/lang/String;)V"⟩] := by decide +kernel
theorem vxat84_good : ∀ w ∈ Cond.classLink RX2 80 "java/lang/IllegalStateException" :: Cond.initialized "java/lang/IllegalStateException" :: vx_atS RX2 84 "java/lang/IllegalStateException" ["java/lang/RuntimeException", "java/lang/Exception"], vx_ot w = true := by decide +kernel
set_option maxHeartbeats 4000000 in
set_option maxRecDepth 100000 in
theorem c_X2_requireWayTo_x (γ : xG) (l : Launch) (hlt : l.stackTraces = false) (sa : Nat → Nat) (q0 q1 q2 q3 q4 kc : Nat) (td : Int32) (a1 n : Nat) (f : xRow) (qk ak : Nat) (g : xRow) (hn0 : 3 ≤ n) (hn1 : n ≤ 12) (hcb : xCB n f g = false) : xX γ l yX2_requireWayTo wsX2_requireWayTo ({ frames := 6, cells := 1, slots := 6, locals := 82 } : Room) [.ref q0, .ref qk] sa ([xO q0 2 [.ref q1, .ref q4, .int (nI kc), .int td, .ref q2, .ref q3], xO q1 0 [.ref a1, .int (nI n)], xA γ a1 12 f, xO qk 0 [.ref ak, .int (nI n)], xA γ ak 12 g]) "java/lang/IllegalStateException" := by
  refine xX.of (cc := cX2_requireWayTo) (maxL := 2) (ret := none) (by decide +kernel) rfl (Nat.le_of_ble_eq_true rfl) ?_
  intro p e s m below meth c hx hb hr hml hts hown hlocks hP hK hE ht ls hl
  generalize hargs : ([.ref q0, .ref qk] : List Value).toArray = args at hts ⊢
  obtain ⟨Q, hQ⟩ : ∃ Q9, Q9 = vx_MQ below (fun _ _ _ _ => False) (xXQ "java/lang/IllegalStateException") args s 1 6 (fun _ => False) := ⟨_, rfl⟩
  rw [← hQ]
  have hown : s.vm.findClass RX2 = some m.cls := hown
  have hl : lv_has ls 2 [(0, .ref q0), (1, .ref qk)] := hl
  refine lv_aload_n hx hb dX2_requireWayTo_0 rfl (lv_at hl 0 rfl) ?_
  refine va_get (D := γ.1) (ci := 2) (v := .ref q1) (C := RX2) (T := TX2) (N := 6) hx hb hts iwX2_requireWayTo_2 hown hK hP 0 rfl rfl 0 (by decide) (hts _ flX2_requireWayTo_10) (fun _ h9 => h9) rfl dX2_requireWayTo_1 ?_
  refine lv_aload_n hx hb dX2_requireWayTo_4 rfl (lv_at hl 1 rfl) ?_
  refine xVR (q0 := 1) (ci := 0) (As := [.ref qk]) (rest := []) (stk := [.int (if xCB n f g = true then 1 else 0)]) ⟨hx, hb, hml, hown, hts⟩ (c_X0_canBecome γ l q1 a1 qk ak n f g (by omega) (by omega)) (cwV 1 hts gX2_requireWayTo_X0_canBecome rfl rfl rfl hdv_X0_canBecome ⟨(Nat.le_of_ble_eq_true rfl), (Nat.le_of_ble_eq_true rfl)⟩) hK hP [1, 2, 3, 4] rfl rfl rfl rfl hl.1 rfl (Nat.le_of_ble_eq_true rfl) dX2_requireWayTo_5 ⟨(Nat.le_of_ble_eq_true rfl), (Nat.le_of_ble_eq_true rfl)⟩ rfl ?_
  refine lv_if_ne (tgt := 21) hx hb dX2_requireWayTo_8 (by decide) (fun c => absurd ((xB_0 hcb).symm) c) (fun _ => ?_)
  subst hQ
  exact xX_throw (ik := 80) (is := 230) (ic := 84) (rest := []) hx hb hlt hown (by decide +kernel) hts wdX2_requireWayTo_x80a wdX2_requireWayTo_x80b hE.2.1.way wdX2_requireWayTo_at84 vxat84_bad (xBadS hE.1) vxat84_good hE hml hl.1 dX2_requireWayTo_11 dX2_requireWayTo_14 dX2_requireWayTo_15 dX2_requireWayTo_17 dX2_requireWayTo_20 ht hlocks (Nat.le_of_ble_eq_true rfl) (Nat.le_of_ble_eq_true rfl) (Nat.le_of_ble_eq_true rfl) (Nat.le_of_ble_eq_true rfl)

theorem wdX2_keptRing_x221a : Cond.classLink RX2 221 "java/lang/IndexOutOfBoundsException" ∈ wsX2_keptRing := by decide +kernel
theorem wdX2_keptRing_x221b : Cond.initialized "java/lang/IndexOutOfBoundsException" ∈ wsX2_keptRing := by decide +kernel
theorem wdX2_keptRing_at225 : ∀ w ∈ (vx_atS RX2 225 "java/lang/IndexOutOfBoundsException" ["java/lang/RuntimeException", "java/lang/Exception"]).filter goodWord, w ∈ wsX2_keptRing := by decide +kernel
theorem wdX2_lay_x37a : Cond.classLink RX2 37 "java/lang/IllegalArgumentException" ∈ wsX2_lay := by decide +kernel
theorem wdX2_lay_x37b : Cond.initialized "java/lang/IllegalArgumentException" ∈ wsX2_lay := by decide +kernel
theorem wdX2_lay_at41 : ∀ w ∈ (vx_atS RX2 41 "java/lang/IllegalArgumentException" ["java/lang/RuntimeException", "java/lang/Exception"]).filter goodWord, w ∈ wsX2_lay := by decide +kernel
theorem wdX2_settle_x37a : Cond.classLink RX2 37 "java/lang/IllegalArgumentException" ∈ wsX2_settle := by decide +kernel
theorem wdX2_settle_x37b : Cond.initialized "java/lang/IllegalArgumentException" ∈ wsX2_settle := by decide +kernel
theorem wdX2_settle_at41 : ∀ w ∈ (vx_atS RX2 41 "java/lang/IllegalArgumentException" ["java/lang/RuntimeException", "java/lang/Exception"]).filter goodWord, w ∈ wsX2_settle := by decide +kernel
theorem wdX2_keep_x80a : Cond.classLink RX2 80 "java/lang/IllegalStateException" ∈ wsX2_keep := by decide +kernel
theorem wdX2_keep_x80b : Cond.initialized "java/lang/IllegalStateException" ∈ wsX2_keep := by decide +kernel
theorem wdX2_keep_at84 : ∀ w ∈ (vx_atS RX2 84 "java/lang/IllegalStateException" ["java/lang/RuntimeException", "java/lang/Exception"]).filter goodWord, w ∈ wsX2_keep := by decide +kernel
set_option maxHeartbeats 4000000 in
set_option maxRecDepth 100000 in
theorem c_X2_keep_x (γ : xG) (l : Launch) (hlt : l.stackTraces = false) (sa : Nat → Nat) (q0 q1 q2 q3 q4 kc : Nat) (td : Int32) (hk : kc = 6) : xX γ l yX2_keep wsX2_keep ({ frames := 6, cells := 1, slots := 6, locals := 82 } : Room) [.ref q0] sa ([xO q0 2 [.ref q1, .ref q4, .int (nI kc), .int td, .ref q2, .ref q3]]) "java/lang/IllegalStateException" := by
  refine xX.of (cc := cX2_keep) (maxL := 2) (ret := (some .int)) (by decide +kernel) rfl (Nat.le_of_ble_eq_true rfl) ?_
  intro p e s m below meth c hx hb hr hml hts hown hlocks hP hK hE ht ls hl
  generalize hargs : ([.ref q0] : List Value).toArray = args at hts ⊢
  obtain ⟨Q, hQ⟩ : ∃ Q9, Q9 = vx_MQ below (fun _ _ _ _ => False) (xXQ "java/lang/IllegalStateException") args s 1 6 (fun _ => False) := ⟨_, rfl⟩
  rw [← hQ]
  have hown : s.vm.findClass RX2 = some m.cls := hown
  have hl : lv_has ls 2 [(0, .ref q0)] := hl
  refine lv_aload_n hx hb dX2_keep_0 rfl (lv_at hl 0 rfl) ?_
  refine va_get (D := γ.1) (ci := 2) (v := .int (nI kc)) (C := RX2) (T := TX2) (N := 6) hx hb hts iwX2_keep_2 hown hK hP 0 rfl rfl 2 (by decide) (hts _ flX2_keep_20) (fun _ h9 => h9) rfl dX2_keep_1 ?_
  refine lv_bipush (v := 6) hx hb dX2_keep_4 (by decide) ?_
  refine lv_icmp_lt (tgt := 19) hx hb dX2_keep_6 (by decide) (fun c => absurd c (nI_nlt (a := kc) (b := 6) (by omega) (by omega))) (fun _ => ?_)
  subst hQ
  exact xX_throw (ik := 80) (is := 82) (ic := 84) (rest := []) hx hb hlt hown (by decide +kernel) hts wdX2_keep_x80a wdX2_keep_x80b hE.2.1.keep wdX2_keep_at84 vxat84_bad (xBadS hE.1) vxat84_good hE hml hl.1 dX2_keep_9 dX2_keep_12 dX2_keep_13 dX2_keep_15 dX2_keep_18 ht hlocks (Nat.le_of_ble_eq_true rfl) (Nat.le_of_ble_eq_true rfl) (Nat.le_of_ble_eq_true rfl) (Nat.le_of_ble_eq_true rfl)

set_option maxHeartbeats 4000000 in
set_option maxRecDepth 100000 in
theorem c_X2_reach_x2 (γ : xG) (l : Launch) (hlt : l.stackTraces = false) (sa : Nat → Nat) (q0 q1 q2 q3 q4 kc : Nat) (td : Int32) (a1 n : Nat) (f : xRow) (kq ka : Nat → Nat) (kn : Nat → Int32) (ks : Nat → xRow) (k : Nat) (hn0 : 3 ≤ n) (hn1 : n ≤ 12) (hk : k < kc) (hkc : kc ≤ 6) (hcb : xCB n f (ks k) = false) : xX γ l yX2_reach wsX2_reach ({ frames := 7, cells := 1, slots := 6, locals := 103 } : Room) [.ref q0, .int (nI k)] sa ([xO q0 2 [.ref q1, .ref q4, .int (nI kc), .int td, .ref q2, .ref q3], xO q1 0 [.ref a1, .int (nI n)], xA γ a1 12 f, xQ γ q4 6 (fun t9 => some (kq t9)), xO (kq k) 0 [.ref (ka k), .int (nI n)], xA γ (ka k) 12 (ks k)]) "java/lang/IllegalStateException" := by
  refine xX.of (cc := cX2_reach) (maxL := 4) (ret := (some .int)) (by decide +kernel) rfl (Nat.le_of_ble_eq_true rfl) ?_
  intro p e s m below meth c hx hb hr hml hts hown hlocks hP hK hE ht ls hl
  generalize hargs : ([.ref q0, .int (nI k)] : List Value).toArray = args at hts ⊢
  obtain ⟨Q, hQ⟩ : ∃ Q9, Q9 = vx_MQ below (fun _ _ _ _ => False) (xXQ "java/lang/IllegalStateException") args s 1 6 (fun _ => False) := ⟨_, rfl⟩
  rw [← hQ]
  have hown : s.vm.findClass RX2 = some m.cls := hown
  have hl : lv_has ls 4 [(0, .ref q0), (1, .int (nI k))] := hl
  refine lv_aload_n hx hb dX2_reach_0 rfl (lv_at hl 0 rfl) ?_
  refine lv_iload_n hx hb dX2_reach_1 rfl (lv_at hl 1 rfl) ?_
  refine xVR (q0 := 0) (ci := 2) (As := [.int (nI k)]) (rest := []) (stk := [.ref (kq k)]) ⟨hx, hb, hml, hown, hts⟩ (c_X2_keptRing γ l q0 q1 q2 q3 q4 kc td kq k (by omega) (by omega)) (cwV 1 hts gX2_reach_X2_keptRing rfl rfl rfl hdv_X2_keptRing ⟨(Nat.le_of_ble_eq_true rfl), (Nat.le_of_ble_eq_true rfl)⟩) hK hP [0, 3] rfl rfl rfl rfl hl.1 rfl (Nat.le_of_ble_eq_true rfl) dX2_reach_2 ⟨(Nat.le_of_ble_eq_true rfl), (Nat.le_of_ble_eq_true rfl)⟩ rfl ?_
  refine lv_astore_n (lv' := [(2, .ref (kq k)), (0, .ref q0), (1, .int (nI k))]) hx hb dX2_reach_5 rfl hl (by decide) rfl (fun ls hl => ?_)
  refine lv_aload_n hx hb dX2_reach_6 rfl (lv_at hl 1 rfl) ?_
  refine lv_aload_n hx hb dX2_reach_7 rfl (lv_at hl 0 rfl) ?_
  refine xXV (q0 := 0) (ci := 2) (As := [.ref (kq k)]) (rest := []) ⟨hx, hb, hml, hown, hts⟩ (c_X2_requireWayTo_x γ l hlt sa q0 q1 q2 q3 q4 kc td a1 n f (kq k) (ka k) (ks k) hn0 hn1 hcb) (cwV 1 hts gX2_reach_X2_requireWayTo rfl rfl rfl hdv_X2_requireWayTo ⟨(Nat.le_of_ble_eq_true rfl), (Nat.le_of_ble_eq_true rfl)⟩) hK hP (fun U hU hW => hE.warm hW hU) [0, 1, 2, 4, 5] rfl rfl rfl rfl hl.1 rfl (Nat.le_of_ble_eq_true rfl) dX2_reach_8 ⟨(Nat.le_of_ble_eq_true rfl), (Nat.le_of_ble_eq_true rfl)⟩ (fun H1 ce9 q9 hz9 hk9 hce hcv hcl => ?_)
  subst hQ
  exact vx_out (E := "java/lang/IllegalStateException") (fun x hx => (ht x hx).elim) hlocks hce hcv hcl (fun t ht9 _ => ⟨rfl, by rw [ht9]; exact hz9, by rw [ht9]; exact hk9⟩) (fun _ h => nomatch h) (Nat.le_refl _) (Nat.le_refl _)

/-! the constructors (rows laid by wip/whole/spec_ctor.py) -/
theorem wdX0_init_o1 : Cond.methodLink RX0 3 objectInit ∈ wsX0_init := by decide +kernel
theorem wdX0_init_o2 : Cond.instanceMethod objectInit ∈ wsX0_init := by decide +kernel
theorem wdX0_init_o3 : Cond.code objectInit ⟨#[0xb1]⟩ 1 none ∈ wsX0_init := by decide +kernel
theorem wdX0_init_naint : Cond.arrayClass .int ∈ wsX0_init := by decide +kernel
theorem flX0_init_9 : Cond.fieldLink RX0 9 "RingSeesaw$Ring" "numbers" "[I" ∈ wsX0_init := by decide +kernel
theorem iwX0_init_0 : ∀ w ∈ wsX00, w ∈ wsX0_init := by decide +kernel
theorem flX0_init_15 : Cond.fieldLink RX0 15 "RingSeesaw$Ring" "size" "I" ∈ wsX0_init := by decide +kernel
set_option maxHeartbeats 4000000 in
set_option maxRecDepth 100000 in
theorem c_X0_init (γ : xG) (l : Launch) (q0 : Nat) : xN γ l yX0_init wsX0_init ({ frames := 1, cells := 1, slots := 12, locals := 12 } : Room) [.ref q0] (fun _ => True) ([xO q0 0 [.null, .int 0]]) (fun w9 => ∃ a9 : Nat, w9 = [xO q0 0 [.ref a9, .int 6], xA γ a9 12 (fun _ => 0)]) 1 12 := by
  refine xN.of (cc := cX0_init) (maxL := 1) (ret := none) (by decide +kernel) rfl (Nat.le_of_ble_eq_true rfl) ?_
  intro p e s m below meth c hx hb hr hml hts hown hlocks hin hP hK hEx A hA hD ls hl
  have hS : va_S A s.heap s.heap [] := va_S.rf
  generalize hargs : ([.ref q0] : List Value).toArray = args at hts ⊢
  obtain ⟨Q, hQ⟩ : ∃ Q9, Q9 = MQ below (xNQ γ A (fun w9 => ∃ a9 : Nat, w9 = [xO q0 0 [.ref a9, .int 6], xA γ a9 12 (fun _ => 0)])) args s 1 12 A := ⟨_, rfl⟩
  rw [← hQ]
  have hown : s.vm.findClass RX0 = some m.cls := hown
  have hl : lv_has ls 1 [(0, .ref q0)] := hl
  refine lv_aload_n hx hb dX0_init_0 rfl (lv_at hl 0 rfl) ?_
  refine W.objInit hx hb hown (hts _ wdX0_init_o1) (hts _ wdX0_init_o2) (hts _ wdX0_init_o3) rfl (by rw [hml]; exact hl.1) rfl dX0_init_1 (Nat.le_of_ble_eq_true rfl) (Nat.le_of_ble_eq_true rfl) ?_
  refine W.eq (g2 := F0 m 4 ls []) rfl ?_
  refine lv_aload_n hx hb dX0_init_4 rfl (lv_at hl 0 rfl) ?_
  refine lv_bipush (v := 12) hx hb dX0_init_5 (by decide) ?_
  refine x_newI hx hb (hts _ wdX0_init_naint) hK hP hD hS hA 12 (by decide) (by decide) (by decide) (Nat.le_of_ble_eq_true rfl) (Nat.le_of_ble_eq_true rfl) dX0_init_7 (fun q7x H hP hD hS => ?_)
  have hP : xP γ ([xO q0 0 [.null, .int 0], xA γ q7x 12 (fun _ => 0)]) H := hP
  have hD : va_D A ([xO q0 0 [.null, .int 0], xA γ q7x 12 (fun _ => 0)]) := hD
  refine va_putF (D := γ.1) (ci := 0) (v := .ref q7x) (ty := .array .int) (C := RX0) (T := TX0) (N := 2) hx hb hts iwX0_init_0 tyX0 tyX0_ok nmX0 hown hK hP hD hS 0 rfl rfl 0 (by decide) (hts _ flX0_init_9) (fun _ h9 => h9) rfl hin rfl (by decide +kernel) rfl rfl (Nat.le_of_ble_eq_true rfl) dX0_init_9 (fun H locs hP hD hS => ?_)
  have hP : xP γ ([xO q0 0 [.ref q7x, .int 0], xA γ q7x 12 (fun _ => 0)]) H := hP
  have hD : va_D A ([xO q0 0 [.ref q7x, .int 0], xA γ q7x 12 (fun _ => 0)]) := hD
  refine lv_aload_n hx hb dX0_init_12 rfl (lv_at hl 0 rfl) ?_
  refine lv_bipush (v := 6) hx hb dX0_init_13 (by decide) ?_
  refine va_put (D := γ.1) (ci := 0) (v := .int 6) (ty := .int) (C := RX0) (T := TX0) (N := 2) hx hb hts iwX0_init_0 tyX0 tyX0_ok nmX0 hown hK hP hD hS 0 rfl rfl 1 (by decide) (hts _ flX0_init_15) (fun _ h9 => h9) rfl (by decide +kernel) rfl rfl (Nat.le_of_ble_eq_true rfl) dX0_init_15 (fun H locs hP hD hS => ?_)
  have hP : xP γ ([xO q0 0 [.ref q7x, .int 6], xA γ q7x 12 (fun _ => 0)]) H := hP
  have hD : va_D A ([xO q0 0 [.ref q7x, .int 6], xA γ q7x 12 (fun _ => 0)]) := hD
  subst hQ
  exact xN_v hx hb hr hlocks dX0_init_18 hP hD hS (Nat.le_of_ble_eq_true rfl) (Nat.le_of_ble_eq_true rfl) (⟨_, rfl⟩)

theorem wdX1_init_o1 : Cond.methodLink RX1 3 objectInit ∈ wsX1_init := by decide +kernel
theorem wdX1_init_o2 : Cond.instanceMethod objectInit ∈ wsX1_init := by decide +kernel
theorem wdX1_init_o3 : Cond.code objectInit ⟨#[0xb1]⟩ 1 none ∈ wsX1_init := by decide +kernel
theorem wdX1_init_naint : Cond.arrayClass .int ∈ wsX1_init := by decide +kernel
theorem flX1_init_9 : Cond.fieldLink RX1 9 "RingSeesaw$Way" "tips" "[I" ∈ wsX1_init := by decide +kernel
theorem iwX1_init_1 : ∀ w ∈ wsX10, w ∈ wsX1_init := by decide +kernel
theorem flX1_init_15 : Cond.fieldLink RX1 15 "RingSeesaw$Way" "size" "I" ∈ wsX1_init := by decide +kernel
set_option maxHeartbeats 4000000 in
set_option maxRecDepth 100000 in
theorem c_X1_init (γ : xG) (l : Launch) (q0 : Nat) : xN γ l yX1_init wsX1_init ({ frames := 1, cells := 1, slots := 12, locals := 12 } : Room) [.ref q0] (fun _ => True) ([xO q0 1 [.null, .int 0]]) (fun w9 => ∃ a9 : Nat, w9 = [xO q0 1 [.ref a9, .int 0], xA γ a9 12 (fun _ => 0)]) 1 12 := by
  refine xN.of (cc := cX1_init) (maxL := 1) (ret := none) (by decide +kernel) rfl (Nat.le_of_ble_eq_true rfl) ?_
  intro p e s m below meth c hx hb hr hml hts hown hlocks hin hP hK hEx A hA hD ls hl
  have hS : va_S A s.heap s.heap [] := va_S.rf
  generalize hargs : ([.ref q0] : List Value).toArray = args at hts ⊢
  obtain ⟨Q, hQ⟩ : ∃ Q9, Q9 = MQ below (xNQ γ A (fun w9 => ∃ a9 : Nat, w9 = [xO q0 1 [.ref a9, .int 0], xA γ a9 12 (fun _ => 0)])) args s 1 12 A := ⟨_, rfl⟩
  rw [← hQ]
  have hown : s.vm.findClass RX1 = some m.cls := hown
  have hl : lv_has ls 1 [(0, .ref q0)] := hl
  refine lv_aload_n hx hb dX1_init_0 rfl (lv_at hl 0 rfl) ?_
  refine W.objInit hx hb hown (hts _ wdX1_init_o1) (hts _ wdX1_init_o2) (hts _ wdX1_init_o3) rfl (by rw [hml]; exact hl.1) rfl dX1_init_1 (Nat.le_of_ble_eq_true rfl) (Nat.le_of_ble_eq_true rfl) ?_
  refine W.eq (g2 := F0 m 4 ls []) rfl ?_
  refine lv_aload_n hx hb dX1_init_4 rfl (lv_at hl 0 rfl) ?_
  refine lv_bipush (v := 12) hx hb dX1_init_5 (by decide) ?_
  refine x_newI hx hb (hts _ wdX1_init_naint) hK hP hD hS hA 12 (by decide) (by decide) (by decide) (Nat.le_of_ble_eq_true rfl) (Nat.le_of_ble_eq_true rfl) dX1_init_7 (fun q7x H hP hD hS => ?_)
  have hP : xP γ ([xO q0 1 [.null, .int 0], xA γ q7x 12 (fun _ => 0)]) H := hP
  have hD : va_D A ([xO q0 1 [.null, .int 0], xA γ q7x 12 (fun _ => 0)]) := hD
  refine va_putF (D := γ.1) (ci := 1) (v := .ref q7x) (ty := .array .int) (C := RX1) (T := TX1) (N := 2) hx hb hts iwX1_init_1 tyX1 tyX1_ok nmX1 hown hK hP hD hS 0 rfl rfl 0 (by decide) (hts _ flX1_init_9) (fun _ h9 => h9) rfl hin rfl (by decide +kernel) rfl rfl (Nat.le_of_ble_eq_true rfl) dX1_init_9 (fun H locs hP hD hS => ?_)
  have hP : xP γ ([xO q0 1 [.ref q7x, .int 0], xA γ q7x 12 (fun _ => 0)]) H := hP
  have hD : va_D A ([xO q0 1 [.ref q7x, .int 0], xA γ q7x 12 (fun _ => 0)]) := hD
  refine lv_aload_n hx hb dX1_init_12 rfl (lv_at hl 0 rfl) ?_
  refine lv_iconst (v := 0) hx hb dX1_init_13 (by decide) ?_
  refine va_put (D := γ.1) (ci := 1) (v := .int 0) (ty := .int) (C := RX1) (T := TX1) (N := 2) hx hb hts iwX1_init_1 tyX1 tyX1_ok nmX1 hown hK hP hD hS 0 rfl rfl 1 (by decide) (hts _ flX1_init_15) (fun _ h9 => h9) rfl (by decide +kernel) rfl rfl (Nat.le_of_ble_eq_true rfl) dX1_init_14 (fun H locs hP hD hS => ?_)
  have hP : xP γ ([xO q0 1 [.ref q7x, .int 0], xA γ q7x 12 (fun _ => 0)]) H := hP
  have hD : va_D A ([xO q0 1 [.ref q7x, .int 0], xA γ q7x 12 (fun _ => 0)]) := hD
  subst hQ
  exact xN_v hx hb hr hlocks dX1_init_17 hP hD hS (Nat.le_of_ble_eq_true rfl) (Nat.le_of_ble_eq_true rfl) (⟨_, rfl⟩)

theorem wdX3_init_o1 : Cond.methodLink RX3 1 objectInit ∈ wsX3_init := by decide +kernel
theorem wdX3_init_o2 : Cond.instanceMethod objectInit ∈ wsX3_init := by decide +kernel
theorem wdX3_init_o3 : Cond.code objectInit ⟨#[0xb1]⟩ 1 none ∈ wsX3_init := by decide +kernel
theorem flX3_init_7 : Cond.fieldLink RX3 7 "RingSeesawModel" "n" "I" ∈ wsX3_init := by decide +kernel
theorem iwX3_init_3 : ∀ w ∈ wsX30, w ∈ wsX3_init := by decide +kernel
theorem wdX3_init_naint : Cond.arrayClass .int ∈ wsX3_init := by decide +kernel
theorem flX3_init_13 : Cond.fieldLink RX3 13 "RingSeesawModel" "x" "[I" ∈ wsX3_init := by decide +kernel
theorem flX3_init_17 : Cond.fieldLink RX3 17 "RingSeesawModel" "then" "[I" ∈ wsX3_init := by decide +kernel
theorem flX3_init_20 : Cond.fieldLink RX3 20 "RingSeesawModel" "target" "[I" ∈ wsX3_init := by decide +kernel
theorem flX3_init_23 : Cond.fieldLink RX3 23 "RingSeesawModel" "tip" "[I" ∈ wsX3_init := by decide +kernel
set_option maxHeartbeats 4000000 in
set_option maxRecDepth 100000 in
theorem c_X3_init (γ : xG) (l : Launch) (m0 : Nat) : xN γ l yX3_init wsX3_init ({ frames := 1, cells := 4, slots := 110, locals := 12 } : Room) [.ref m0] (fun _ => True) ([xO m0 3 [.int 0, .int 0, .int 0, .int 0, .null, .null, .null, .null]]) (fun w9 => ∃ m1 m2 m3 m4 : Nat, w9 = [xO m0 3 [.int 0, .int 6, .int 0, .int 0, .ref m1, .ref m2, .ref m3, .ref m4], xA γ m1 12 (fun _ => 0), xA γ m2 12 (fun _ => 0), xA γ m3 72 (fun _ => 0), xA γ m4 14 (fun _ => 0)]) 4 110 := by
  refine xN.of (cc := cX3_init) (maxL := 1) (ret := none) (by decide +kernel) rfl (Nat.le_of_ble_eq_true rfl) ?_
  intro p e s m below meth c hx hb hr hml hts hown hlocks hin hP hK hEx A hA hD ls hl
  have hS : va_S A s.heap s.heap [] := va_S.rf
  generalize hargs : ([.ref m0] : List Value).toArray = args at hts ⊢
  obtain ⟨Q, hQ⟩ : ∃ Q9, Q9 = MQ below (xNQ γ A (fun w9 => ∃ m1 m2 m3 m4 : Nat, w9 = [xO m0 3 [.int 0, .int 6, .int 0, .int 0, .ref m1, .ref m2, .ref m3, .ref m4], xA γ m1 12 (fun _ => 0), xA γ m2 12 (fun _ => 0), xA γ m3 72 (fun _ => 0), xA γ m4 14 (fun _ => 0)])) args s 4 110 A := ⟨_, rfl⟩
  rw [← hQ]
  have hown : s.vm.findClass RX3 = some m.cls := hown
  have hl : lv_has ls 1 [(0, .ref m0)] := hl
  refine lv_aload_n hx hb dX3_init_0 rfl (lv_at hl 0 rfl) ?_
  refine W.objInit hx hb hown (hts _ wdX3_init_o1) (hts _ wdX3_init_o2) (hts _ wdX3_init_o3) rfl (by rw [hml]; exact hl.1) rfl dX3_init_1 (Nat.le_of_ble_eq_true rfl) (Nat.le_of_ble_eq_true rfl) ?_
  refine W.eq (g2 := F0 m 4 ls []) rfl ?_
  refine lv_aload_n hx hb dX3_init_4 rfl (lv_at hl 0 rfl) ?_
  refine lv_bipush (v := 6) hx hb dX3_init_5 (by decide) ?_
  refine va_put (D := γ.1) (ci := 3) (v := .int 6) (ty := .int) (C := RX3) (T := TX3) (N := 8) hx hb hts iwX3_init_3 tyX3 tyX3_ok nmX3 hown hK hP hD hS 0 rfl rfl 1 (by decide) (hts _ flX3_init_7) (fun _ h9 => h9) rfl (by decide +kernel) rfl rfl (Nat.le_of_ble_eq_true rfl) dX3_init_7 (fun H locs hP hD hS => ?_)
  have hP : xP γ ([xO m0 3 [.int 0, .int 6, .int 0, .int 0, .null, .null, .null, .null]]) H := hP
  have hD : va_D A ([xO m0 3 [.int 0, .int 6, .int 0, .int 0, .null, .null, .null, .null]]) := hD
  refine lv_aload_n hx hb dX3_init_10 rfl (lv_at hl 0 rfl) ?_
  refine lv_bipush (v := 12) hx hb dX3_init_11 (by decide) ?_
  refine x_newI hx hb (hts _ wdX3_init_naint) hK hP hD hS hA 12 (by decide) (by decide) (by decide) (Nat.le_of_ble_eq_true rfl) (Nat.le_of_ble_eq_true rfl) dX3_init_13 (fun q13x H hP hD hS => ?_)
  have hP : xP γ ([xO m0 3 [.int 0, .int 6, .int 0, .int 0, .null, .null, .null, .null], xA γ q13x 12 (fun _ => 0)]) H := hP
  have hD : va_D A ([xO m0 3 [.int 0, .int 6, .int 0, .int 0, .null, .null, .null, .null], xA γ q13x 12 (fun _ => 0)]) := hD
  refine va_putF (D := γ.1) (ci := 3) (v := .ref q13x) (ty := .array .int) (C := RX3) (T := TX3) (N := 8) hx hb hts iwX3_init_3 tyX3 tyX3_ok nmX3 hown hK hP hD hS 0 rfl rfl 4 (by decide) (hts _ flX3_init_13) (fun _ h9 => h9) rfl hin rfl (by decide +kernel) rfl rfl (Nat.le_of_ble_eq_true rfl) dX3_init_15 (fun H locs hP hD hS => ?_)
  have hP : xP γ ([xO m0 3 [.int 0, .int 6, .int 0, .int 0, .ref q13x, .null, .null, .null], xA γ q13x 12 (fun _ => 0)]) H := hP
  have hD : va_D A ([xO m0 3 [.int 0, .int 6, .int 0, .int 0, .ref q13x, .null, .null, .null], xA γ q13x 12 (fun _ => 0)]) := hD
  refine lv_aload_n hx hb dX3_init_18 rfl (lv_at hl 0 rfl) ?_
  refine lv_bipush (v := 12) hx hb dX3_init_19 (by decide) ?_
  refine x_newI hx hb (hts _ wdX3_init_naint) hK hP hD hS hA 12 (by decide) (by decide) (by decide) (Nat.le_of_ble_eq_true rfl) (Nat.le_of_ble_eq_true rfl) dX3_init_21 (fun q21x H hP hD hS => ?_)
  have hP : xP γ ([xO m0 3 [.int 0, .int 6, .int 0, .int 0, .ref q13x, .null, .null, .null], xA γ q13x 12 (fun _ => 0), xA γ q21x 12 (fun _ => 0)]) H := hP
  have hD : va_D A ([xO m0 3 [.int 0, .int 6, .int 0, .int 0, .ref q13x, .null, .null, .null], xA γ q13x 12 (fun _ => 0), xA γ q21x 12 (fun _ => 0)]) := hD
  refine va_putF (D := γ.1) (ci := 3) (v := .ref q21x) (ty := .array .int) (C := RX3) (T := TX3) (N := 8) hx hb hts iwX3_init_3 tyX3 tyX3_ok nmX3 hown hK hP hD hS 0 rfl rfl 5 (by decide) (hts _ flX3_init_17) (fun _ h9 => h9) rfl hin rfl (by decide +kernel) rfl rfl (Nat.le_of_ble_eq_true rfl) dX3_init_23 (fun H locs hP hD hS => ?_)
  have hP : xP γ ([xO m0 3 [.int 0, .int 6, .int 0, .int 0, .ref q13x, .ref q21x, .null, .null], xA γ q13x 12 (fun _ => 0), xA γ q21x 12 (fun _ => 0)]) H := hP
  have hD : va_D A ([xO m0 3 [.int 0, .int 6, .int 0, .int 0, .ref q13x, .ref q21x, .null, .null], xA γ q13x 12 (fun _ => 0), xA γ q21x 12 (fun _ => 0)]) := hD
  refine lv_aload_n hx hb dX3_init_26 rfl (lv_at hl 0 rfl) ?_
  refine lv_bipush (v := 72) hx hb dX3_init_27 (by decide) ?_
  refine x_newI hx hb (hts _ wdX3_init_naint) hK hP hD hS hA 72 (by decide) (by decide) (by decide) (Nat.le_of_ble_eq_true rfl) (Nat.le_of_ble_eq_true rfl) dX3_init_29 (fun q29x H hP hD hS => ?_)
  have hP : xP γ ([xO m0 3 [.int 0, .int 6, .int 0, .int 0, .ref q13x, .ref q21x, .null, .null], xA γ q13x 12 (fun _ => 0), xA γ q21x 12 (fun _ => 0), xA γ q29x 72 (fun _ => 0)]) H := hP
  have hD : va_D A ([xO m0 3 [.int 0, .int 6, .int 0, .int 0, .ref q13x, .ref q21x, .null, .null], xA γ q13x 12 (fun _ => 0), xA γ q21x 12 (fun _ => 0), xA γ q29x 72 (fun _ => 0)]) := hD
  refine va_putF (D := γ.1) (ci := 3) (v := .ref q29x) (ty := .array .int) (C := RX3) (T := TX3) (N := 8) hx hb hts iwX3_init_3 tyX3 tyX3_ok nmX3 hown hK hP hD hS 0 rfl rfl 6 (by decide) (hts _ flX3_init_20) (fun _ h9 => h9) rfl hin rfl (by decide +kernel) rfl rfl (Nat.le_of_ble_eq_true rfl) dX3_init_31 (fun H locs hP hD hS => ?_)
  have hP : xP γ ([xO m0 3 [.int 0, .int 6, .int 0, .int 0, .ref q13x, .ref q21x, .ref q29x, .null], xA γ q13x 12 (fun _ => 0), xA γ q21x 12 (fun _ => 0), xA γ q29x 72 (fun _ => 0)]) H := hP
  have hD : va_D A ([xO m0 3 [.int 0, .int 6, .int 0, .int 0, .ref q13x, .ref q21x, .ref q29x, .null], xA γ q13x 12 (fun _ => 0), xA γ q21x 12 (fun _ => 0), xA γ q29x 72 (fun _ => 0)]) := hD
  refine lv_aload_n hx hb dX3_init_34 rfl (lv_at hl 0 rfl) ?_
  refine lv_bipush (v := 14) hx hb dX3_init_35 (by decide) ?_
  refine x_newI hx hb (hts _ wdX3_init_naint) hK hP hD hS hA 14 (by decide) (by decide) (by decide) (Nat.le_of_ble_eq_true rfl) (Nat.le_of_ble_eq_true rfl) dX3_init_37 (fun q37x H hP hD hS => ?_)
  have hP : xP γ ([xO m0 3 [.int 0, .int 6, .int 0, .int 0, .ref q13x, .ref q21x, .ref q29x, .null], xA γ q13x 12 (fun _ => 0), xA γ q21x 12 (fun _ => 0), xA γ q29x 72 (fun _ => 0), xA γ q37x 14 (fun _ => 0)]) H := hP
  have hD : va_D A ([xO m0 3 [.int 0, .int 6, .int 0, .int 0, .ref q13x, .ref q21x, .ref q29x, .null], xA γ q13x 12 (fun _ => 0), xA γ q21x 12 (fun _ => 0), xA γ q29x 72 (fun _ => 0), xA γ q37x 14 (fun _ => 0)]) := hD
  refine va_putF (D := γ.1) (ci := 3) (v := .ref q37x) (ty := .array .int) (C := RX3) (T := TX3) (N := 8) hx hb hts iwX3_init_3 tyX3 tyX3_ok nmX3 hown hK hP hD hS 0 rfl rfl 7 (by decide) (hts _ flX3_init_23) (fun _ h9 => h9) rfl hin rfl (by decide +kernel) rfl rfl (Nat.le_of_ble_eq_true rfl) dX3_init_39 (fun H locs hP hD hS => ?_)
  have hP : xP γ ([xO m0 3 [.int 0, .int 6, .int 0, .int 0, .ref q13x, .ref q21x, .ref q29x, .ref q37x], xA γ q13x 12 (fun _ => 0), xA γ q21x 12 (fun _ => 0), xA γ q29x 72 (fun _ => 0), xA γ q37x 14 (fun _ => 0)]) H := hP
  have hD : va_D A ([xO m0 3 [.int 0, .int 6, .int 0, .int 0, .ref q13x, .ref q21x, .ref q29x, .ref q37x], xA γ q13x 12 (fun _ => 0), xA γ q21x 12 (fun _ => 0), xA γ q29x 72 (fun _ => 0), xA γ q37x 14 (fun _ => 0)]) := hD
  subst hQ
  exact xN_v hx hb hr hlocks dX3_init_42 hP hD hS (Nat.le_of_ble_eq_true rfl) (Nat.le_of_ble_eq_true rfl) (⟨_, _, _, _, rfl⟩)

theorem wdX2_init_o1 : Cond.methodLink RX2 1 objectInit ∈ wsX2_init := by decide +kernel
theorem wdX2_init_o2 : Cond.instanceMethod objectInit ∈ wsX2_init := by decide +kernel
theorem wdX2_init_o3 : Cond.code objectInit ⟨#[0xb1]⟩ 1 none ∈ wsX2_init := by decide +kernel
theorem wdX2_init_n7a : Cond.classLink RX2 7 RX0 ∈ wsX2_init := by decide +kernel
theorem wdX2_init_n0b : Cond.instantiable RX0 2 ∈ wsX2_init := by decide +kernel
theorem wdX2_init_n0c : Cond.initialized RX0 ∈ wsX2_init := by decide +kernel
theorem iwX2_init_0 : ∀ w ∈ wsX00, w ∈ wsX2_init := by decide +kernel
theorem wdX2_init_iX0_init : Cond.instanceMethod yX0_init ∈ wsX2_init := by decide +kernel
theorem hds_X0_init : yX0_init.cls ≠ "java/lang/invoke/MethodHandle" ∧ yX0_init.cls ≠ "java/lang/invoke/VarHandle" ∧ (parseMethodDescriptor yX0_init.desc).map (fun d => d.parameters.length) = some 0 := by decide +kernel
theorem flX2_init_10 : Cond.fieldLink RX2 10 "RingSeesaw" "ring" "LRingSeesaw$Ring;" ∈ wsX2_init := by decide +kernel
theorem iwX2_init_2 : ∀ w ∈ wsX20, w ∈ wsX2_init := by decide +kernel
theorem flX2_init_16 : Cond.fieldLink RX2 16 "RingSeesaw" "kept" "[LRingSeesaw$Ring;" ∈ wsX2_init := by decide +kernel
theorem flX2_init_20 : Cond.fieldLink RX2 20 "RingSeesaw" "keptCount" "I" ∈ wsX2_init := by decide +kernel
theorem flX2_init_24 : Cond.fieldLink RX2 24 "RingSeesaw" "tipsDone" "I" ∈ wsX2_init := by decide +kernel
theorem flX2_init_27 : Cond.fieldLink RX2 27 "RingSeesaw" "trial" "LRingSeesaw$Ring;" ∈ wsX2_init := by decide +kernel
theorem wdX2_init_n30a : Cond.classLink RX2 30 RX1 ∈ wsX2_init := by decide +kernel
theorem wdX2_init_n1b : Cond.instantiable RX1 2 ∈ wsX2_init := by decide +kernel
theorem wdX2_init_n1c : Cond.initialized RX1 ∈ wsX2_init := by decide +kernel
theorem iwX2_init_1 : ∀ w ∈ wsX10, w ∈ wsX2_init := by decide +kernel
theorem wdX2_init_iX1_init : Cond.instanceMethod yX1_init ∈ wsX2_init := by decide +kernel
theorem hds_X1_init : yX1_init.cls ≠ "java/lang/invoke/MethodHandle" ∧ yX1_init.cls ≠ "java/lang/invoke/VarHandle" ∧ (parseMethodDescriptor yX1_init.desc).map (fun d => d.parameters.length) = some 0 := by decide +kernel
theorem flX2_init_33 : Cond.fieldLink RX2 33 "RingSeesaw" "way" "LRingSeesaw$Way;" ∈ wsX2_init := by decide +kernel
set_option maxHeartbeats 4000000 in
set_option maxRecDepth 100000 in
theorem c_X2_init (γ : xG) (l : Launch) (q0 : Nat) : xN γ l yX2_init wsX2_init ({ frames := 2, cells := 19, slots := 132, locals := 32 } : Room) [.ref q0] (fun U => va_AO RX0 U ∧ va_Nw (.methodLinkNest RX2 9 yX0_init RX2) U ∧ va_Nw (.methodLinkNest RX2 32 yX1_init RX2) U) ([xO q0 2 [.null, .null, .int 0, .int 0, .null, .null]]) (fun w9 => ∃ (q1 a1 q2 a2 q3 a3 q4 : Nat) (kq ka : Nat → Nat), w9 = [xO q0 2 [.ref q1, .ref q4, .int (nI 0), .int 0, .ref q2, .ref q3], xO q1 0 [.ref a1, .int (nI 6)], xA γ a1 12 (fun _ => 0), xO q2 0 [.ref a2, .int (nI 6)], xA γ a2 12 (fun _ => 0), xO q3 1 [.ref a3, .int 0], xA γ a3 12 (fun _ => 0), xQ γ q4 6 (fun t9 => some (kq t9))] ++ xKp γ kq ka (fun _ => nI 6) (fun _ _ => 0)) 19 132 := by
  refine xN.of (cc := cX2_init) (maxL := 2) (ret := none) (by decide +kernel) rfl (Nat.le_of_ble_eq_true rfl) ?_
  intro p e s m below meth c hx hb hr hml hts hown hlocks hin hP hK hEx A hA hD ls hl
  have hS : va_S A s.heap s.heap [] := va_S.rf
  generalize hargs : ([.ref q0] : List Value).toArray = args at hts ⊢
  obtain ⟨Q, hQ⟩ : ∃ Q9, Q9 = MQ below (xNQ γ A (fun w9 => ∃ (q1 a1 q2 a2 q3 a3 q4 : Nat) (kq ka : Nat → Nat), w9 = [xO q0 2 [.ref q1, .ref q4, .int (nI 0), .int 0, .ref q2, .ref q3], xO q1 0 [.ref a1, .int (nI 6)], xA γ a1 12 (fun _ => 0), xO q2 0 [.ref a2, .int (nI 6)], xA γ a2 12 (fun _ => 0), xO q3 1 [.ref a3, .int 0], xA γ a3 12 (fun _ => 0), xQ γ q4 6 (fun t9 => some (kq t9))] ++ xKp γ kq ka (fun _ => nI 6) (fun _ _ => 0))) args s 19 132 A := ⟨_, rfl⟩
  rw [← hQ]
  have hown : s.vm.findClass RX2 = some m.cls := hown
  have hl : lv_has ls 2 [(0, .ref q0)] := hl
  refine lv_aload_n hx hb dX2_init_0 rfl (lv_at hl 0 rfl) ?_
  refine W.objInit hx hb hown (hts _ wdX2_init_o1) (hts _ wdX2_init_o2) (hts _ wdX2_init_o3) rfl (by rw [hml]; exact hl.1) rfl dX2_init_1 (Nat.le_of_ble_eq_true rfl) (Nat.le_of_ble_eq_true rfl) ?_
  refine W.eq (g2 := F0 m 4 ls []) rfl ?_
  refine lv_aload_n hx hb dX2_init_4 rfl (lv_at hl 0 rfl) ?_
  refine va_new (ci := 0) (fs := [.null, .int 0]) (C := RX0) (T := TX0) (N := 2) hx hb hts iwX2_init_0 tyX0 tyX0_ok hown (hts _ wdX2_init_n7a) (hts _ wdX2_init_n0b) (hts _ wdX2_init_n0c) hK hP hD hS hA rfl (by decide +kernel) (Nat.le_of_ble_eq_true rfl) (Nat.le_of_ble_eq_true rfl) dX2_init_5 (fun q5x0 H hP hD hS => ?_)
  have hP : xP γ ([xO q0 2 [.null, .null, .int 0, .int 0, .null, .null], xO q5x0 0 [.null, .int 0]]) H := hP
  have hD : va_D A ([xO q0 2 [.null, .null, .int 0, .int 0, .null, .null], xO q5x0 0 [.null, .int 0]]) := hD
  refine lv_dup hx hb dX2_init_8 rfl ?_
  refine xIN (wr := [xO q0 2 [.null, .null, .int 0, .int 0, .null, .null]]) (rest := [.ref q5x0, .ref q0]) (isC := [1]) (isR := [0]) ⟨hx, hb, hml, hown, hts⟩ (c_X0_init γ l q5x0) (va_cnB 0 hts gX2_init_X0_init_n9 rfl rfl rfl (hEx.2.1) (hts _ wdX2_init_n0c) hds_X0_init ⟨(Nat.le_of_ble_eq_true rfl), (Nat.le_of_ble_eq_true rfl)⟩) rfl (hts _ wdX2_init_iX0_init) hK hP hD hS hA rfl (by decide) rfl (by decide) (by decide) hl.1 rfl (Nat.le_of_ble_eq_true rfl) dX2_init_9 ⟨(Nat.le_of_ble_eq_true rfl), (Nat.le_of_ble_eq_true rfl)⟩ (fun w9 H locs hw hP hD hS => ?_)
  obtain ⟨q9a1, rfl⟩ := hw
  have hP : xP γ ([xO q0 2 [.null, .null, .int 0, .int 0, .null, .null], xO q5x0 0 [.ref q9a1, .int 6], xA γ q9a1 12 (fun _ => 0)]) H := hP
  have hD : va_D A ([xO q0 2 [.null, .null, .int 0, .int 0, .null, .null], xO q5x0 0 [.ref q9a1, .int 6], xA γ q9a1 12 (fun _ => 0)]) := hD
  refine W.eq (g2 := F0 m 12 ls [.ref q5x0, .ref q0]) rfl ?_
  refine va_putF (D := γ.1) (ci := 2) (v := .ref q5x0) (ty := .object "RingSeesaw$Ring") (C := RX2) (T := TX2) (N := 6) hx hb hts iwX2_init_2 tyX2 tyX2_ok nmX2 hown hK hP hD hS 0 rfl rfl 0 (by decide) (hts _ flX2_init_10) (fun _ h9 => h9) rfl hin rfl (by decide +kernel) rfl rfl (Nat.le_of_ble_eq_true rfl) dX2_init_12 (fun H locs hP hD hS => ?_)
  have hP : xP γ ([xO q0 2 [.ref q5x0, .null, .int 0, .int 0, .null, .null], xO q5x0 0 [.ref q9a1, .int 6], xA γ q9a1 12 (fun _ => 0)]) H := hP
  have hD : va_D A ([xO q0 2 [.ref q5x0, .null, .int 0, .int 0, .null, .null], xO q5x0 0 [.ref q9a1, .int 6], xA γ q9a1 12 (fun _ => 0)]) := hD
  refine lv_aload_n hx hb dX2_init_15 rfl (lv_at hl 0 rfl) ?_
  refine lv_bipush (v := 6) hx hb dX2_init_16 (by decide) ?_
  refine x_newQ hx hb hown (hts _ wdX2_init_n7a) hEx.1 hK hP hD hS hA 6 (by decide) (by decide) (by decide) (Nat.le_of_ble_eq_true rfl) (Nat.le_of_ble_eq_true rfl) dX2_init_18 (fun q18x H hP hD hS => ?_)
  have hP : xP γ ([xO q0 2 [.ref q5x0, .null, .int 0, .int 0, .null, .null], xO q5x0 0 [.ref q9a1, .int 6], xA γ q9a1 12 (fun _ => 0), xQ γ q18x 6 (fun _ => none)]) H := hP
  have hD : va_D A ([xO q0 2 [.ref q5x0, .null, .int 0, .int 0, .null, .null], xO q5x0 0 [.ref q9a1, .int 6], xA γ q9a1 12 (fun _ => 0), xQ γ q18x 6 (fun _ => none)]) := hD
  refine va_putF (D := γ.1) (ci := 2) (v := .ref q18x) (ty := .array (.object "RingSeesaw$Ring")) (C := RX2) (T := TX2) (N := 6) hx hb hts iwX2_init_2 tyX2 tyX2_ok nmX2 hown hK hP hD hS 0 rfl rfl 1 (by decide) (hts _ flX2_init_16) (fun _ h9 => h9) rfl hin rfl (by decide +kernel) rfl rfl (Nat.le_of_ble_eq_true rfl) dX2_init_21 (fun H locs hP hD hS => ?_)
  have hP : xP γ ([xO q0 2 [.ref q5x0, .ref q18x, .int 0, .int 0, .null, .null], xO q5x0 0 [.ref q9a1, .int 6], xA γ q9a1 12 (fun _ => 0), xQ γ q18x 6 (fun _ => none)]) H := hP
  have hD : va_D A ([xO q0 2 [.ref q5x0, .ref q18x, .int 0, .int 0, .null, .null], xO q5x0 0 [.ref q9a1, .int 6], xA γ q9a1 12 (fun _ => 0), xQ γ q18x 6 (fun _ => none)]) := hD
  refine lv_aload_n hx hb dX2_init_24 rfl (lv_at hl 0 rfl) ?_
  refine lv_iconst (v := 0) hx hb dX2_init_25 (by decide) ?_
  refine va_put (D := γ.1) (ci := 2) (v := .int 0) (ty := .int) (C := RX2) (T := TX2) (N := 6) hx hb hts iwX2_init_2 tyX2 tyX2_ok nmX2 hown hK hP hD hS 0 rfl rfl 2 (by decide) (hts _ flX2_init_20) (fun _ h9 => h9) rfl (by decide +kernel) rfl rfl (Nat.le_of_ble_eq_true rfl) dX2_init_26 (fun H locs hP hD hS => ?_)
  have hP : xP γ ([xO q0 2 [.ref q5x0, .ref q18x, .int 0, .int 0, .null, .null], xO q5x0 0 [.ref q9a1, .int 6], xA γ q9a1 12 (fun _ => 0), xQ γ q18x 6 (fun _ => none)]) H := hP
  have hD : va_D A ([xO q0 2 [.ref q5x0, .ref q18x, .int 0, .int 0, .null, .null], xO q5x0 0 [.ref q9a1, .int 6], xA γ q9a1 12 (fun _ => 0), xQ γ q18x 6 (fun _ => none)]) := hD
  refine lv_aload_n hx hb dX2_init_29 rfl (lv_at hl 0 rfl) ?_
  refine lv_iconst (v := 0) hx hb dX2_init_30 (by decide) ?_
  refine va_put (D := γ.1) (ci := 2) (v := .int 0) (ty := .int) (C := RX2) (T := TX2) (N := 6) hx hb hts iwX2_init_2 tyX2 tyX2_ok nmX2 hown hK hP hD hS 0 rfl rfl 3 (by decide) (hts _ flX2_init_24) (fun _ h9 => h9) rfl (by decide +kernel) rfl rfl (Nat.le_of_ble_eq_true rfl) dX2_init_31 (fun H locs hP hD hS => ?_)
  have hP : xP γ ([xO q0 2 [.ref q5x0, .ref q18x, .int 0, .int 0, .null, .null], xO q5x0 0 [.ref q9a1, .int 6], xA γ q9a1 12 (fun _ => 0), xQ γ q18x 6 (fun _ => none)]) H := hP
  have hD : va_D A ([xO q0 2 [.ref q5x0, .ref q18x, .int 0, .int 0, .null, .null], xO q5x0 0 [.ref q9a1, .int 6], xA γ q9a1 12 (fun _ => 0), xQ γ q18x 6 (fun _ => none)]) := hD
  refine lv_aload_n hx hb dX2_init_34 rfl (lv_at hl 0 rfl) ?_
  refine va_new (ci := 0) (fs := [.null, .int 0]) (C := RX0) (T := TX0) (N := 2) hx hb hts iwX2_init_0 tyX0 tyX0_ok hown (hts _ wdX2_init_n7a) (hts _ wdX2_init_n0b) (hts _ wdX2_init_n0c) hK hP hD hS hA rfl (by decide +kernel) (Nat.le_of_ble_eq_true rfl) (Nat.le_of_ble_eq_true rfl) dX2_init_35 (fun q35x2 H hP hD hS => ?_)
  have hP : xP γ ([xO q0 2 [.ref q5x0, .ref q18x, .int 0, .int 0, .null, .null], xO q5x0 0 [.ref q9a1, .int 6], xA γ q9a1 12 (fun _ => 0), xQ γ q18x 6 (fun _ => none), xO q35x2 0 [.null, .int 0]]) H := hP
  have hD : va_D A ([xO q0 2 [.ref q5x0, .ref q18x, .int 0, .int 0, .null, .null], xO q5x0 0 [.ref q9a1, .int 6], xA γ q9a1 12 (fun _ => 0), xQ γ q18x 6 (fun _ => none), xO q35x2 0 [.null, .int 0]]) := hD
  refine lv_dup hx hb dX2_init_38 rfl ?_
  refine xIN (wr := [xO q0 2 [.ref q5x0, .ref q18x, .int 0, .int 0, .null, .null], xO q5x0 0 [.ref q9a1, .int 6], xA γ q9a1 12 (fun _ => 0), xQ γ q18x 6 (fun _ => none)]) (rest := [.ref q35x2, .ref q0]) (isC := [4]) (isR := [0, 1, 2, 3]) ⟨hx, hb, hml, hown, hts⟩ (c_X0_init γ l q35x2) (va_cnB 0 hts gX2_init_X0_init_n9 rfl rfl rfl (hEx.2.1) (hts _ wdX2_init_n0c) hds_X0_init ⟨(Nat.le_of_ble_eq_true rfl), (Nat.le_of_ble_eq_true rfl)⟩) rfl (hts _ wdX2_init_iX0_init) hK hP hD hS hA rfl (by decide) rfl (by decide) (by decide) hl.1 rfl (Nat.le_of_ble_eq_true rfl) dX2_init_39 ⟨(Nat.le_of_ble_eq_true rfl), (Nat.le_of_ble_eq_true rfl)⟩ (fun w9 H locs hw hP hD hS => ?_)
  obtain ⟨q39a3, rfl⟩ := hw
  have hP : xP γ ([xO q0 2 [.ref q5x0, .ref q18x, .int 0, .int 0, .null, .null], xO q5x0 0 [.ref q9a1, .int 6], xA γ q9a1 12 (fun _ => 0), xQ γ q18x 6 (fun _ => none), xO q35x2 0 [.ref q39a3, .int 6], xA γ q39a3 12 (fun _ => 0)]) H := hP
  have hD : va_D A ([xO q0 2 [.ref q5x0, .ref q18x, .int 0, .int 0, .null, .null], xO q5x0 0 [.ref q9a1, .int 6], xA γ q9a1 12 (fun _ => 0), xQ γ q18x 6 (fun _ => none), xO q35x2 0 [.ref q39a3, .int 6], xA γ q39a3 12 (fun _ => 0)]) := hD
  refine W.eq (g2 := F0 m 42 ls [.ref q35x2, .ref q0]) rfl ?_
  refine va_putF (D := γ.1) (ci := 2) (v := .ref q35x2) (ty := .object "RingSeesaw$Ring") (C := RX2) (T := TX2) (N := 6) hx hb hts iwX2_init_2 tyX2 tyX2_ok nmX2 hown hK hP hD hS 0 rfl rfl 4 (by decide) (hts _ flX2_init_27) (fun _ h9 => h9) rfl hin rfl (by decide +kernel) rfl rfl (Nat.le_of_ble_eq_true rfl) dX2_init_42 (fun H locs hP hD hS => ?_)
  have hP : xP γ ([xO q0 2 [.ref q5x0, .ref q18x, .int 0, .int 0, .ref q35x2, .null], xO q5x0 0 [.ref q9a1, .int 6], xA γ q9a1 12 (fun _ => 0), xQ γ q18x 6 (fun _ => none), xO q35x2 0 [.ref q39a3, .int 6], xA γ q39a3 12 (fun _ => 0)]) H := hP
  have hD : va_D A ([xO q0 2 [.ref q5x0, .ref q18x, .int 0, .int 0, .ref q35x2, .null], xO q5x0 0 [.ref q9a1, .int 6], xA γ q9a1 12 (fun _ => 0), xQ γ q18x 6 (fun _ => none), xO q35x2 0 [.ref q39a3, .int 6], xA γ q39a3 12 (fun _ => 0)]) := hD
  refine lv_aload_n hx hb dX2_init_45 rfl (lv_at hl 0 rfl) ?_
  refine va_new (ci := 1) (fs := [.null, .int 0]) (C := RX1) (T := TX1) (N := 2) hx hb hts iwX2_init_1 tyX1 tyX1_ok hown (hts _ wdX2_init_n30a) (hts _ wdX2_init_n1b) (hts _ wdX2_init_n1c) hK hP hD hS hA rfl (by decide +kernel) (Nat.le_of_ble_eq_true rfl) (Nat.le_of_ble_eq_true rfl) dX2_init_46 (fun q46x4 H hP hD hS => ?_)
  have hP : xP γ ([xO q0 2 [.ref q5x0, .ref q18x, .int 0, .int 0, .ref q35x2, .null], xO q5x0 0 [.ref q9a1, .int 6], xA γ q9a1 12 (fun _ => 0), xQ γ q18x 6 (fun _ => none), xO q35x2 0 [.ref q39a3, .int 6], xA γ q39a3 12 (fun _ => 0), xO q46x4 1 [.null, .int 0]]) H := hP
  have hD : va_D A ([xO q0 2 [.ref q5x0, .ref q18x, .int 0, .int 0, .ref q35x2, .null], xO q5x0 0 [.ref q9a1, .int 6], xA γ q9a1 12 (fun _ => 0), xQ γ q18x 6 (fun _ => none), xO q35x2 0 [.ref q39a3, .int 6], xA γ q39a3 12 (fun _ => 0), xO q46x4 1 [.null, .int 0]]) := hD
  refine lv_dup hx hb dX2_init_49 rfl ?_
  refine xIN (wr := [xO q0 2 [.ref q5x0, .ref q18x, .int 0, .int 0, .ref q35x2, .null], xO q5x0 0 [.ref q9a1, .int 6], xA γ q9a1 12 (fun _ => 0), xQ γ q18x 6 (fun _ => none), xO q35x2 0 [.ref q39a3, .int 6], xA γ q39a3 12 (fun _ => 0)]) (rest := [.ref q46x4, .ref q0]) (isC := [6]) (isR := [0, 1, 2, 3, 4, 5]) ⟨hx, hb, hml, hown, hts⟩ (c_X1_init γ l q46x4) (va_cnB 0 hts gX2_init_X1_init_n32 rfl rfl rfl (hEx.2.2) (hts _ wdX2_init_n1c) hds_X1_init ⟨(Nat.le_of_ble_eq_true rfl), (Nat.le_of_ble_eq_true rfl)⟩) rfl (hts _ wdX2_init_iX1_init) hK hP hD hS hA rfl (by decide) rfl (by decide) (by decide) hl.1 rfl (Nat.le_of_ble_eq_true rfl) dX2_init_50 ⟨(Nat.le_of_ble_eq_true rfl), (Nat.le_of_ble_eq_true rfl)⟩ (fun w9 H locs hw hP hD hS => ?_)
  obtain ⟨q50a5, rfl⟩ := hw
  have hP : xP γ ([xO q0 2 [.ref q5x0, .ref q18x, .int 0, .int 0, .ref q35x2, .null], xO q5x0 0 [.ref q9a1, .int 6], xA γ q9a1 12 (fun _ => 0), xQ γ q18x 6 (fun _ => none), xO q35x2 0 [.ref q39a3, .int 6], xA γ q39a3 12 (fun _ => 0), xO q46x4 1 [.ref q50a5, .int 0], xA γ q50a5 12 (fun _ => 0)]) H := hP
  have hD : va_D A ([xO q0 2 [.ref q5x0, .ref q18x, .int 0, .int 0, .ref q35x2, .null], xO q5x0 0 [.ref q9a1, .int 6], xA γ q9a1 12 (fun _ => 0), xQ γ q18x 6 (fun _ => none), xO q35x2 0 [.ref q39a3, .int 6], xA γ q39a3 12 (fun _ => 0), xO q46x4 1 [.ref q50a5, .int 0], xA γ q50a5 12 (fun _ => 0)]) := hD
  refine W.eq (g2 := F0 m 53 ls [.ref q46x4, .ref q0]) rfl ?_
  refine va_putF (D := γ.1) (ci := 2) (v := .ref q46x4) (ty := .object "RingSeesaw$Way") (C := RX2) (T := TX2) (N := 6) hx hb hts iwX2_init_2 tyX2 tyX2_ok nmX2 hown hK hP hD hS 0 rfl rfl 5 (by decide) (hts _ flX2_init_33) (fun _ h9 => h9) rfl hin rfl (by decide +kernel) rfl rfl (Nat.le_of_ble_eq_true rfl) dX2_init_53 (fun H locs hP hD hS => ?_)
  have hP : xP γ ([xO q0 2 [.ref q5x0, .ref q18x, .int 0, .int 0, .ref q35x2, .ref q46x4], xO q5x0 0 [.ref q9a1, .int 6], xA γ q9a1 12 (fun _ => 0), xQ γ q18x 6 (fun _ => none), xO q35x2 0 [.ref q39a3, .int 6], xA γ q39a3 12 (fun _ => 0), xO q46x4 1 [.ref q50a5, .int 0], xA γ q50a5 12 (fun _ => 0)]) H := hP
  have hD : va_D A ([xO q0 2 [.ref q5x0, .ref q18x, .int 0, .int 0, .ref q35x2, .ref q46x4], xO q5x0 0 [.ref q9a1, .int 6], xA γ q9a1 12 (fun _ => 0), xQ γ q18x 6 (fun _ => none), xO q35x2 0 [.ref q39a3, .int 6], xA γ q39a3 12 (fun _ => 0), xO q46x4 1 [.ref q50a5, .int 0], xA γ q50a5 12 (fun _ => 0)]) := hD
  refine lv_iconst (v := 0) hx hb dX2_init_56 (by decide) ?_
  refine lv_istore_n (lv' := [(1, .int 0), (0, .ref q0)]) hx hb dX2_init_57 rfl hl (by decide) rfl (fun ls hl => ?_)
  refine lv_iload_n hx hb dX2_init_58 rfl (lv_at hl 0 rfl) ?_
  refine lv_aload_n hx hb dX2_init_59 rfl (lv_at hl 1 rfl) ?_
  refine va_get (D := γ.1) (ci := 2) (v := .ref q18x) (C := RX2) (T := TX2) (N := 6) hx hb hts iwX2_init_2 hown hK hP 0 rfl rfl 1 (by decide) (hts _ flX2_init_16) (fun _ h9 => h9) rfl dX2_init_60 ?_
  refine va_alen (v := nI 6) hx hb hK hP 3 1 rfl rfl rfl dX2_init_63 ?_
  refine lv_icmp_ge (tgt := 86) hx hb dX2_init_64 (by decide) (fun c => absurd c (by decide)) (fun _ => ?_)
  refine lv_aload_n hx hb dX2_init_67 rfl (lv_at hl 1 rfl) ?_
  refine va_get (D := γ.1) (ci := 2) (v := .ref q18x) (C := RX2) (T := TX2) (N := 6) hx hb hts iwX2_init_2 hown hK hP 0 rfl rfl 1 (by decide) (hts _ flX2_init_16) (fun _ h9 => h9) rfl dX2_init_68 ?_
  refine lv_iload_n hx hb dX2_init_71 rfl (lv_at hl 0 rfl) ?_
  refine va_new (ci := 0) (fs := [.null, .int 0]) (C := RX0) (T := TX0) (N := 2) hx hb hts iwX2_init_0 tyX0 tyX0_ok hown (hts _ wdX2_init_n7a) (hts _ wdX2_init_n0b) (hts _ wdX2_init_n0c) hK hP hD hS hA rfl (by decide +kernel) (Nat.le_of_ble_eq_true rfl) (Nat.le_of_ble_eq_true rfl) dX2_init_72 (fun q72x6 H hP hD hS => ?_)
  have hP : xP γ ([xO q0 2 [.ref q5x0, .ref q18x, .int 0, .int 0, .ref q35x2, .ref q46x4], xO q5x0 0 [.ref q9a1, .int 6], xA γ q9a1 12 (fun _ => 0), xQ γ q18x 6 (fun _ => none), xO q35x2 0 [.ref q39a3, .int 6], xA γ q39a3 12 (fun _ => 0), xO q46x4 1 [.ref q50a5, .int 0], xA γ q50a5 12 (fun _ => 0), xO q72x6 0 [.null, .int 0]]) H := hP
  have hD : va_D A ([xO q0 2 [.ref q5x0, .ref q18x, .int 0, .int 0, .ref q35x2, .ref q46x4], xO q5x0 0 [.ref q9a1, .int 6], xA γ q9a1 12 (fun _ => 0), xQ γ q18x 6 (fun _ => none), xO q35x2 0 [.ref q39a3, .int 6], xA γ q39a3 12 (fun _ => 0), xO q46x4 1 [.ref q50a5, .int 0], xA γ q50a5 12 (fun _ => 0), xO q72x6 0 [.null, .int 0]]) := hD
  refine lv_dup hx hb dX2_init_75 rfl ?_
  refine xIN (wr := [xO q0 2 [.ref q5x0, .ref q18x, .int 0, .int 0, .ref q35x2, .ref q46x4], xO q5x0 0 [.ref q9a1, .int 6], xA γ q9a1 12 (fun _ => 0), xQ γ q18x 6 (fun _ => none), xO q35x2 0 [.ref q39a3, .int 6], xA γ q39a3 12 (fun _ => 0), xO q46x4 1 [.ref q50a5, .int 0], xA γ q50a5 12 (fun _ => 0)]) (rest := [.ref q72x6, .int 0, .ref q18x]) (isC := [8]) (isR := [0, 1, 2, 3, 4, 5, 6, 7]) ⟨hx, hb, hml, hown, hts⟩ (c_X0_init γ l q72x6) (va_cnB 0 hts gX2_init_X0_init_n9 rfl rfl rfl (hEx.2.1) (hts _ wdX2_init_n0c) hds_X0_init ⟨(Nat.le_of_ble_eq_true rfl), (Nat.le_of_ble_eq_true rfl)⟩) rfl (hts _ wdX2_init_iX0_init) hK hP hD hS hA rfl (by decide) rfl (by decide) (by decide) hl.1 rfl (Nat.le_of_ble_eq_true rfl) dX2_init_76 ⟨(Nat.le_of_ble_eq_true rfl), (Nat.le_of_ble_eq_true rfl)⟩ (fun w9 H locs hw hP hD hS => ?_)
  obtain ⟨q76a7, rfl⟩ := hw
  have hP : xP γ ([xO q0 2 [.ref q5x0, .ref q18x, .int 0, .int 0, .ref q35x2, .ref q46x4], xO q5x0 0 [.ref q9a1, .int 6], xA γ q9a1 12 (fun _ => 0), xQ γ q18x 6 (fun _ => none), xO q35x2 0 [.ref q39a3, .int 6], xA γ q39a3 12 (fun _ => 0), xO q46x4 1 [.ref q50a5, .int 0], xA γ q50a5 12 (fun _ => 0), xO q72x6 0 [.ref q76a7, .int 6], xA γ q76a7 12 (fun _ => 0)]) H := hP
  have hD : va_D A ([xO q0 2 [.ref q5x0, .ref q18x, .int 0, .int 0, .ref q35x2, .ref q46x4], xO q5x0 0 [.ref q9a1, .int 6], xA γ q9a1 12 (fun _ => 0), xQ γ q18x 6 (fun _ => none), xO q35x2 0 [.ref q39a3, .int 6], xA γ q39a3 12 (fun _ => 0), xO q46x4 1 [.ref q50a5, .int 0], xA γ q50a5 12 (fun _ => 0), xO q72x6 0 [.ref q76a7, .int 6], xA γ q76a7 12 (fun _ => 0)]) := hD
  refine W.eq (g2 := F0 m 79 ls [.ref q72x6, .int 0, .ref q18x]) rfl ?_
  refine x_astq (f := fun _ => none) hx hb hK hP hD hS 3 8 rfl rfl 0 rfl (by omega) (by omega) dX2_init_79 (fun H locs hP hD hS => ?_)
  have hP : xP γ ([xO q0 2 [.ref q5x0, .ref q18x, .int 0, .int 0, .ref q35x2, .ref q46x4], xO q5x0 0 [.ref q9a1, .int 6], xA γ q9a1 12 (fun _ => 0), xQ γ q18x 6 (va_up (fun _ => none) 0 (some q72x6)), xO q35x2 0 [.ref q39a3, .int 6], xA γ q39a3 12 (fun _ => 0), xO q46x4 1 [.ref q50a5, .int 0], xA γ q50a5 12 (fun _ => 0), xO q72x6 0 [.ref q76a7, .int 6], xA γ q76a7 12 (fun _ => 0)]) H := hP
  have hD : va_D A ([xO q0 2 [.ref q5x0, .ref q18x, .int 0, .int 0, .ref q35x2, .ref q46x4], xO q5x0 0 [.ref q9a1, .int 6], xA γ q9a1 12 (fun _ => 0), xQ γ q18x 6 (va_up (fun _ => none) 0 (some q72x6)), xO q35x2 0 [.ref q39a3, .int 6], xA γ q39a3 12 (fun _ => 0), xO q46x4 1 [.ref q50a5, .int 0], xA γ q50a5 12 (fun _ => 0), xO q72x6 0 [.ref q76a7, .int 6], xA γ q76a7 12 (fun _ => 0)]) := hD
  refine lv_iinc (v := 1) (lv' := [(1, .int 1), (0, .ref q0)]) hx hb dX2_init_80 hl (k := 0) rfl (by decide) (by decide) rfl (fun ls hl => ?_)
  refine lv_goto (tgt := 58) hx hb dX2_init_83 (by decide) ?_
  refine lv_iload_n hx hb dX2_init_58 rfl (lv_at hl 0 rfl) ?_
  refine lv_aload_n hx hb dX2_init_59 rfl (lv_at hl 1 rfl) ?_
  refine va_get (D := γ.1) (ci := 2) (v := .ref q18x) (C := RX2) (T := TX2) (N := 6) hx hb hts iwX2_init_2 hown hK hP 0 rfl rfl 1 (by decide) (hts _ flX2_init_16) (fun _ h9 => h9) rfl dX2_init_60 ?_
  refine va_alen (v := nI 6) hx hb hK hP 3 1 rfl rfl rfl dX2_init_63 ?_
  refine lv_icmp_ge (tgt := 86) hx hb dX2_init_64 (by decide) (fun c => absurd c (by decide)) (fun _ => ?_)
  refine lv_aload_n hx hb dX2_init_67 rfl (lv_at hl 1 rfl) ?_
  refine va_get (D := γ.1) (ci := 2) (v := .ref q18x) (C := RX2) (T := TX2) (N := 6) hx hb hts iwX2_init_2 hown hK hP 0 rfl rfl 1 (by decide) (hts _ flX2_init_16) (fun _ h9 => h9) rfl dX2_init_68 ?_
  refine lv_iload_n hx hb dX2_init_71 rfl (lv_at hl 0 rfl) ?_
  refine va_new (ci := 0) (fs := [.null, .int 0]) (C := RX0) (T := TX0) (N := 2) hx hb hts iwX2_init_0 tyX0 tyX0_ok hown (hts _ wdX2_init_n7a) (hts _ wdX2_init_n0b) (hts _ wdX2_init_n0c) hK hP hD hS hA rfl (by decide +kernel) (Nat.le_of_ble_eq_true rfl) (Nat.le_of_ble_eq_true rfl) dX2_init_72 (fun q72x8 H hP hD hS => ?_)
  have hP : xP γ ([xO q0 2 [.ref q5x0, .ref q18x, .int 0, .int 0, .ref q35x2, .ref q46x4], xO q5x0 0 [.ref q9a1, .int 6], xA γ q9a1 12 (fun _ => 0), xQ γ q18x 6 (va_up (fun _ => none) 0 (some q72x6)), xO q35x2 0 [.ref q39a3, .int 6], xA γ q39a3 12 (fun _ => 0), xO q46x4 1 [.ref q50a5, .int 0], xA γ q50a5 12 (fun _ => 0), xO q72x6 0 [.ref q76a7, .int 6], xA γ q76a7 12 (fun _ => 0), xO q72x8 0 [.null, .int 0]]) H := hP
  have hD : va_D A ([xO q0 2 [.ref q5x0, .ref q18x, .int 0, .int 0, .ref q35x2, .ref q46x4], xO q5x0 0 [.ref q9a1, .int 6], xA γ q9a1 12 (fun _ => 0), xQ γ q18x 6 (va_up (fun _ => none) 0 (some q72x6)), xO q35x2 0 [.ref q39a3, .int 6], xA γ q39a3 12 (fun _ => 0), xO q46x4 1 [.ref q50a5, .int 0], xA γ q50a5 12 (fun _ => 0), xO q72x6 0 [.ref q76a7, .int 6], xA γ q76a7 12 (fun _ => 0), xO q72x8 0 [.null, .int 0]]) := hD
  refine lv_dup hx hb dX2_init_75 rfl ?_
  refine xIN (wr := [xO q0 2 [.ref q5x0, .ref q18x, .int 0, .int 0, .ref q35x2, .ref q46x4], xO q5x0 0 [.ref q9a1, .int 6], xA γ q9a1 12 (fun _ => 0), xQ γ q18x 6 (va_up (fun _ => none) 0 (some q72x6)), xO q35x2 0 [.ref q39a3, .int 6], xA γ q39a3 12 (fun _ => 0), xO q46x4 1 [.ref q50a5, .int 0], xA γ q50a5 12 (fun _ => 0), xO q72x6 0 [.ref q76a7, .int 6], xA γ q76a7 12 (fun _ => 0)]) (rest := [.ref q72x8, .int 1, .ref q18x]) (isC := [10]) (isR := [0, 1, 2, 3, 4, 5, 6, 7, 8, 9]) ⟨hx, hb, hml, hown, hts⟩ (c_X0_init γ l q72x8) (va_cnB 0 hts gX2_init_X0_init_n9 rfl rfl rfl (hEx.2.1) (hts _ wdX2_init_n0c) hds_X0_init ⟨(Nat.le_of_ble_eq_true rfl), (Nat.le_of_ble_eq_true rfl)⟩) rfl (hts _ wdX2_init_iX0_init) hK hP hD hS hA rfl (by decide) rfl (by decide) (by decide) hl.1 rfl (Nat.le_of_ble_eq_true rfl) dX2_init_76 ⟨(Nat.le_of_ble_eq_true rfl), (Nat.le_of_ble_eq_true rfl)⟩ (fun w9 H locs hw hP hD hS => ?_)
  obtain ⟨q76a9, rfl⟩ := hw
  have hP : xP γ ([xO q0 2 [.ref q5x0, .ref q18x, .int 0, .int 0, .ref q35x2, .ref q46x4], xO q5x0 0 [.ref q9a1, .int 6], xA γ q9a1 12 (fun _ => 0), xQ γ q18x 6 (va_up (fun _ => none) 0 (some q72x6)), xO q35x2 0 [.ref q39a3, .int 6], xA γ q39a3 12 (fun _ => 0), xO q46x4 1 [.ref q50a5, .int 0], xA γ q50a5 12 (fun _ => 0), xO q72x6 0 [.ref q76a7, .int 6], xA γ q76a7 12 (fun _ => 0), xO q72x8 0 [.ref q76a9, .int 6], xA γ q76a9 12 (fun _ => 0)]) H := hP
  have hD : va_D A ([xO q0 2 [.ref q5x0, .ref q18x, .int 0, .int 0, .ref q35x2, .ref q46x4], xO q5x0 0 [.ref q9a1, .int 6], xA γ q9a1 12 (fun _ => 0), xQ γ q18x 6 (va_up (fun _ => none) 0 (some q72x6)), xO q35x2 0 [.ref q39a3, .int 6], xA γ q39a3 12 (fun _ => 0), xO q46x4 1 [.ref q50a5, .int 0], xA γ q50a5 12 (fun _ => 0), xO q72x6 0 [.ref q76a7, .int 6], xA γ q76a7 12 (fun _ => 0), xO q72x8 0 [.ref q76a9, .int 6], xA γ q76a9 12 (fun _ => 0)]) := hD
  refine W.eq (g2 := F0 m 79 ls [.ref q72x8, .int 1, .ref q18x]) rfl ?_
  refine x_astq (f := va_up (fun _ => none) 0 (some q72x6)) hx hb hK hP hD hS 3 10 rfl rfl 1 rfl (by omega) (by omega) dX2_init_79 (fun H locs hP hD hS => ?_)
  have hP : xP γ ([xO q0 2 [.ref q5x0, .ref q18x, .int 0, .int 0, .ref q35x2, .ref q46x4], xO q5x0 0 [.ref q9a1, .int 6], xA γ q9a1 12 (fun _ => 0), xQ γ q18x 6 (va_up (va_up (fun _ => none) 0 (some q72x6)) 1 (some q72x8)), xO q35x2 0 [.ref q39a3, .int 6], xA γ q39a3 12 (fun _ => 0), xO q46x4 1 [.ref q50a5, .int 0], xA γ q50a5 12 (fun _ => 0), xO q72x6 0 [.ref q76a7, .int 6], xA γ q76a7 12 (fun _ => 0), xO q72x8 0 [.ref q76a9, .int 6], xA γ q76a9 12 (fun _ => 0)]) H := hP
  have hD : va_D A ([xO q0 2 [.ref q5x0, .ref q18x, .int 0, .int 0, .ref q35x2, .ref q46x4], xO q5x0 0 [.ref q9a1, .int 6], xA γ q9a1 12 (fun _ => 0), xQ γ q18x 6 (va_up (va_up (fun _ => none) 0 (some q72x6)) 1 (some q72x8)), xO q35x2 0 [.ref q39a3, .int 6], xA γ q39a3 12 (fun _ => 0), xO q46x4 1 [.ref q50a5, .int 0], xA γ q50a5 12 (fun _ => 0), xO q72x6 0 [.ref q76a7, .int 6], xA γ q76a7 12 (fun _ => 0), xO q72x8 0 [.ref q76a9, .int 6], xA γ q76a9 12 (fun _ => 0)]) := hD
  refine lv_iinc (v := 2) (lv' := [(1, .int 2), (0, .ref q0)]) hx hb dX2_init_80 hl (k := 0) rfl (by decide) (by decide) rfl (fun ls hl => ?_)
  refine lv_goto (tgt := 58) hx hb dX2_init_83 (by decide) ?_
  refine lv_iload_n hx hb dX2_init_58 rfl (lv_at hl 0 rfl) ?_
  refine lv_aload_n hx hb dX2_init_59 rfl (lv_at hl 1 rfl) ?_
  refine va_get (D := γ.1) (ci := 2) (v := .ref q18x) (C := RX2) (T := TX2) (N := 6) hx hb hts iwX2_init_2 hown hK hP 0 rfl rfl 1 (by decide) (hts _ flX2_init_16) (fun _ h9 => h9) rfl dX2_init_60 ?_
  refine va_alen (v := nI 6) hx hb hK hP 3 1 rfl rfl rfl dX2_init_63 ?_
  refine lv_icmp_ge (tgt := 86) hx hb dX2_init_64 (by decide) (fun c => absurd c (by decide)) (fun _ => ?_)
  refine lv_aload_n hx hb dX2_init_67 rfl (lv_at hl 1 rfl) ?_
  refine va_get (D := γ.1) (ci := 2) (v := .ref q18x) (C := RX2) (T := TX2) (N := 6) hx hb hts iwX2_init_2 hown hK hP 0 rfl rfl 1 (by decide) (hts _ flX2_init_16) (fun _ h9 => h9) rfl dX2_init_68 ?_
  refine lv_iload_n hx hb dX2_init_71 rfl (lv_at hl 0 rfl) ?_
  refine va_new (ci := 0) (fs := [.null, .int 0]) (C := RX0) (T := TX0) (N := 2) hx hb hts iwX2_init_0 tyX0 tyX0_ok hown (hts _ wdX2_init_n7a) (hts _ wdX2_init_n0b) (hts _ wdX2_init_n0c) hK hP hD hS hA rfl (by decide +kernel) (Nat.le_of_ble_eq_true rfl) (Nat.le_of_ble_eq_true rfl) dX2_init_72 (fun q72x10 H hP hD hS => ?_)
  have hP : xP γ ([xO q0 2 [.ref q5x0, .ref q18x, .int 0, .int 0, .ref q35x2, .ref q46x4], xO q5x0 0 [.ref q9a1, .int 6], xA γ q9a1 12 (fun _ => 0), xQ γ q18x 6 (va_up (va_up (fun _ => none) 0 (some q72x6)) 1 (some q72x8)), xO q35x2 0 [.ref q39a3, .int 6], xA γ q39a3 12 (fun _ => 0), xO q46x4 1 [.ref q50a5, .int 0], xA γ q50a5 12 (fun _ => 0), xO q72x6 0 [.ref q76a7, .int 6], xA γ q76a7 12 (fun _ => 0), xO q72x8 0 [.ref q76a9, .int 6], xA γ q76a9 12 (fun _ => 0), xO q72x10 0 [.null, .int 0]]) H := hP
  have hD : va_D A ([xO q0 2 [.ref q5x0, .ref q18x, .int 0, .int 0, .ref q35x2, .ref q46x4], xO q5x0 0 [.ref q9a1, .int 6], xA γ q9a1 12 (fun _ => 0), xQ γ q18x 6 (va_up (va_up (fun _ => none) 0 (some q72x6)) 1 (some q72x8)), xO q35x2 0 [.ref q39a3, .int 6], xA γ q39a3 12 (fun _ => 0), xO q46x4 1 [.ref q50a5, .int 0], xA γ q50a5 12 (fun _ => 0), xO q72x6 0 [.ref q76a7, .int 6], xA γ q76a7 12 (fun _ => 0), xO q72x8 0 [.ref q76a9, .int 6], xA γ q76a9 12 (fun _ => 0), xO q72x10 0 [.null, .int 0]]) := hD
  refine lv_dup hx hb dX2_init_75 rfl ?_
  refine xIN (wr := [xO q0 2 [.ref q5x0, .ref q18x, .int 0, .int 0, .ref q35x2, .ref q46x4], xO q5x0 0 [.ref q9a1, .int 6], xA γ q9a1 12 (fun _ => 0), xQ γ q18x 6 (va_up (va_up (fun _ => none) 0 (some q72x6)) 1 (some q72x8)), xO q35x2 0 [.ref q39a3, .int 6], xA γ q39a3 12 (fun _ => 0), xO q46x4 1 [.ref q50a5, .int 0], xA γ q50a5 12 (fun _ => 0), xO q72x6 0 [.ref q76a7, .int 6], xA γ q76a7 12 (fun _ => 0), xO q72x8 0 [.ref q76a9, .int 6], xA γ q76a9 12 (fun _ => 0)]) (rest := [.ref q72x10, .int 2, .ref q18x]) (isC := [12]) (isR := [0, 1, 2, 3, 4, 5, 6, 7, 8, 9, 10, 11]) ⟨hx, hb, hml, hown, hts⟩ (c_X0_init γ l q72x10) (va_cnB 0 hts gX2_init_X0_init_n9 rfl rfl rfl (hEx.2.1) (hts _ wdX2_init_n0c) hds_X0_init ⟨(Nat.le_of_ble_eq_true rfl), (Nat.le_of_ble_eq_true rfl)⟩) rfl (hts _ wdX2_init_iX0_init) hK hP hD hS hA rfl (by decide) rfl (by decide) (by decide) hl.1 rfl (Nat.le_of_ble_eq_true rfl) dX2_init_76 ⟨(Nat.le_of_ble_eq_true rfl), (Nat.le_of_ble_eq_true rfl)⟩ (fun w9 H locs hw hP hD hS => ?_)
  obtain ⟨q76a11, rfl⟩ := hw
  have hP : xP γ ([xO q0 2 [.ref q5x0, .ref q18x, .int 0, .int 0, .ref q35x2, .ref q46x4], xO q5x0 0 [.ref q9a1, .int 6], xA γ q9a1 12 (fun _ => 0), xQ γ q18x 6 (va_up (va_up (fun _ => none) 0 (some q72x6)) 1 (some q72x8)), xO q35x2 0 [.ref q39a3, .int 6], xA γ q39a3 12 (fun _ => 0), xO q46x4 1 [.ref q50a5, .int 0], xA γ q50a5 12 (fun _ => 0), xO q72x6 0 [.ref q76a7, .int 6], xA γ q76a7 12 (fun _ => 0), xO q72x8 0 [.ref q76a9, .int 6], xA γ q76a9 12 (fun _ => 0), xO q72x10 0 [.ref q76a11, .int 6], xA γ q76a11 12 (fun _ => 0)]) H := hP
  have hD : va_D A ([xO q0 2 [.ref q5x0, .ref q18x, .int 0, .int 0, .ref q35x2, .ref q46x4], xO q5x0 0 [.ref q9a1, .int 6], xA γ q9a1 12 (fun _ => 0), xQ γ q18x 6 (va_up (va_up (fun _ => none) 0 (some q72x6)) 1 (some q72x8)), xO q35x2 0 [.ref q39a3, .int 6], xA γ q39a3 12 (fun _ => 0), xO q46x4 1 [.ref q50a5, .int 0], xA γ q50a5 12 (fun _ => 0), xO q72x6 0 [.ref q76a7, .int 6], xA γ q76a7 12 (fun _ => 0), xO q72x8 0 [.ref q76a9, .int 6], xA γ q76a9 12 (fun _ => 0), xO q72x10 0 [.ref q76a11, .int 6], xA γ q76a11 12 (fun _ => 0)]) := hD
  refine W.eq (g2 := F0 m 79 ls [.ref q72x10, .int 2, .ref q18x]) rfl ?_
  refine x_astq (f := va_up (va_up (fun _ => none) 0 (some q72x6)) 1 (some q72x8)) hx hb hK hP hD hS 3 12 rfl rfl 2 rfl (by omega) (by omega) dX2_init_79 (fun H locs hP hD hS => ?_)
  have hP : xP γ ([xO q0 2 [.ref q5x0, .ref q18x, .int 0, .int 0, .ref q35x2, .ref q46x4], xO q5x0 0 [.ref q9a1, .int 6], xA γ q9a1 12 (fun _ => 0), xQ γ q18x 6 (va_up (va_up (va_up (fun _ => none) 0 (some q72x6)) 1 (some q72x8)) 2 (some q72x10)), xO q35x2 0 [.ref q39a3, .int 6], xA γ q39a3 12 (fun _ => 0), xO q46x4 1 [.ref q50a5, .int 0], xA γ q50a5 12 (fun _ => 0), xO q72x6 0 [.ref q76a7, .int 6], xA γ q76a7 12 (fun _ => 0), xO q72x8 0 [.ref q76a9, .int 6], xA γ q76a9 12 (fun _ => 0), xO q72x10 0 [.ref q76a11, .int 6], xA γ q76a11 12 (fun _ => 0)]) H := hP
  have hD : va_D A ([xO q0 2 [.ref q5x0, .ref q18x, .int 0, .int 0, .ref q35x2, .ref q46x4], xO q5x0 0 [.ref q9a1, .int 6], xA γ q9a1 12 (fun _ => 0), xQ γ q18x 6 (va_up (va_up (va_up (fun _ => none) 0 (some q72x6)) 1 (some q72x8)) 2 (some q72x10)), xO q35x2 0 [.ref q39a3, .int 6], xA γ q39a3 12 (fun _ => 0), xO q46x4 1 [.ref q50a5, .int 0], xA γ q50a5 12 (fun _ => 0), xO q72x6 0 [.ref q76a7, .int 6], xA γ q76a7 12 (fun _ => 0), xO q72x8 0 [.ref q76a9, .int 6], xA γ q76a9 12 (fun _ => 0), xO q72x10 0 [.ref q76a11, .int 6], xA γ q76a11 12 (fun _ => 0)]) := hD
  refine lv_iinc (v := 3) (lv' := [(1, .int 3), (0, .ref q0)]) hx hb dX2_init_80 hl (k := 0) rfl (by decide) (by decide) rfl (fun ls hl => ?_)
  refine lv_goto (tgt := 58) hx hb dX2_init_83 (by decide) ?_
  refine lv_iload_n hx hb dX2_init_58 rfl (lv_at hl 0 rfl) ?_
  refine lv_aload_n hx hb dX2_init_59 rfl (lv_at hl 1 rfl) ?_
  refine va_get (D := γ.1) (ci := 2) (v := .ref q18x) (C := RX2) (T := TX2) (N := 6) hx hb hts iwX2_init_2 hown hK hP 0 rfl rfl 1 (by decide) (hts _ flX2_init_16) (fun _ h9 => h9) rfl dX2_init_60 ?_
  refine va_alen (v := nI 6) hx hb hK hP 3 1 rfl rfl rfl dX2_init_63 ?_
  refine lv_icmp_ge (tgt := 86) hx hb dX2_init_64 (by decide) (fun c => absurd c (by decide)) (fun _ => ?_)
  refine lv_aload_n hx hb dX2_init_67 rfl (lv_at hl 1 rfl) ?_
  refine va_get (D := γ.1) (ci := 2) (v := .ref q18x) (C := RX2) (T := TX2) (N := 6) hx hb hts iwX2_init_2 hown hK hP 0 rfl rfl 1 (by decide) (hts _ flX2_init_16) (fun _ h9 => h9) rfl dX2_init_68 ?_
  refine lv_iload_n hx hb dX2_init_71 rfl (lv_at hl 0 rfl) ?_
  refine va_new (ci := 0) (fs := [.null, .int 0]) (C := RX0) (T := TX0) (N := 2) hx hb hts iwX2_init_0 tyX0 tyX0_ok hown (hts _ wdX2_init_n7a) (hts _ wdX2_init_n0b) (hts _ wdX2_init_n0c) hK hP hD hS hA rfl (by decide +kernel) (Nat.le_of_ble_eq_true rfl) (Nat.le_of_ble_eq_true rfl) dX2_init_72 (fun q72x12 H hP hD hS => ?_)
  have hP : xP γ ([xO q0 2 [.ref q5x0, .ref q18x, .int 0, .int 0, .ref q35x2, .ref q46x4], xO q5x0 0 [.ref q9a1, .int 6], xA γ q9a1 12 (fun _ => 0), xQ γ q18x 6 (va_up (va_up (va_up (fun _ => none) 0 (some q72x6)) 1 (some q72x8)) 2 (some q72x10)), xO q35x2 0 [.ref q39a3, .int 6], xA γ q39a3 12 (fun _ => 0), xO q46x4 1 [.ref q50a5, .int 0], xA γ q50a5 12 (fun _ => 0), xO q72x6 0 [.ref q76a7, .int 6], xA γ q76a7 12 (fun _ => 0), xO q72x8 0 [.ref q76a9, .int 6], xA γ q76a9 12 (fun _ => 0), xO q72x10 0 [.ref q76a11, .int 6], xA γ q76a11 12 (fun _ => 0), xO q72x12 0 [.null, .int 0]]) H := hP
  have hD : va_D A ([xO q0 2 [.ref q5x0, .ref q18x, .int 0, .int 0, .ref q35x2, .ref q46x4], xO q5x0 0 [.ref q9a1, .int 6], xA γ q9a1 12 (fun _ => 0), xQ γ q18x 6 (va_up (va_up (va_up (fun _ => none) 0 (some q72x6)) 1 (some q72x8)) 2 (some q72x10)), xO q35x2 0 [.ref q39a3, .int 6], xA γ q39a3 12 (fun _ => 0), xO q46x4 1 [.ref q50a5, .int 0], xA γ q50a5 12 (fun _ => 0), xO q72x6 0 [.ref q76a7, .int 6], xA γ q76a7 12 (fun _ => 0), xO q72x8 0 [.ref q76a9, .int 6], xA γ q76a9 12 (fun _ => 0), xO q72x10 0 [.ref q76a11, .int 6], xA γ q76a11 12 (fun _ => 0), xO q72x12 0 [.null, .int 0]]) := hD
  refine lv_dup hx hb dX2_init_75 rfl ?_
  refine xIN (wr := [xO q0 2 [.ref q5x0, .ref q18x, .int 0, .int 0, .ref q35x2, .ref q46x4], xO q5x0 0 [.ref q9a1, .int 6], xA γ q9a1 12 (fun _ => 0), xQ γ q18x 6 (va_up (va_up (va_up (fun _ => none) 0 (some q72x6)) 1 (some q72x8)) 2 (some q72x10)), xO q35x2 0 [.ref q39a3, .int 6], xA γ q39a3 12 (fun _ => 0), xO q46x4 1 [.ref q50a5, .int 0], xA γ q50a5 12 (fun _ => 0), xO q72x6 0 [.ref q76a7, .int 6], xA γ q76a7 12 (fun _ => 0), xO q72x8 0 [.ref q76a9, .int 6], xA γ q76a9 12 (fun _ => 0), xO q72x10 0 [.ref q76a11, .int 6], xA γ q76a11 12 (fun _ => 0)]) (rest := [.ref q72x12, .int 3, .ref q18x]) (isC := [14]) (isR := [0, 1, 2, 3, 4, 5, 6, 7, 8, 9, 10, 11, 12, 13]) ⟨hx, hb, hml, hown, hts⟩ (c_X0_init γ l q72x12) (va_cnB 0 hts gX2_init_X0_init_n9 rfl rfl rfl (hEx.2.1) (hts _ wdX2_init_n0c) hds_X0_init ⟨(Nat.le_of_ble_eq_true rfl), (Nat.le_of_ble_eq_true rfl)⟩) rfl (hts _ wdX2_init_iX0_init) hK hP hD hS hA rfl (by decide) rfl (by decide) (by decide) hl.1 rfl (Nat.le_of_ble_eq_true rfl) dX2_init_76 ⟨(Nat.le_of_ble_eq_true rfl), (Nat.le_of_ble_eq_true rfl)⟩ (fun w9 H locs hw hP hD hS => ?_)
  obtain ⟨q76a13, rfl⟩ := hw
  have hP : xP γ ([xO q0 2 [.ref q5x0, .ref q18x, .int 0, .int 0, .ref q35x2, .ref q46x4], xO q5x0 0 [.ref q9a1, .int 6], xA γ q9a1 12 (fun _ => 0), xQ γ q18x 6 (va_up (va_up (va_up (fun _ => none) 0 (some q72x6)) 1 (some q72x8)) 2 (some q72x10)), xO q35x2 0 [.ref q39a3, .int 6], xA γ q39a3 12 (fun _ => 0), xO q46x4 1 [.ref q50a5, .int 0], xA γ q50a5 12 (fun _ => 0), xO q72x6 0 [.ref q76a7, .int 6], xA γ q76a7 12 (fun _ => 0), xO q72x8 0 [.ref q76a9, .int 6], xA γ q76a9 12 (fun _ => 0), xO q72x10 0 [.ref q76a11, .int 6], xA γ q76a11 12 (fun _ => 0), xO q72x12 0 [.ref q76a13, .int 6], xA γ q76a13 12 (fun _ => 0)]) H := hP
  have hD : va_D A ([xO q0 2 [.ref q5x0, .ref q18x, .int 0, .int 0, .ref q35x2, .ref q46x4], xO q5x0 0 [.ref q9a1, .int 6], xA γ q9a1 12 (fun _ => 0), xQ γ q18x 6 (va_up (va_up (va_up (fun _ => none) 0 (some q72x6)) 1 (some q72x8)) 2 (some q72x10)), xO q35x2 0 [.ref q39a3, .int 6], xA γ q39a3 12 (fun _ => 0), xO q46x4 1 [.ref q50a5, .int 0], xA γ q50a5 12 (fun _ => 0), xO q72x6 0 [.ref q76a7, .int 6], xA γ q76a7 12 (fun _ => 0), xO q72x8 0 [.ref q76a9, .int 6], xA γ q76a9 12 (fun _ => 0), xO q72x10 0 [.ref q76a11, .int 6], xA γ q76a11 12 (fun _ => 0), xO q72x12 0 [.ref q76a13, .int 6], xA γ q76a13 12 (fun _ => 0)]) := hD
  refine W.eq (g2 := F0 m 79 ls [.ref q72x12, .int 3, .ref q18x]) rfl ?_
  refine x_astq (f := va_up (va_up (va_up (fun _ => none) 0 (some q72x6)) 1 (some q72x8)) 2 (some q72x10)) hx hb hK hP hD hS 3 14 rfl rfl 3 rfl (by omega) (by omega) dX2_init_79 (fun H locs hP hD hS => ?_)
  have hP : xP γ ([xO q0 2 [.ref q5x0, .ref q18x, .int 0, .int 0, .ref q35x2, .ref q46x4], xO q5x0 0 [.ref q9a1, .int 6], xA γ q9a1 12 (fun _ => 0), xQ γ q18x 6 (va_up (va_up (va_up (va_up (fun _ => none) 0 (some q72x6)) 1 (some q72x8)) 2 (some q72x10)) 3 (some q72x12)), xO q35x2 0 [.ref q39a3, .int 6], xA γ q39a3 12 (fun _ => 0), xO q46x4 1 [.ref q50a5, .int 0], xA γ q50a5 12 (fun _ => 0), xO q72x6 0 [.ref q76a7, .int 6], xA γ q76a7 12 (fun _ => 0), xO q72x8 0 [.ref q76a9, .int 6], xA γ q76a9 12 (fun _ => 0), xO q72x10 0 [.ref q76a11, .int 6], xA γ q76a11 12 (fun _ => 0), xO q72x12 0 [.ref q76a13, .int 6], xA γ q76a13 12 (fun _ => 0)]) H := hP
  have hD : va_D A ([xO q0 2 [.ref q5x0, .ref q18x, .int 0, .int 0, .ref q35x2, .ref q46x4], xO q5x0 0 [.ref q9a1, .int 6], xA γ q9a1 12 (fun _ => 0), xQ γ q18x 6 (va_up (va_up (va_up (va_up (fun _ => none) 0 (some q72x6)) 1 (some q72x8)) 2 (some q72x10)) 3 (some q72x12)), xO q35x2 0 [.ref q39a3, .int 6], xA γ q39a3 12 (fun _ => 0), xO q46x4 1 [.ref q50a5, .int 0], xA γ q50a5 12 (fun _ => 0), xO q72x6 0 [.ref q76a7, .int 6], xA γ q76a7 12 (fun _ => 0), xO q72x8 0 [.ref q76a9, .int 6], xA γ q76a9 12 (fun _ => 0), xO q72x10 0 [.ref q76a11, .int 6], xA γ q76a11 12 (fun _ => 0), xO q72x12 0 [.ref q76a13, .int 6], xA γ q76a13 12 (fun _ => 0)]) := hD
  refine lv_iinc (v := 4) (lv' := [(1, .int 4), (0, .ref q0)]) hx hb dX2_init_80 hl (k := 0) rfl (by decide) (by decide) rfl (fun ls hl => ?_)
  refine lv_goto (tgt := 58) hx hb dX2_init_83 (by decide) ?_
  refine lv_iload_n hx hb dX2_init_58 rfl (lv_at hl 0 rfl) ?_
  refine lv_aload_n hx hb dX2_init_59 rfl (lv_at hl 1 rfl) ?_
  refine va_get (D := γ.1) (ci := 2) (v := .ref q18x) (C := RX2) (T := TX2) (N := 6) hx hb hts iwX2_init_2 hown hK hP 0 rfl rfl 1 (by decide) (hts _ flX2_init_16) (fun _ h9 => h9) rfl dX2_init_60 ?_
  refine va_alen (v := nI 6) hx hb hK hP 3 1 rfl rfl rfl dX2_init_63 ?_
  refine lv_icmp_ge (tgt := 86) hx hb dX2_init_64 (by decide) (fun c => absurd c (by decide)) (fun _ => ?_)
  refine lv_aload_n hx hb dX2_init_67 rfl (lv_at hl 1 rfl) ?_
  refine va_get (D := γ.1) (ci := 2) (v := .ref q18x) (C := RX2) (T := TX2) (N := 6) hx hb hts iwX2_init_2 hown hK hP 0 rfl rfl 1 (by decide) (hts _ flX2_init_16) (fun _ h9 => h9) rfl dX2_init_68 ?_
  refine lv_iload_n hx hb dX2_init_71 rfl (lv_at hl 0 rfl) ?_
  refine va_new (ci := 0) (fs := [.null, .int 0]) (C := RX0) (T := TX0) (N := 2) hx hb hts iwX2_init_0 tyX0 tyX0_ok hown (hts _ wdX2_init_n7a) (hts _ wdX2_init_n0b) (hts _ wdX2_init_n0c) hK hP hD hS hA rfl (by decide +kernel) (Nat.le_of_ble_eq_true rfl) (Nat.le_of_ble_eq_true rfl) dX2_init_72 (fun q72x14 H hP hD hS => ?_)
  have hP : xP γ ([xO q0 2 [.ref q5x0, .ref q18x, .int 0, .int 0, .ref q35x2, .ref q46x4], xO q5x0 0 [.ref q9a1, .int 6], xA γ q9a1 12 (fun _ => 0), xQ γ q18x 6 (va_up (va_up (va_up (va_up (fun _ => none) 0 (some q72x6)) 1 (some q72x8)) 2 (some q72x10)) 3 (some q72x12)), xO q35x2 0 [.ref q39a3, .int 6], xA γ q39a3 12 (fun _ => 0), xO q46x4 1 [.ref q50a5, .int 0], xA γ q50a5 12 (fun _ => 0), xO q72x6 0 [.ref q76a7, .int 6], xA γ q76a7 12 (fun _ => 0), xO q72x8 0 [.ref q76a9, .int 6], xA γ q76a9 12 (fun _ => 0), xO q72x10 0 [.ref q76a11, .int 6], xA γ q76a11 12 (fun _ => 0), xO q72x12 0 [.ref q76a13, .int 6], xA γ q76a13 12 (fun _ => 0), xO q72x14 0 [.null, .int 0]]) H := hP
  have hD : va_D A ([xO q0 2 [.ref q5x0, .ref q18x, .int 0, .int 0, .ref q35x2, .ref q46x4], xO q5x0 0 [.ref q9a1, .int 6], xA γ q9a1 12 (fun _ => 0), xQ γ q18x 6 (va_up (va_up (va_up (va_up (fun _ => none) 0 (some q72x6)) 1 (some q72x8)) 2 (some q72x10)) 3 (some q72x12)), xO q35x2 0 [.ref q39a3, .int 6], xA γ q39a3 12 (fun _ => 0), xO q46x4 1 [.ref q50a5, .int 0], xA γ q50a5 12 (fun _ => 0), xO q72x6 0 [.ref q76a7, .int 6], xA γ q76a7 12 (fun _ => 0), xO q72x8 0 [.ref q76a9, .int 6], xA γ q76a9 12 (fun _ => 0), xO q72x10 0 [.ref q76a11, .int 6], xA γ q76a11 12 (fun _ => 0), xO q72x12 0 [.ref q76a13, .int 6], xA γ q76a13 12 (fun _ => 0), xO q72x14 0 [.null, .int 0]]) := hD
  refine lv_dup hx hb dX2_init_75 rfl ?_
  refine xIN (wr := [xO q0 2 [.ref q5x0, .ref q18x, .int 0, .int 0, .ref q35x2, .ref q46x4], xO q5x0 0 [.ref q9a1, .int 6], xA γ q9a1 12 (fun _ => 0), xQ γ q18x 6 (va_up (va_up (va_up (va_up (fun _ => none) 0 (some q72x6)) 1 (some q72x8)) 2 (some q72x10)) 3 (some q72x12)), xO q35x2 0 [.ref q39a3, .int 6], xA γ q39a3 12 (fun _ => 0), xO q46x4 1 [.ref q50a5, .int 0], xA γ q50a5 12 (fun _ => 0), xO q72x6 0 [.ref q76a7, .int 6], xA γ q76a7 12 (fun _ => 0), xO q72x8 0 [.ref q76a9, .int 6], xA γ q76a9 12 (fun _ => 0), xO q72x10 0 [.ref q76a11, .int 6], xA γ q76a11 12 (fun _ => 0), xO q72x12 0 [.ref q76a13, .int 6], xA γ q76a13 12 (fun _ => 0)]) (rest := [.ref q72x14, .int 4, .ref q18x]) (isC := [16]) (isR := [0, 1, 2, 3, 4, 5, 6, 7, 8, 9, 10, 11, 12, 13, 14, 15]) ⟨hx, hb, hml, hown, hts⟩ (c_X0_init γ l q72x14) (va_cnB 0 hts gX2_init_X0_init_n9 rfl rfl rfl (hEx.2.1) (hts _ wdX2_init_n0c) hds_X0_init ⟨(Nat.le_of_ble_eq_true rfl), (Nat.le_of_ble_eq_true rfl)⟩) rfl (hts _ wdX2_init_iX0_init) hK hP hD hS hA rfl (by decide) rfl (by decide) (by decide) hl.1 rfl (Nat.le_of_ble_eq_true rfl) dX2_init_76 ⟨(Nat.le_of_ble_eq_true rfl), (Nat.le_of_ble_eq_true rfl)⟩ (fun w9 H locs hw hP hD hS => ?_)
  obtain ⟨q76a15, rfl⟩ := hw
  have hP : xP γ ([xO q0 2 [.ref q5x0, .ref q18x, .int 0, .int 0, .ref q35x2, .ref q46x4], xO q5x0 0 [.ref q9a1, .int 6], xA γ q9a1 12 (fun _ => 0), xQ γ q18x 6 (va_up (va_up (va_up (va_up (fun _ => none) 0 (some q72x6)) 1 (some q72x8)) 2 (some q72x10)) 3 (some q72x12)), xO q35x2 0 [.ref q39a3, .int 6], xA γ q39a3 12 (fun _ => 0), xO q46x4 1 [.ref q50a5, .int 0], xA γ q50a5 12 (fun _ => 0), xO q72x6 0 [.ref q76a7, .int 6], xA γ q76a7 12 (fun _ => 0), xO q72x8 0 [.ref q76a9, .int 6], xA γ q76a9 12 (fun _ => 0), xO q72x10 0 [.ref q76a11, .int 6], xA γ q76a11 12 (fun _ => 0), xO q72x12 0 [.ref q76a13, .int 6], xA γ q76a13 12 (fun _ => 0), xO q72x14 0 [.ref q76a15, .int 6], xA γ q76a15 12 (fun _ => 0)]) H := hP
  have hD : va_D A ([xO q0 2 [.ref q5x0, .ref q18x, .int 0, .int 0, .ref q35x2, .ref q46x4], xO q5x0 0 [.ref q9a1, .int 6], xA γ q9a1 12 (fun _ => 0), xQ γ q18x 6 (va_up (va_up (va_up (va_up (fun _ => none) 0 (some q72x6)) 1 (some q72x8)) 2 (some q72x10)) 3 (some q72x12)), xO q35x2 0 [.ref q39a3, .int 6], xA γ q39a3 12 (fun _ => 0), xO q46x4 1 [.ref q50a5, .int 0], xA γ q50a5 12 (fun _ => 0), xO q72x6 0 [.ref q76a7, .int 6], xA γ q76a7 12 (fun _ => 0), xO q72x8 0 [.ref q76a9, .int 6], xA γ q76a9 12 (fun _ => 0), xO q72x10 0 [.ref q76a11, .int 6], xA γ q76a11 12 (fun _ => 0), xO q72x12 0 [.ref q76a13, .int 6], xA γ q76a13 12 (fun _ => 0), xO q72x14 0 [.ref q76a15, .int 6], xA γ q76a15 12 (fun _ => 0)]) := hD
  refine W.eq (g2 := F0 m 79 ls [.ref q72x14, .int 4, .ref q18x]) rfl ?_
  refine x_astq (f := va_up (va_up (va_up (va_up (fun _ => none) 0 (some q72x6)) 1 (some q72x8)) 2 (some q72x10)) 3 (some q72x12)) hx hb hK hP hD hS 3 16 rfl rfl 4 rfl (by omega) (by omega) dX2_init_79 (fun H locs hP hD hS => ?_)
  have hP : xP γ ([xO q0 2 [.ref q5x0, .ref q18x, .int 0, .int 0, .ref q35x2, .ref q46x4], xO q5x0 0 [.ref q9a1, .int 6], xA γ q9a1 12 (fun _ => 0), xQ γ q18x 6 (va_up (va_up (va_up (va_up (va_up (fun _ => none) 0 (some q72x6)) 1 (some q72x8)) 2 (some q72x10)) 3 (some q72x12)) 4 (some q72x14)), xO q35x2 0 [.ref q39a3, .int 6], xA γ q39a3 12 (fun _ => 0), xO q46x4 1 [.ref q50a5, .int 0], xA γ q50a5 12 (fun _ => 0), xO q72x6 0 [.ref q76a7, .int 6], xA γ q76a7 12 (fun _ => 0), xO q72x8 0 [.ref q76a9, .int 6], xA γ q76a9 12 (fun _ => 0), xO q72x10 0 [.ref q76a11, .int 6], xA γ q76a11 12 (fun _ => 0), xO q72x12 0 [.ref q76a13, .int 6], xA γ q76a13 12 (fun _ => 0), xO q72x14 0 [.ref q76a15, .int 6], xA γ q76a15 12 (fun _ => 0)]) H := hP
  have hD : va_D A ([xO q0 2 [.ref q5x0, .ref q18x, .int 0, .int 0, .ref q35x2, .ref q46x4], xO q5x0 0 [.ref q9a1, .int 6], xA γ q9a1 12 (fun _ => 0), xQ γ q18x 6 (va_up (va_up (va_up (va_up (va_up (fun _ => none) 0 (some q72x6)) 1 (some q72x8)) 2 (some q72x10)) 3 (some q72x12)) 4 (some q72x14)), xO q35x2 0 [.ref q39a3, .int 6], xA γ q39a3 12 (fun _ => 0), xO q46x4 1 [.ref q50a5, .int 0], xA γ q50a5 12 (fun _ => 0), xO q72x6 0 [.ref q76a7, .int 6], xA γ q76a7 12 (fun _ => 0), xO q72x8 0 [.ref q76a9, .int 6], xA γ q76a9 12 (fun _ => 0), xO q72x10 0 [.ref q76a11, .int 6], xA γ q76a11 12 (fun _ => 0), xO q72x12 0 [.ref q76a13, .int 6], xA γ q76a13 12 (fun _ => 0), xO q72x14 0 [.ref q76a15, .int 6], xA γ q76a15 12 (fun _ => 0)]) := hD
  refine lv_iinc (v := 5) (lv' := [(1, .int 5), (0, .ref q0)]) hx hb dX2_init_80 hl (k := 0) rfl (by decide) (by decide) rfl (fun ls hl => ?_)
  refine lv_goto (tgt := 58) hx hb dX2_init_83 (by decide) ?_
  refine lv_iload_n hx hb dX2_init_58 rfl (lv_at hl 0 rfl) ?_
  refine lv_aload_n hx hb dX2_init_59 rfl (lv_at hl 1 rfl) ?_
  refine va_get (D := γ.1) (ci := 2) (v := .ref q18x) (C := RX2) (T := TX2) (N := 6) hx hb hts iwX2_init_2 hown hK hP 0 rfl rfl 1 (by decide) (hts _ flX2_init_16) (fun _ h9 => h9) rfl dX2_init_60 ?_
  refine va_alen (v := nI 6) hx hb hK hP 3 1 rfl rfl rfl dX2_init_63 ?_
  refine lv_icmp_ge (tgt := 86) hx hb dX2_init_64 (by decide) (fun c => absurd c (by decide)) (fun _ => ?_)
  refine lv_aload_n hx hb dX2_init_67 rfl (lv_at hl 1 rfl) ?_
  refine va_get (D := γ.1) (ci := 2) (v := .ref q18x) (C := RX2) (T := TX2) (N := 6) hx hb hts iwX2_init_2 hown hK hP 0 rfl rfl 1 (by decide) (hts _ flX2_init_16) (fun _ h9 => h9) rfl dX2_init_68 ?_
  refine lv_iload_n hx hb dX2_init_71 rfl (lv_at hl 0 rfl) ?_
  refine va_new (ci := 0) (fs := [.null, .int 0]) (C := RX0) (T := TX0) (N := 2) hx hb hts iwX2_init_0 tyX0 tyX0_ok hown (hts _ wdX2_init_n7a) (hts _ wdX2_init_n0b) (hts _ wdX2_init_n0c) hK hP hD hS hA rfl (by decide +kernel) (Nat.le_of_ble_eq_true rfl) (Nat.le_of_ble_eq_true rfl) dX2_init_72 (fun q72x16 H hP hD hS => ?_)
  have hP : xP γ ([xO q0 2 [.ref q5x0, .ref q18x, .int 0, .int 0, .ref q35x2, .ref q46x4], xO q5x0 0 [.ref q9a1, .int 6], xA γ q9a1 12 (fun _ => 0), xQ γ q18x 6 (va_up (va_up (va_up (va_up (va_up (fun _ => none) 0 (some q72x6)) 1 (some q72x8)) 2 (some q72x10)) 3 (some q72x12)) 4 (some q72x14)), xO q35x2 0 [.ref q39a3, .int 6], xA γ q39a3 12 (fun _ => 0), xO q46x4 1 [.ref q50a5, .int 0], xA γ q50a5 12 (fun _ => 0), xO q72x6 0 [.ref q76a7, .int 6], xA γ q76a7 12 (fun _ => 0), xO q72x8 0 [.ref q76a9, .int 6], xA γ q76a9 12 (fun _ => 0), xO q72x10 0 [.ref q76a11, .int 6], xA γ q76a11 12 (fun _ => 0), xO q72x12 0 [.ref q76a13, .int 6], xA γ q76a13 12 (fun _ => 0), xO q72x14 0 [.ref q76a15, .int 6], xA γ q76a15 12 (fun _ => 0), xO q72x16 0 [.null, .int 0]]) H := hP
  have hD : va_D A ([xO q0 2 [.ref q5x0, .ref q18x, .int 0, .int 0, .ref q35x2, .ref q46x4], xO q5x0 0 [.ref q9a1, .int 6], xA γ q9a1 12 (fun _ => 0), xQ γ q18x 6 (va_up (va_up (va_up (va_up (va_up (fun _ => none) 0 (some q72x6)) 1 (some q72x8)) 2 (some q72x10)) 3 (some q72x12)) 4 (some q72x14)), xO q35x2 0 [.ref q39a3, .int 6], xA γ q39a3 12 (fun _ => 0), xO q46x4 1 [.ref q50a5, .int 0], xA γ q50a5 12 (fun _ => 0), xO q72x6 0 [.ref q76a7, .int 6], xA γ q76a7 12 (fun _ => 0), xO q72x8 0 [.ref q76a9, .int 6], xA γ q76a9 12 (fun _ => 0), xO q72x10 0 [.ref q76a11, .int 6], xA γ q76a11 12 (fun _ => 0), xO q72x12 0 [.ref q76a13, .int 6], xA γ q76a13 12 (fun _ => 0), xO q72x14 0 [.ref q76a15, .int 6], xA γ q76a15 12 (fun _ => 0), xO q72x16 0 [.null, .int 0]]) := hD
  refine lv_dup hx hb dX2_init_75 rfl ?_
  refine xIN (wr := [xO q0 2 [.ref q5x0, .ref q18x, .int 0, .int 0, .ref q35x2, .ref q46x4], xO q5x0 0 [.ref q9a1, .int 6], xA γ q9a1 12 (fun _ => 0), xQ γ q18x 6 (va_up (va_up (va_up (va_up (va_up (fun _ => none) 0 (some q72x6)) 1 (some q72x8)) 2 (some q72x10)) 3 (some q72x12)) 4 (some q72x14)), xO q35x2 0 [.ref q39a3, .int 6], xA γ q39a3 12 (fun _ => 0), xO q46x4 1 [.ref q50a5, .int 0], xA γ q50a5 12 (fun _ => 0), xO q72x6 0 [.ref q76a7, .int 6], xA γ q76a7 12 (fun _ => 0), xO q72x8 0 [.ref q76a9, .int 6], xA γ q76a9 12 (fun _ => 0), xO q72x10 0 [.ref q76a11, .int 6], xA γ q76a11 12 (fun _ => 0), xO q72x12 0 [.ref q76a13, .int 6], xA γ q76a13 12 (fun _ => 0), xO q72x14 0 [.ref q76a15, .int 6], xA γ q76a15 12 (fun _ => 0)]) (rest := [.ref q72x16, .int 5, .ref q18x]) (isC := [18]) (isR := [0, 1, 2, 3, 4, 5, 6, 7, 8, 9, 10, 11, 12, 13, 14, 15, 16, 17]) ⟨hx, hb, hml, hown, hts⟩ (c_X0_init γ l q72x16) (va_cnB 0 hts gX2_init_X0_init_n9 rfl rfl rfl (hEx.2.1) (hts _ wdX2_init_n0c) hds_X0_init ⟨(Nat.le_of_ble_eq_true rfl), (Nat.le_of_ble_eq_true rfl)⟩) rfl (hts _ wdX2_init_iX0_init) hK hP hD hS hA rfl (by decide) rfl (by decide) (by decide) hl.1 rfl (Nat.le_of_ble_eq_true rfl) dX2_init_76 ⟨(Nat.le_of_ble_eq_true rfl), (Nat.le_of_ble_eq_true rfl)⟩ (fun w9 H locs hw hP hD hS => ?_)
  obtain ⟨q76a17, rfl⟩ := hw
  have hP : xP γ ([xO q0 2 [.ref q5x0, .ref q18x, .int 0, .int 0, .ref q35x2, .ref q46x4], xO q5x0 0 [.ref q9a1, .int 6], xA γ q9a1 12 (fun _ => 0), xQ γ q18x 6 (va_up (va_up (va_up (va_up (va_up (fun _ => none) 0 (some q72x6)) 1 (some q72x8)) 2 (some q72x10)) 3 (some q72x12)) 4 (some q72x14)), xO q35x2 0 [.ref q39a3, .int 6], xA γ q39a3 12 (fun _ => 0), xO q46x4 1 [.ref q50a5, .int 0], xA γ q50a5 12 (fun _ => 0), xO q72x6 0 [.ref q76a7, .int 6], xA γ q76a7 12 (fun _ => 0), xO q72x8 0 [.ref q76a9, .int 6], xA γ q76a9 12 (fun _ => 0), xO q72x10 0 [.ref q76a11, .int 6], xA γ q76a11 12 (fun _ => 0), xO q72x12 0 [.ref q76a13, .int 6], xA γ q76a13 12 (fun _ => 0), xO q72x14 0 [.ref q76a15, .int 6], xA γ q76a15 12 (fun _ => 0), xO q72x16 0 [.ref q76a17, .int 6], xA γ q76a17 12 (fun _ => 0)]) H := hP
  have hD : va_D A ([xO q0 2 [.ref q5x0, .ref q18x, .int 0, .int 0, .ref q35x2, .ref q46x4], xO q5x0 0 [.ref q9a1, .int 6], xA γ q9a1 12 (fun _ => 0), xQ γ q18x 6 (va_up (va_up (va_up (va_up (va_up (fun _ => none) 0 (some q72x6)) 1 (some q72x8)) 2 (some q72x10)) 3 (some q72x12)) 4 (some q72x14)), xO q35x2 0 [.ref q39a3, .int 6], xA γ q39a3 12 (fun _ => 0), xO q46x4 1 [.ref q50a5, .int 0], xA γ q50a5 12 (fun _ => 0), xO q72x6 0 [.ref q76a7, .int 6], xA γ q76a7 12 (fun _ => 0), xO q72x8 0 [.ref q76a9, .int 6], xA γ q76a9 12 (fun _ => 0), xO q72x10 0 [.ref q76a11, .int 6], xA γ q76a11 12 (fun _ => 0), xO q72x12 0 [.ref q76a13, .int 6], xA γ q76a13 12 (fun _ => 0), xO q72x14 0 [.ref q76a15, .int 6], xA γ q76a15 12 (fun _ => 0), xO q72x16 0 [.ref q76a17, .int 6], xA γ q76a17 12 (fun _ => 0)]) := hD
  refine W.eq (g2 := F0 m 79 ls [.ref q72x16, .int 5, .ref q18x]) rfl ?_
  refine x_astq (f := va_up (va_up (va_up (va_up (va_up (fun _ => none) 0 (some q72x6)) 1 (some q72x8)) 2 (some q72x10)) 3 (some q72x12)) 4 (some q72x14)) hx hb hK hP hD hS 3 18 rfl rfl 5 rfl (by omega) (by omega) dX2_init_79 (fun H locs hP hD hS => ?_)
  have hP : xP γ ([xO q0 2 [.ref q5x0, .ref q18x, .int 0, .int 0, .ref q35x2, .ref q46x4], xO q5x0 0 [.ref q9a1, .int 6], xA γ q9a1 12 (fun _ => 0), xQ γ q18x 6 (va_up (va_up (va_up (va_up (va_up (va_up (fun _ => none) 0 (some q72x6)) 1 (some q72x8)) 2 (some q72x10)) 3 (some q72x12)) 4 (some q72x14)) 5 (some q72x16)), xO q35x2 0 [.ref q39a3, .int 6], xA γ q39a3 12 (fun _ => 0), xO q46x4 1 [.ref q50a5, .int 0], xA γ q50a5 12 (fun _ => 0), xO q72x6 0 [.ref q76a7, .int 6], xA γ q76a7 12 (fun _ => 0), xO q72x8 0 [.ref q76a9, .int 6], xA γ q76a9 12 (fun _ => 0), xO q72x10 0 [.ref q76a11, .int 6], xA γ q76a11 12 (fun _ => 0), xO q72x12 0 [.ref q76a13, .int 6], xA γ q76a13 12 (fun _ => 0), xO q72x14 0 [.ref q76a15, .int 6], xA γ q76a15 12 (fun _ => 0), xO q72x16 0 [.ref q76a17, .int 6], xA γ q76a17 12 (fun _ => 0)]) H := hP
  have hD : va_D A ([xO q0 2 [.ref q5x0, .ref q18x, .int 0, .int 0, .ref q35x2, .ref q46x4], xO q5x0 0 [.ref q9a1, .int 6], xA γ q9a1 12 (fun _ => 0), xQ γ q18x 6 (va_up (va_up (va_up (va_up (va_up (va_up (fun _ => none) 0 (some q72x6)) 1 (some q72x8)) 2 (some q72x10)) 3 (some q72x12)) 4 (some q72x14)) 5 (some q72x16)), xO q35x2 0 [.ref q39a3, .int 6], xA γ q39a3 12 (fun _ => 0), xO q46x4 1 [.ref q50a5, .int 0], xA γ q50a5 12 (fun _ => 0), xO q72x6 0 [.ref q76a7, .int 6], xA γ q76a7 12 (fun _ => 0), xO q72x8 0 [.ref q76a9, .int 6], xA γ q76a9 12 (fun _ => 0), xO q72x10 0 [.ref q76a11, .int 6], xA γ q76a11 12 (fun _ => 0), xO q72x12 0 [.ref q76a13, .int 6], xA γ q76a13 12 (fun _ => 0), xO q72x14 0 [.ref q76a15, .int 6], xA γ q76a15 12 (fun _ => 0), xO q72x16 0 [.ref q76a17, .int 6], xA γ q76a17 12 (fun _ => 0)]) := hD
  refine lv_iinc (v := 6) (lv' := [(1, .int 6), (0, .ref q0)]) hx hb dX2_init_80 hl (k := 0) rfl (by decide) (by decide) rfl (fun ls hl => ?_)
  refine lv_goto (tgt := 58) hx hb dX2_init_83 (by decide) ?_
  refine lv_iload_n hx hb dX2_init_58 rfl (lv_at hl 0 rfl) ?_
  refine lv_aload_n hx hb dX2_init_59 rfl (lv_at hl 1 rfl) ?_
  refine va_get (D := γ.1) (ci := 2) (v := .ref q18x) (C := RX2) (T := TX2) (N := 6) hx hb hts iwX2_init_2 hown hK hP 0 rfl rfl 1 (by decide) (hts _ flX2_init_16) (fun _ h9 => h9) rfl dX2_init_60 ?_
  refine va_alen (v := nI 6) hx hb hK hP 3 1 rfl rfl rfl dX2_init_63 ?_
  refine lv_icmp_ge (tgt := 86) hx hb dX2_init_64 (by decide) (fun _ => ?_) (fun c => absurd (by decide) c)
  have hP := xQ_row hP 3 rfl (fun t9 => some ((xsx q72x6 q72x8 q72x10 q72x12 q72x14 q72x16) t9)) (fun j hj => by rcases (show j = 0 ∨ j = 1 ∨ j = 2 ∨ j = 3 ∨ j = 4 ∨ j = 5 by omega) with h | h | h | h | h | h <;> subst h <;> rfl)
  have hD := xD_row (e := (xQ γ q18x 6 (fun t9 => some ((xsx q72x6 q72x8 q72x10 q72x12 q72x14 q72x16) t9))).2) hD 3 rfl
  have hP := hP.sub (ws' := [xO q0 2 [.ref q5x0, .ref q18x, .int (nI 0), .int 0, .ref q35x2, .ref q46x4], xO q5x0 0 [.ref q9a1, .int (nI 6)], xA γ q9a1 12 (fun _ => 0), xO q35x2 0 [.ref q39a3, .int (nI 6)], xA γ q39a3 12 (fun _ => 0), xO q46x4 1 [.ref q50a5, .int 0], xA γ q50a5 12 (fun _ => 0), xQ γ q18x 6 (fun t9 => some ((xsx q72x6 q72x8 q72x10 q72x12 q72x14 q72x16) t9))] ++ xKp γ (xsx q72x6 q72x8 q72x10 q72x12 q72x14 q72x16) (xsx q76a7 q76a9 q76a11 q76a13 q76a15 q76a17) (fun _ => nI 6) (fun _ _ => 0)) [0, 1, 2, 4, 5, 6, 7, 3, 8, 9, 10, 11, 12, 13, 14, 15, 16, 17, 18, 19] rfl
  have hD := hD.sub (ws' := [xO q0 2 [.ref q5x0, .ref q18x, .int (nI 0), .int 0, .ref q35x2, .ref q46x4], xO q5x0 0 [.ref q9a1, .int (nI 6)], xA γ q9a1 12 (fun _ => 0), xO q35x2 0 [.ref q39a3, .int (nI 6)], xA γ q39a3 12 (fun _ => 0), xO q46x4 1 [.ref q50a5, .int 0], xA γ q50a5 12 (fun _ => 0), xQ γ q18x 6 (fun t9 => some ((xsx q72x6 q72x8 q72x10 q72x12 q72x14 q72x16) t9))] ++ xKp γ (xsx q72x6 q72x8 q72x10 q72x12 q72x14 q72x16) (xsx q76a7 q76a9 q76a11 q76a13 q76a15 q76a17) (fun _ => nI 6) (fun _ _ => 0)) [0, 1, 2, 4, 5, 6, 7, 3, 8, 9, 10, 11, 12, 13, 14, 15, 16, 17, 18, 19] (by decide) rfl
  have hP : xP γ ([xO q0 2 [.ref q5x0, .ref q18x, .int (nI 0), .int 0, .ref q35x2, .ref q46x4], xO q5x0 0 [.ref q9a1, .int (nI 6)], xA γ q9a1 12 (fun _ => 0), xO q35x2 0 [.ref q39a3, .int (nI 6)], xA γ q39a3 12 (fun _ => 0), xO q46x4 1 [.ref q50a5, .int 0], xA γ q50a5 12 (fun _ => 0), xQ γ q18x 6 (fun t9 => some ((xsx q72x6 q72x8 q72x10 q72x12 q72x14 q72x16) t9))] ++ xKp γ (xsx q72x6 q72x8 q72x10 q72x12 q72x14 q72x16) (xsx q76a7 q76a9 q76a11 q76a13 q76a15 q76a17) (fun _ => nI 6) (fun _ _ => 0)) H := hP
  have hD : va_D A ([xO q0 2 [.ref q5x0, .ref q18x, .int (nI 0), .int 0, .ref q35x2, .ref q46x4], xO q5x0 0 [.ref q9a1, .int (nI 6)], xA γ q9a1 12 (fun _ => 0), xO q35x2 0 [.ref q39a3, .int (nI 6)], xA γ q39a3 12 (fun _ => 0), xO q46x4 1 [.ref q50a5, .int 0], xA γ q50a5 12 (fun _ => 0), xQ γ q18x 6 (fun t9 => some ((xsx q72x6 q72x8 q72x10 q72x12 q72x14 q72x16) t9))] ++ xKp γ (xsx q72x6 q72x8 q72x10 q72x12 q72x14 q72x16) (xsx q76a7 q76a9 q76a11 q76a13 q76a15 q76a17) (fun _ => nI 6) (fun _ _ => 0)) := hD
  subst hQ
  exact xN_v hx hb hr hlocks dX2_init_86 hP hD hS (Nat.le_of_ble_eq_true rfl) (Nat.le_of_ble_eq_true rfl) (⟨_, _, _, _, _, _, _, _, _, rfl⟩)

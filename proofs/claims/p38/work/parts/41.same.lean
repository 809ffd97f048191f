/-! as by hand: what the law's last look compares -/
abbrev xRB (n : Nat) (f : xRow) : Nat → Nat → Bool := fun a b => decide ((xAbs (xTlt n f a)).toInt ≤ (xAbs (xTlt n f b)).toInt)
abbrev xRH (f : xRow) : Nat → Nat → Bool := fun a b => decide (-(f a).toInt ≤ -(f b).toInt)
theorem xDn_t {R : Nat → Nat → Bool} {n d j : Nat} (hj : j = n - 1 - d) (h : R j (xDn R n d) = true) : xDn R n (d + 1) = j := by
  subst hj
  exact if_pos h
theorem xDn_f {R : Nat → Nat → Bool} {n d j : Nat} (hj : j = n - 1 - d) (h : ¬ R j (xDn R n d) = true) : xDn R n (d + 1) = xDn R n d := by
  subst hj
  exact if_neg h
theorem xRB_f {n a b : Nat} {f : xRow} (c : xAbs (xTlt n f b) < xAbs (xTlt n f a)) : ¬ xRB n f a b = true := by
  intro h
  have h2 := of_decide_eq_true h
  rw [Int32.lt_iff_toInt_lt] at c
  omega
theorem xRB_t {n a b : Nat} {f : xRow} (c : ¬ xAbs (xTlt n f b) < xAbs (xTlt n f a)) : xRB n f a b = true := by
  apply decide_eq_true
  rw [Int32.lt_iff_toInt_lt] at c
  omega
theorem xRH_f {a b : Nat} {f : xRow} (c : f a < f b) : ¬ xRH f a b = true := by
  intro h
  have h2 := of_decide_eq_true h
  rw [Int32.lt_iff_toInt_lt] at c
  omega
theorem xRH_t {a b : Nat} {f : xRow} (c : ¬ f a < f b) : xRH f a b = true := by
  apply decide_eq_true
  rw [Int32.lt_iff_toInt_lt] at c
  omega
theorem xite_n {k : Nat} {b : Bool} : nI k + (if b = true then (1 : Int32) else 0) = nI (k + if b then 1 else 0) := by
  cases b with
  | true => exact nI_1 k
  | false => exact nI_add k 0
theorem xCn_s {P : Nat → Bool} {n d j : Nat} (hj : j = n - 1 - d) : nI (xCn P n d) + (if P j = true then (1 : Int32) else 0) = nI (xCn P n (d + 1)) := by
  subst hj
  exact xite_n
theorem xCnt_s {P : Nat → Bool} {k : Nat} : nI (xCnt P k) + (if P k = true then (1 : Int32) else 0) = nI (xCnt P (k + 1)) := xite_n
theorem xm1 (x : Int32) : x + (-1) = x - 1 := by grind
theorem hds_X3_spread : yX3_spread.cls ≠ "java/lang/invoke/MethodHandle" ∧ yX3_spread.cls ≠ "java/lang/invoke/VarHandle" ∧ (parseMethodDescriptor yX3_spread.desc).map (fun d => d.parameters.length) = some 1 := by decide +kernel
theorem hdv_X2_meanNumber : yX2_meanNumber.cls = RX2 ∧ yX2_meanNumber.cls ≠ "java/lang/invoke/MethodHandle" ∧ yX2_meanNumber.cls ≠ "java/lang/invoke/VarHandle" ∧ (parseMethodDescriptor yX2_meanNumber.desc).map (fun d => d.parameters.length) = some 0 := by decide +kernel
theorem hdv_X2_differences : yX2_differences.cls = RX2 ∧ yX2_differences.cls ≠ "java/lang/invoke/MethodHandle" ∧ yX2_differences.cls ≠ "java/lang/invoke/VarHandle" ∧ (parseMethodDescriptor yX2_differences.desc).map (fun d => d.parameters.length) = some 1 := by decide +kernel
theorem hdv_X2_canReach : yX2_canReach.cls = RX2 ∧ yX2_canReach.cls ≠ "java/lang/invoke/MethodHandle" ∧ yX2_canReach.cls ≠ "java/lang/invoke/VarHandle" ∧ (parseMethodDescriptor yX2_canReach.desc).map (fun d => d.parameters.length) = some 1 := by decide +kernel
theorem hdv_X2_numberIn : yX2_numberIn.cls = RX2 ∧ yX2_numberIn.cls ≠ "java/lang/invoke/MethodHandle" ∧ yX2_numberIn.cls ≠ "java/lang/invoke/VarHandle" ∧ (parseMethodDescriptor yX2_numberIn.desc).map (fun d => d.parameters.length) = some 2 := by decide +kernel
theorem hdv_X3_tilt : yX3_tilt.cls = RX3 ∧ yX3_tilt.cls ≠ "java/lang/invoke/MethodHandle" ∧ yX3_tilt.cls ≠ "java/lang/invoke/VarHandle" ∧ (parseMethodDescriptor yX3_tilt.desc).map (fun d => d.parameters.length) = some 1 := by decide +kernel
theorem hdv_X2_numberAt : yX2_numberAt.cls = RX2 ∧ yX2_numberAt.cls ≠ "java/lang/invoke/MethodHandle" ∧ yX2_numberAt.cls ≠ "java/lang/invoke/VarHandle" ∧ (parseMethodDescriptor yX2_numberAt.desc).map (fun d => d.parameters.length) = some 1 := by decide +kernel
theorem hdv_X2_isSteep : yX2_isSteep.cls = RX2 ∧ yX2_isSteep.cls ≠ "java/lang/invoke/MethodHandle" ∧ yX2_isSteep.cls ≠ "java/lang/invoke/VarHandle" ∧ (parseMethodDescriptor yX2_isSteep.desc).map (fun d => d.parameters.length) = some 1 := by decide +kernel
theorem hdv_X2_tilt : yX2_tilt.cls = RX2 ∧ yX2_tilt.cls ≠ "java/lang/invoke/MethodHandle" ∧ yX2_tilt.cls ≠ "java/lang/invoke/VarHandle" ∧ (parseMethodDescriptor yX2_tilt.desc).map (fun d => d.parameters.length) = some 1 := by decide +kernel
theorem flX3_isSame_7 : Cond.fieldLink RX3 7 "RingSeesawLaw$Sim" "ring" "[I" ∈ wsX3_isSame := by decide +kernel
theorem iwX3_isSame_3 : ∀ w ∈ wsX30, w ∈ wsX3_isSame := by decide +kernel
theorem flX3_isSame_14 : Cond.fieldLink RX3 14 "RingSeesawLaw$Sim" "targets" "[[I" ∈ wsX3_isSame := by decide +kernel
theorem flX3_isSame_64 : Cond.fieldLink RX3 64 "RingSeesawLaw$Sim" "tips" "I" ∈ wsX3_isSame := by decide +kernel
theorem wdX3_isSame_m53a : Cond.methodLink RX3 53 Lib.Math.abs.name ∈ wsX3_isSame := by decide +kernel
theorem wdX3_isSame_m53b : Cond.static Lib.Math.abs.name ∈ wsX3_isSame := by decide +kernel
theorem wdX3_isSame_m53c : Cond.initialized "java/lang/Math" ∈ wsX3_isSame := by decide +kernel
theorem wdX3_isSame_m53d : Cond.code Lib.Math.abs.name Lib.Math.abs.code 1 (some .int) ∈ wsX3_isSame := by decide +kernel
set_option maxHeartbeats 16000000 in
set_option maxRecDepth 100000 in
theorem c_X3_isSame (γ : xG) (l : Launch) (q0 q1 a1 q2 a2 q3 a3 q4 s0 : Nat) (kq ka : Nat → Nat) (n kc : Nat) (td tn wn : Int32) (f tf wf : xRow) (ks : Nat → xRow) (kn : Nat → Int32) (r tq : Nat) (ta : Nat → Nat) (hn0 : 3 ≤ n) (hn1 : n ≤ 12) (hkc : kc ≤ 6) (hkn : ∀ t, t < kc → kn t = nI n) : xGD γ l yX3_isSame wsX3_isSame ({ frames := 4, cells := 0, slots := 0, locals := 87 } : Room) [.ref s0, .ref q0] (fun _ => True) (DWt γ q0 q1 a1 q2 a2 q3 a3 q4 s0 kq ka n kc td tn wn f tf wf ks kn r tq ta) (fun r9 _ => r9 = some (.int 1)) 0 0 := by
  refine xGD.of (cc := cX3_isSame) (maxL := 11) (ret := (some .boolean)) (by decide +kernel) rfl (Nat.le_of_ble_eq_true rfl) ?_
  intro p e s m below meth c hx hb hr hml hts hown hlocks hP hK hEx A hA hD ls hl
  have hS : va_S A s.heap s.heap [] := va_S.rf
  generalize hargs : ([.ref s0, .ref q0] : List Value).toArray = args at hts ⊢
  obtain ⟨Q, hQ⟩ : ∃ Q9, Q9 = MQD lw_cs below (xGQ γ A (fun r9 _ => r9 = some (.int 1))) args s 0 0 A := ⟨_, rfl⟩
  rw [← hQ]
  have hown : s.vm.findClass RX3 = some m.cls := hown
  have hP : xP γ (([xO q0 2 [.ref q1, .ref q4, .int (nI kc), .int td, .ref q2, .ref q3], xO q1 0 [.ref a1, .int (nI n)], xA γ a1 12 f, xO q2 0 [.ref a2, .int tn], xA γ a2 12 tf, xO q3 1 [.ref a3, .int wn], xA γ a3 12 wf, xQ γ q4 6 (fun t9 => some (kq t9))] ++ xKp γ kq ka kn ks) ++ ([xO s0 3 [.ref r, .ref tq, .int td], xA γ r n f, xT γ tq kc (fun t9 => some (ta t9))] ++ xTs γ ta n ks kc)) s.heap := hP
  have hD : va_D A (([xO q0 2 [.ref q1, .ref q4, .int (nI kc), .int td, .ref q2, .ref q3], xO q1 0 [.ref a1, .int (nI n)], xA γ a1 12 f, xO q2 0 [.ref a2, .int tn], xA γ a2 12 tf, xO q3 1 [.ref a3, .int wn], xA γ a3 12 wf, xQ γ q4 6 (fun t9 => some (kq t9))] ++ xKp γ kq ka kn ks) ++ ([xO s0 3 [.ref r, .ref tq, .int td], xA γ r n f, xT γ tq kc (fun t9 => some (ta t9))] ++ xTs γ ta n ks kc)) := hD
  have hl : lv_has ls 11 [(0, .ref s0), (1, .ref q0)] := hl
  refine lv_aload_n hx hb dX3_isSame_0 rfl (lv_at hl 0 rfl) ?_
  refine va_get (D := γ.1) (ci := 3) (v := .ref r) (C := RX3) (T := TX3) (N := 3) hx hb hts iwX3_isSame_3 hown hK hP 20 rfl rfl 0 (by decide) (hts _ flX3_isSame_7) (fun _ h9 => h9) rfl dX3_isSame_1 ?_
  refine va_alen (v := nI n) hx hb hK hP 21 0 rfl rfl rfl dX3_isSame_4 ?_
  refine lv_istore_n (lv' := [(2, .int (nI n)), (0, .ref s0), (1, .ref q0)]) hx hb dX3_isSame_5 rfl hl (by decide) rfl (fun ls hl => ?_)
  refine lv_iconst (v := 0) hx hb dX3_isSame_6 (by decide) ?_
  refine lv_istore_n (lv' := [(3, .int 0), (2, .int (nI n)), (0, .ref s0), (1, .ref q0)]) hx hb dX3_isSame_7 rfl hl (by decide) rfl (fun ls hl => ?_)
  refine lv_iconst (v := 0) hx hb dX3_isSame_8 (by decide) ?_
  refine lv_istore (lv' := [(4, .int 0), (3, .int 0), (2, .int (nI n)), (0, .ref s0), (1, .ref q0)]) hx hb dX3_isSame_9 hl (by decide) rfl (fun ls hl => ?_)
  refine lv_iload_n hx hb dX3_isSame_11 rfl (lv_at hl 2 rfl) ?_
  refine lv_iconst (v := 1) hx hb dX3_isSame_12 (by decide) ?_
  refine lv_isub hx hb dX3_isSame_13 ?_
  refine x_top (y := nI (n - 1)) (pk_sub (a := n) (b := 1) (by omega)) ?_
  refine lv_istore (lv' := [(5, .int (nI (n - 1))), (4, .int 0), (3, .int 0), (2, .int (nI n)), (0, .ref s0), (1, .ref q0)]) hx hb dX3_isSame_14 hl (by decide) rfl (fun ls hl => ?_)
  refine lv_iload_n hx hb dX3_isSame_16 rfl (lv_at hl 3 rfl) ?_
  refine lv_iconst (v := 1) hx hb dX3_isSame_17 (by decide) ?_
  refine lv_isub hx hb dX3_isSame_18 ?_
  refine x_top (y := nI (n - 1)) (pk_sub (a := n) (b := 1) (by omega)) ?_
  refine lv_istore (lv' := [(6, .int (nI (n - 1))), (5, .int (nI (n - 1))), (4, .int 0), (3, .int 0), (2, .int (nI n)), (0, .ref s0), (1, .ref q0)]) hx hb dX3_isSame_19 hl (by decide) rfl (fun ls hl => ?_)
  refine lv_iload_n hx hb dX3_isSame_21 rfl (lv_at hl 4 rfl) ?_
  refine lv_iconst (v := 1) hx hb dX3_isSame_22 (by decide) ?_
  refine lv_isub hx hb dX3_isSame_23 ?_
  refine lv_istore (lv' := [(7, .int ((nI n) - 1)), (6, .int (nI (n - 1))), (5, .int (nI (n - 1))), (4, .int 0), (3, .int 0), (2, .int (nI n)), (0, .ref s0), (1, .ref q0)]) hx hb dX3_isSame_24 hl (by decide) rfl (fun ls hl => ?_)
  have loop26 : ∀ j : Nat, ∀ (d : Nat), d + j = n → ∀ ls : Array Slot, lv_has ls 11 [(0, .ref s0), (1, .ref q0), (2, .int (nI n)), (3, .int (nI (xCn (xSt n f) n d))), (4, .int (nI (xCn (xLv n f) n d))), (5, .int (nI (xDn (xRB n f) n d))), (6, .int (nI (xDn (xRH f) n d))), (7, .int (nI j - 1))] → W p l e ({ frames := 4, cells := 0, slots := 0, locals := 87 } : Room) s m args below meth c s.heap [] 0 0 Q (F0 m 26 ls []) := by
    intro j
    induction j with
    | zero =>
      intro d hj ls hl
      refine lv_iload hx hb dX3_isSame_26 (lv_at hl 7 rfl) ?_
      refine lv_if_lt (tgt := 181) hx hb dX3_isSame_28 (by decide) (fun _ => ?_) (fun c => absurd (by decide) c)
      refine lv_iconst (v := 0) hx hb dX3_isSame_181 (by decide) ?_
      refine lv_istore (lv' := [(7, .int 0), (0, .ref s0), (1, .ref q0), (2, .int (nI n)), (3, .int (nI (xCn (xSt n f) n d))), (4, .int (nI (xCn (xLv n f) n d))), (5, .int (nI (xDn (xRB n f) n d))), (6, .int (nI (xDn (xRH f) n d)))]) hx hb dX3_isSame_182 hl (by decide) rfl (fun ls hl => ?_)
      refine lv_iconst (v := 0) hx hb dX3_isSame_184 (by decide) ?_
      refine lv_istore (lv' := [(8, .int 0), (7, .int 0), (0, .ref s0), (1, .ref q0), (2, .int (nI n)), (3, .int (nI (xCn (xSt n f) n d))), (4, .int (nI (xCn (xLv n f) n d))), (5, .int (nI (xDn (xRB n f) n d))), (6, .int (nI (xDn (xRH f) n d)))]) hx hb dX3_isSame_185 hl (by decide) rfl (fun ls hl => ?_)
      have loop187 : ∀ j : Nat, ∀ (t : Nat), t + j = kc → ∀ ls : Array Slot, lv_has ls 11 [(0, .ref s0), (1, .ref q0), (2, .int (nI n)), (3, .int (nI (xCn (xSt n f) n d))), (4, .int (nI (xCn (xLv n f) n d))), (5, .int (nI (xDn (xRB n f) n d))), (6, .int (nI (xDn (xRH f) n d))), (7, .int (nI (xCnt (fun t9 => xCB n f (ks t9)) t))), (8, .int (nI t))] → W p l e ({ frames := 4, cells := 0, slots := 0, locals := 87 } : Room) s m args below meth c s.heap [] 0 0 Q (F0 m 187 ls []) := by
        intro j
        induction j with
        | zero =>
          intro t hj ls hl
          refine lv_iload hx hb dX3_isSame_187 (lv_at hl 8 rfl) ?_
          refine lv_aload_n hx hb dX3_isSame_189 rfl (lv_at hl 0 rfl) ?_
          refine va_get (D := γ.1) (ci := 3) (v := .ref tq) (C := RX3) (T := TX3) (N := 3) hx hb hts iwX3_isSame_3 hown hK hP 20 rfl rfl 1 (by decide) (hts _ flX3_isSame_14) (fun _ h9 => h9) rfl dX3_isSame_190 ?_
          refine va_alen (v := nI kc) hx hb hK hP 22 2 rfl rfl rfl dX3_isSame_193 ?_
          refine lv_icmp_ge (tgt := 329) hx hb dX3_isSame_194 (by decide) (fun _ => ?_) (fun c => absurd (nI_le (a := kc) (b := t) (by omega) (by omega)) c)
          refine lv_aload_n hx hb dX3_isSame_329 rfl (lv_at hl 1 rfl) ?_
          refine xVR (q0 := 0) (ci := 2) (As := []) (rest := []) (stk := [.int (nI n)]) ⟨hx, hb, hml, hown, hts⟩ (c_X2_places γ l q0 q1 q2 q3 q4 kc td a1 n f (by omega) (by omega)) (cwV 0 hts gX3_isSame_X2_places rfl rfl rfl hdv_X2_places ⟨(Nat.le_of_ble_eq_true rfl), (Nat.le_of_ble_eq_true rfl)⟩) hK hP [0, 1, 2] rfl rfl rfl rfl hl.1 rfl (Nat.le_of_ble_eq_true rfl) dX3_isSame_330 ⟨(by omega : _ ≤ 0), (by omega : _ ≤ 0)⟩ rfl ?_
          refine lv_iload_n hx hb dX3_isSame_333 rfl (lv_at hl 2 rfl) ?_
          refine lv_icmp_ne (tgt := 484) hx hb dX3_isSame_334 (by decide) (fun c => absurd (rfl) c) (fun _ => ?_)
          refine lv_aload_n hx hb dX3_isSame_337 rfl (lv_at hl 1 rfl) ?_
          refine xVR (q0 := 0) (ci := 2) (As := []) (rest := []) (stk := [.int (nI kc)]) ⟨hx, hb, hml, hown, hts⟩ (c_X2_targets γ l q0 q1 q2 q3 q4 kc td) (cwV 0 hts gX3_isSame_X2_targets rfl rfl rfl hdv_X2_targets ⟨(Nat.le_of_ble_eq_true rfl), (Nat.le_of_ble_eq_true rfl)⟩) hK hP [0] rfl rfl rfl rfl hl.1 rfl (Nat.le_of_ble_eq_true rfl) dX3_isSame_338 ⟨(by omega : _ ≤ 0), (by omega : _ ≤ 0)⟩ rfl ?_
          refine lv_aload_n hx hb dX3_isSame_341 rfl (lv_at hl 0 rfl) ?_
          refine va_get (D := γ.1) (ci := 3) (v := .ref tq) (C := RX3) (T := TX3) (N := 3) hx hb hts iwX3_isSame_3 hown hK hP 20 rfl rfl 1 (by decide) (hts _ flX3_isSame_14) (fun _ h9 => h9) rfl dX3_isSame_342 ?_
          refine va_alen (v := nI kc) hx hb hK hP 22 2 rfl rfl rfl dX3_isSame_345 ?_
          refine lv_icmp_ne (tgt := 484) hx hb dX3_isSame_346 (by decide) (fun c => absurd (rfl) c) (fun _ => ?_)
          refine lv_aload_n hx hb dX3_isSame_349 rfl (lv_at hl 1 rfl) ?_
          refine xVR (q0 := 0) (ci := 2) (As := []) (rest := []) (stk := [.int td]) ⟨hx, hb, hml, hown, hts⟩ (c_X2_tips γ l q0 q1 q2 q3 q4 kc td) (cwV 0 hts gX3_isSame_X2_tips rfl rfl rfl hdv_X2_tips ⟨(Nat.le_of_ble_eq_true rfl), (Nat.le_of_ble_eq_true rfl)⟩) hK hP [0] rfl rfl rfl rfl hl.1 rfl (Nat.le_of_ble_eq_true rfl) dX3_isSame_350 ⟨(by omega : _ ≤ 0), (by omega : _ ≤ 0)⟩ rfl ?_
          refine lv_aload_n hx hb dX3_isSame_353 rfl (lv_at hl 0 rfl) ?_
          refine va_get (D := γ.1) (ci := 3) (v := .int td) (C := RX3) (T := TX3) (N := 3) hx hb hts iwX3_isSame_3 hown hK hP 20 rfl rfl 2 (by decide) (hts _ flX3_isSame_64) (fun _ h9 => h9) rfl dX3_isSame_354 ?_
          refine lv_icmp_ne (tgt := 484) hx hb dX3_isSame_357 (by decide) (fun c => absurd (rfl) c) (fun _ => ?_)
          refine lv_aload_n hx hb dX3_isSame_360 rfl (lv_at hl 1 rfl) ?_
          refine xVR (q0 := 0) (ci := 2) (As := []) (rest := []) (stk := [.int (xTot f n)]) ⟨hx, hb, hml, hown, hts⟩ (c_X2_sum γ l q0 q1 q2 q3 q4 kc td a1 n f (by omega) (by omega)) (cwV 0 hts gX3_isSame_X2_sum rfl rfl rfl hdv_X2_sum ⟨(Nat.le_of_ble_eq_true rfl), (Nat.le_of_ble_eq_true rfl)⟩) hK hP [0, 1, 2] rfl rfl rfl rfl hl.1 rfl (Nat.le_of_ble_eq_true rfl) dX3_isSame_361 ⟨(by omega : _ ≤ 0), (by omega : _ ≤ 0)⟩ rfl ?_
          refine lv_aload_n hx hb dX3_isSame_364 rfl (lv_at hl 0 rfl) ?_
          refine va_get (D := γ.1) (ci := 3) (v := .ref r) (C := RX3) (T := TX3) (N := 3) hx hb hts iwX3_isSame_3 hown hK hP 20 rfl rfl 0 (by decide) (hts _ flX3_isSame_7) (fun _ h9 => h9) rfl dX3_isSame_365 ?_
          refine xSR (As := [.ref r]) (rest := [.int (xTot f n)]) (stk := [.int (xTot f n), .int (xTot f n)]) ⟨hx, hb, hml, hown, hts⟩ (c_X3_sum γ l r n f (by omega) (by omega)) (va_cwS 1 hts gX3_isSame_X3_sum rfl rfl rfl hds_X3_sum ⟨(Nat.le_of_ble_eq_true rfl), (Nat.le_of_ble_eq_true rfl)⟩) hK hP [21] rfl  rfl hl.1 rfl (Nat.le_of_ble_eq_true rfl) dX3_isSame_368 ⟨(by omega : _ ≤ 0), (by omega : _ ≤ 0)⟩ rfl ?_
          refine lv_icmp_ne (tgt := 484) hx hb dX3_isSame_371 (by decide) (fun c => absurd (rfl) c) (fun _ => ?_)
          refine lv_aload_n hx hb dX3_isSame_374 rfl (lv_at hl 1 rfl) ?_
          refine xVR (q0 := 0) (ci := 2) (As := []) (rest := []) (stk := [.int (xMm n f)]) ⟨hx, hb, hml, hown, hts⟩ (c_X2_moment γ l q0 q1 q2 q3 q4 kc td a1 n f (by omega) (by omega)) (cwV 0 hts gX3_isSame_X2_moment rfl rfl rfl hdv_X2_moment ⟨(Nat.le_of_ble_eq_true rfl), (Nat.le_of_ble_eq_true rfl)⟩) hK hP [0, 1, 2] rfl rfl rfl rfl hl.1 rfl (Nat.le_of_ble_eq_true rfl) dX3_isSame_375 ⟨(by omega : _ ≤ 0), (by omega : _ ≤ 0)⟩ rfl ?_
          refine lv_aload_n hx hb dX3_isSame_378 rfl (lv_at hl 0 rfl) ?_
          refine va_get (D := γ.1) (ci := 3) (v := .ref r) (C := RX3) (T := TX3) (N := 3) hx hb hts iwX3_isSame_3 hown hK hP 20 rfl rfl 0 (by decide) (hts _ flX3_isSame_7) (fun _ h9 => h9) rfl dX3_isSame_379 ?_
          refine xSR (As := [.ref r]) (rest := [.int (xMm n f)]) (stk := [.int (xMm n f), .int (xMm n f)]) ⟨hx, hb, hml, hown, hts⟩ (c_X3_moment γ l r n f (by omega) (by omega)) (va_cwS 1 hts gX3_isSame_X3_moment rfl rfl rfl hds_X3_moment ⟨(Nat.le_of_ble_eq_true rfl), (Nat.le_of_ble_eq_true rfl)⟩) hK hP [21] rfl  rfl hl.1 rfl (Nat.le_of_ble_eq_true rfl) dX3_isSame_382 ⟨(by omega : _ ≤ 0), (by omega : _ ≤ 0)⟩ rfl ?_
          refine lv_icmp_ne (tgt := 484) hx hb dX3_isSame_385 (by decide) (fun c => absurd (rfl) c) (fun _ => ?_)
          refine lv_aload_n hx hb dX3_isSame_388 rfl (lv_at hl 1 rfl) ?_
          refine xVR (q0 := 0) (ci := 2) (As := []) (rest := []) (stk := [.int (xSpn n f)]) ⟨hx, hb, hml, hown, hts⟩ (c_X2_spread γ l q0 q1 q2 q3 q4 kc td a1 n f (by omega) (by omega)) (cwV 0 hts gX3_isSame_X2_spread rfl rfl rfl hdv_X2_spread ⟨(Nat.le_of_ble_eq_true rfl), (Nat.le_of_ble_eq_true rfl)⟩) hK hP [0, 1, 2] rfl rfl rfl rfl hl.1 rfl (Nat.le_of_ble_eq_true rfl) dX3_isSame_389 ⟨(by omega : _ ≤ 0), (by omega : _ ≤ 0)⟩ rfl ?_
          refine lv_aload_n hx hb dX3_isSame_392 rfl (lv_at hl 0 rfl) ?_
          refine va_get (D := γ.1) (ci := 3) (v := .ref r) (C := RX3) (T := TX3) (N := 3) hx hb hts iwX3_isSame_3 hown hK hP 20 rfl rfl 0 (by decide) (hts _ flX3_isSame_7) (fun _ h9 => h9) rfl dX3_isSame_393 ?_
          refine xSR (As := [.ref r]) (rest := [.int (xSpn n f)]) (stk := [.int (xSpn n f), .int (xSpn n f)]) ⟨hx, hb, hml, hown, hts⟩ (c_X3_spread γ l r n f (by omega) (by omega)) (va_cwS 1 hts gX3_isSame_X3_spread rfl rfl rfl hds_X3_spread ⟨(Nat.le_of_ble_eq_true rfl), (Nat.le_of_ble_eq_true rfl)⟩) hK hP [21] rfl  rfl hl.1 rfl (Nat.le_of_ble_eq_true rfl) dX3_isSame_396 ⟨(by omega : _ ≤ 0), (by omega : _ ≤ 0)⟩ rfl ?_
          refine lv_icmp_ne (tgt := 484) hx hb dX3_isSame_399 (by decide) (fun c => absurd (rfl) c) (fun _ => ?_)
          refine lv_aload_n hx hb dX3_isSame_402 rfl (lv_at hl 1 rfl) ?_
          refine xVR (q0 := 0) (ci := 2) (As := []) (rest := []) (stk := [.int (nI (xTopI f (n - 1)))]) ⟨hx, hb, hml, hown, hts⟩ (c_X2_highest γ l q0 q1 q2 q3 q4 kc td a1 n f (by omega) (by omega)) (cwV 0 hts gX3_isSame_X2_highest rfl rfl rfl hdv_X2_highest ⟨(Nat.le_of_ble_eq_true rfl), (Nat.le_of_ble_eq_true rfl)⟩) hK hP [0, 1, 2] rfl rfl rfl rfl hl.1 rfl (Nat.le_of_ble_eq_true rfl) dX3_isSame_403 ⟨(by omega : _ ≤ 0), (by omega : _ ≤ 0)⟩ rfl ?_
          refine lv_iload hx hb dX3_isSame_406 (lv_at hl 6 rfl) ?_
          refine lv_icmp_ne (tgt := 484) hx hb dX3_isSame_408 (by decide) (fun c => absurd (by rw [show d = n by omega, xHigh_dn hn0]) c) (fun _ => ?_)
          refine lv_aload_n hx hb dX3_isSame_411 rfl (lv_at hl 1 rfl) ?_
          refine xVR (q0 := 0) (ci := 2) (As := []) (rest := []) (stk := [.int (nI (xCnt (xSt n f) n))]) ⟨hx, hb, hml, hown, hts⟩ (c_X2_steepPlaces γ l q0 q1 q2 q3 q4 kc td a1 n f (by omega) (by omega)) (cwV 0 hts gX3_isSame_X2_steepPlaces rfl rfl rfl hdv_X2_steepPlaces ⟨(Nat.le_of_ble_eq_true rfl), (Nat.le_of_ble_eq_true rfl)⟩) hK hP [0, 1, 2] rfl rfl rfl rfl hl.1 rfl (Nat.le_of_ble_eq_true rfl) dX3_isSame_412 ⟨(by omega : _ ≤ 0), (by omega : _ ≤ 0)⟩ rfl ?_
          refine lv_iload_n hx hb dX3_isSame_415 rfl (lv_at hl 3 rfl) ?_
          refine lv_icmp_ne (tgt := 484) hx hb dX3_isSame_416 (by decide) (fun c => absurd (by rw [show d = n by omega, xCn_all]) c) (fun _ => ?_)
          refine lv_aload_n hx hb dX3_isSame_419 rfl (lv_at hl 1 rfl) ?_
          refine xVR (q0 := 0) (ci := 2) (As := []) (rest := []) (stk := [.int (xFi (xSt n f) n)]) ⟨hx, hb, hml, hown, hts⟩ (c_X2_nextToTip γ l q0 q1 q2 q3 q4 kc td a1 n f (by omega) (by omega)) (cwV 0 hts gX3_isSame_X2_nextToTip rfl rfl rfl hdv_X2_nextToTip ⟨(Nat.le_of_ble_eq_true rfl), (Nat.le_of_ble_eq_true rfl)⟩) hK hP [0, 1, 2] rfl rfl rfl rfl hl.1 rfl (Nat.le_of_ble_eq_true rfl) dX3_isSame_420 ⟨(by omega : _ ≤ 0), (by omega : _ ≤ 0)⟩ rfl ?_
          refine lv_aload_n hx hb dX3_isSame_423 rfl (lv_at hl 0 rfl) ?_
          refine lv_aload_n hx hb dX3_isSame_424 rfl (lv_at hl 0 rfl) ?_
          refine va_get (D := γ.1) (ci := 3) (v := .ref r) (C := RX3) (T := TX3) (N := 3) hx hb hts iwX3_isSame_3 hown hK hP 20 rfl rfl 0 (by decide) (hts _ flX3_isSame_7) (fun _ h9 => h9) rfl dX3_isSame_425 ?_
          refine xVR (q0 := 20) (ci := 3) (As := [.ref r]) (rest := [.int (xFi (xSt n f) n)]) (stk := [.int (xFi (xSt n f) n), .int (xFi (xSt n f) n)]) ⟨hx, hb, hml, hown, hts⟩ (c_X3_steep γ l s0 r tq td r n f (by omega) (by omega)) (cwV 1 hts gX3_isSame_X3_steep rfl rfl rfl hdv_X3_steep ⟨(Nat.le_of_ble_eq_true rfl), (Nat.le_of_ble_eq_true rfl)⟩) hK hP [20, 21] rfl rfl rfl rfl hl.1 rfl (Nat.le_of_ble_eq_true rfl) dX3_isSame_428 ⟨(by omega : _ ≤ 0), (by omega : _ ≤ 0)⟩ rfl ?_
          refine lv_icmp_ne (tgt := 484) hx hb dX3_isSame_431 (by decide) (fun c => absurd (rfl) c) (fun _ => ?_)
          refine lv_aload_n hx hb dX3_isSame_434 rfl (lv_at hl 1 rfl) ?_
          refine xVR (q0 := 0) (ci := 2) (As := []) (rest := []) (stk := [.int (nI (xCnt (xLv n f) n))]) ⟨hx, hb, hml, hown, hts⟩ (c_X2_levelAxes γ l q0 q1 q2 q3 q4 kc td a1 n f (by omega) (by omega)) (cwV 0 hts gX3_isSame_X2_levelAxes rfl rfl rfl hdv_X2_levelAxes ⟨(Nat.le_of_ble_eq_true rfl), (Nat.le_of_ble_eq_true rfl)⟩) hK hP [0, 1, 2] rfl rfl rfl rfl hl.1 rfl (Nat.le_of_ble_eq_true rfl) dX3_isSame_435 ⟨(by omega : _ ≤ 0), (by omega : _ ≤ 0)⟩ rfl ?_
          refine lv_iload hx hb dX3_isSame_438 (lv_at hl 4 rfl) ?_
          refine lv_icmp_ne (tgt := 484) hx hb dX3_isSame_440 (by decide) (fun c => absurd (by rw [show d = n by omega, xCn_all]) c) (fun _ => ?_)
          refine lv_aload_n hx hb dX3_isSame_443 rfl (lv_at hl 1 rfl) ?_
          refine xVR (q0 := 0) (ci := 2) (As := []) (rest := []) (stk := [.int (nI (xBa (xTlt n f) (n - 1)))]) ⟨hx, hb, hml, hown, hts⟩ (c_X2_bestAxis γ l q0 q1 q2 q3 q4 kc td a1 n f (by omega) (by omega)) (cwV 0 hts gX3_isSame_X2_bestAxis rfl rfl rfl hdv_X2_bestAxis ⟨(Nat.le_of_ble_eq_true rfl), (Nat.le_of_ble_eq_true rfl)⟩) hK hP [0, 1, 2] rfl rfl rfl rfl hl.1 rfl (Nat.le_of_ble_eq_true rfl) dX3_isSame_444 ⟨(by omega : _ ≤ 0), (by omega : _ ≤ 0)⟩ rfl ?_
          refine lv_iload hx hb dX3_isSame_447 (lv_at hl 5 rfl) ?_
          refine lv_icmp_ne (tgt := 484) hx hb dX3_isSame_449 (by decide) (fun c => absurd (by rw [show d = n by omega, xBest_dn hn0]) c) (fun _ => ?_)
          refine lv_aload_n hx hb dX3_isSame_452 rfl (lv_at hl 1 rfl) ?_
          refine xVR (q0 := 0) (ci := 2) (As := []) (rest := []) (stk := [.int (nI (xCnt (fun t9 => xCB n f (ks t9)) kc))]) ⟨hx, hb, hml, hown, hts⟩ (c_X2_reachable γ l q0 q1 q2 q3 q4 kc td a1 n f kq ka kn ks (by omega) (by omega) (by omega) hkn) (cwV 0 hts gX3_isSame_X2_reachable rfl rfl rfl hdv_X2_reachable ⟨(Nat.le_of_ble_eq_true rfl), (Nat.le_of_ble_eq_true rfl)⟩) hK hP ([0, 1, 2, 7] ++ List.range' 8 12) (xsuf_R2 (base := [xO q0 2 [.ref q1, .ref q4, .int (nI kc), .int td, .ref q2, .ref q3], xO q1 0 [.ref a1, .int (nI n)], xA γ a1 12 f, xO q2 0 [.ref a2, .int tn], xA γ a2 12 tf, xO q3 1 [.ref a3, .int wn], xA γ a3 12 wf, xQ γ q4 6 (fun t9 => some (kq t9))]) rfl rfl rfl (by decide)) rfl rfl rfl hl.1 rfl (Nat.le_of_ble_eq_true rfl) dX3_isSame_453 ⟨(by omega : _ ≤ 0), (by omega : _ ≤ 0)⟩ rfl ?_
          refine lv_iload hx hb dX3_isSame_456 (lv_at hl 7 rfl) ?_
          refine lv_icmp_ne (tgt := 484) hx hb dX3_isSame_458 (by decide) (fun c => absurd (by rw [show t = kc by omega]) c) (fun _ => ?_)
          refine lv_aload_n hx hb dX3_isSame_461 rfl (lv_at hl 1 rfl) ?_
          refine xVMD (d0 := s.drawn) (q0 := 0) (ci := 2) (As := []) (rest := []) (Drawn.sameBut.refl s.drawn lw_cs) ⟨hx, hb, hml, hown, hts⟩ (c_X2_meanNumber γ l q0 q1 q2 q3 q4 kc td a1 n f hn0 hn1) (cwV 0 hts gX3_isSame_X2_meanNumber rfl rfl rfl hdv_X2_meanNumber ⟨(Nat.le_of_ble_eq_true rfl), (Nat.le_of_ble_eq_true rfl)⟩) hK hP hD hS hA [0, 1, 2] rfl rfl rfl rfl rfl hl.1 rfl (Nat.le_of_ble_eq_true rfl) dX3_isSame_462 ⟨(by omega : _ ≤ 0), (by omega : _ ≤ 0)⟩ (fun r9 w9 H locs hw hP hD hS d1 hd1 => ?_)
          obtain ⟨d9, rfl, hal, rfl⟩ := hw
          have hP : xP γ (([xO q0 2 [.ref q1, .ref q4, .int (nI kc), .int td, .ref q2, .ref q3], xO q1 0 [.ref a1, .int (nI n)], xA γ a1 12 f, xO q2 0 [.ref a2, .int tn], xA γ a2 12 tf, xO q3 1 [.ref a3, .int wn], xA γ a3 12 wf, xQ γ q4 6 (fun t9 => some (kq t9))] ++ xKp γ kq ka kn ks) ++ ([xO s0 3 [.ref r, .ref tq, .int td], xA γ r n f, xT γ tq kc (fun t9 => some (ta t9))] ++ xTs γ ta n ks kc)) H := hP
          have hD : va_D A (([xO q0 2 [.ref q1, .ref q4, .int (nI kc), .int td, .ref q2, .ref q3], xO q1 0 [.ref a1, .int (nI n)], xA γ a1 12 f, xO q2 0 [.ref a2, .int tn], xA γ a2 12 tf, xO q3 1 [.ref a3, .int wn], xA γ a3 12 wf, xQ γ q4 6 (fun t9 => some (kq t9))] ++ xKp γ kq ka kn ks) ++ ([xO s0 3 [.ref r, .ref tq, .int td], xA γ r n f, xT γ tq kc (fun t9 => some (ta t9))] ++ xTs γ ta n ks kc)) := hD
          have hts := dr_words hts d1
          have hK : xK γ (s.setDrawn d1) := va_K.moved (u := s) (U := s.setDrawn d1) (Vm.Alike.refl s.vm) hK
          refine W.eq (g2 := F0 m 465 ls [.double d9]) rfl ?_
          refine lv_aload_n hx hb dX3_isSame_465 rfl (lv_at hl 0 rfl) ?_
          refine va_get (D := γ.1) (ci := 3) (v := .ref r) (C := RX3) (T := TX3) (N := 3) hx hb hts iwX3_isSame_3 hown hK hP 20 rfl rfl 0 (by decide) (hts _ flX3_isSame_7) (fun _ h9 => h9) rfl dX3_isSame_466 ?_
          refine xSR (As := [.ref r]) (rest := [.double d9]) (stk := [.int (xTot f n), .double d9]) ⟨hx, hb, hml, hown, hts⟩ (c_X3_sum γ l r n f (by omega) (by omega)) (va_cwS 1 hts gX3_isSame_X3_sum rfl rfl rfl hds_X3_sum ⟨(Nat.le_of_ble_eq_true rfl), (Nat.le_of_ble_eq_true rfl)⟩) hK hP [21] rfl  rfl hl.1 rfl (Nat.le_of_ble_eq_true rfl) dX3_isSame_469 ⟨(by omega : _ ≤ 0), (by omega : _ ≤ 0)⟩ rfl ?_
          refine lv_i2d hx hb dX3_isSame_472 ?_
          refine lv_iload_n hx hb dX3_isSame_473 rfl (lv_at hl 2 rfl) ?_
          refine lv_i2d hx hb dX3_isSame_474 ?_
          refine lv_ddiv_any hd1 lw_bits hx hb dX3_isSame_475 (fun rr d2 hal2 hd2 => ?_)
          refine lv_dcmp hx hb dX3_isSame_476 ?_
          refine x_top (y := 0) (fMean hn0 hn1 hal hal2) ?_
          refine lv_if_ne (tgt := 484) hx hb dX3_isSame_477 (by decide) (fun c => absurd (rfl) c) (fun _ => ?_)
          refine lv_iconst (v := 1) hx hb dX3_isSame_480 (by decide) ?_
          refine lv_goto (tgt := 485) hx hb dX3_isSame_481 (by decide) ?_
          subst hQ
          refine W.endD hd2 ?_
          exact xG_z hx hb hr hlocks dX3_isSame_485 (Or.inr rfl) hP hD hS (by omega : _ ≤ 0) (by omega : _ ≤ 0) rfl
        | succ j ih187 =>
          intro t hj ls hl
          refine lv_iload hx hb dX3_isSame_187 (lv_at hl 8 rfl) ?_
          refine lv_aload_n hx hb dX3_isSame_189 rfl (lv_at hl 0 rfl) ?_
          refine va_get (D := γ.1) (ci := 3) (v := .ref tq) (C := RX3) (T := TX3) (N := 3) hx hb hts iwX3_isSame_3 hown hK hP 20 rfl rfl 1 (by decide) (hts _ flX3_isSame_14) (fun _ h9 => h9) rfl dX3_isSame_190 ?_
          refine va_alen (v := nI kc) hx hb hK hP 22 2 rfl rfl rfl dX3_isSame_193 ?_
          refine lv_icmp_ge (tgt := 329) hx hb dX3_isSame_194 (by decide) (fun c => absurd c (nI_ge (a := t) (b := kc) (by omega) (by omega))) (fun _ => ?_)
          refine lv_iconst (v := 0) hx hb dX3_isSame_197 (by decide) ?_
          refine lv_istore (lv' := [(9, .int 0), (0, .ref s0), (1, .ref q0), (2, .int (nI n)), (3, .int (nI (xCn (xSt n f) n d))), (4, .int (nI (xCn (xLv n f) n d))), (5, .int (nI (xDn (xRB n f) n d))), (6, .int (nI (xDn (xRH f) n d))), (7, .int (nI (xCnt (fun t9 => xCB n f (ks t9)) t))), (8, .int (nI t))]) hx hb dX3_isSame_198 hl (by decide) rfl (fun ls hl => ?_)
          refine lv_iconst (v := 0) hx hb dX3_isSame_200 (by decide) ?_
          refine lv_istore (lv' := [(10, .int 0), (9, .int 0), (0, .ref s0), (1, .ref q0), (2, .int (nI n)), (3, .int (nI (xCn (xSt n f) n d))), (4, .int (nI (xCn (xLv n f) n d))), (5, .int (nI (xDn (xRB n f) n d))), (6, .int (nI (xDn (xRH f) n d))), (7, .int (nI (xCnt (fun t9 => xCB n f (ks t9)) t))), (8, .int (nI t))]) hx hb dX3_isSame_201 hl (by decide) rfl (fun ls hl => ?_)
          have loop203 : ∀ j : Nat, ∀ (k9 : Nat), k9 + j = n → ∀ ls : Array Slot, lv_has ls 11 [(0, .ref s0), (1, .ref q0), (2, .int (nI n)), (3, .int (nI (xCn (xSt n f) n d))), (4, .int (nI (xCn (xLv n f) n d))), (5, .int (nI (xDn (xRB n f) n d))), (6, .int (nI (xDn (xRH f) n d))), (7, .int (nI (xCnt (fun t9 => xCB n f (ks t9)) t))), (8, .int (nI t)), (9, .int (nI (xCnt (xNe f (ks t)) k9))), (10, .int (nI k9))] → W p l e ({ frames := 4, cells := 0, slots := 0, locals := 87 } : Room) s m args below meth c s.heap [] 0 0 Q (F0 m 203 ls []) := by
            intro j
            induction j with
            | zero =>
              intro k9 hj ls hl
              refine lv_iload hx hb dX3_isSame_203 (lv_at hl 10 rfl) ?_
              refine lv_iload_n hx hb dX3_isSame_205 rfl (lv_at hl 2 rfl) ?_
              refine lv_icmp_ge (tgt := 268) hx hb dX3_isSame_206 (by decide) (fun _ => ?_) (fun c => absurd (nI_le (a := n) (b := k9) (by omega) (by omega)) c)
              refine lv_iload hx hb dX3_isSame_268 (lv_at hl 7 rfl) ?_
              refine lv_aload_n hx hb dX3_isSame_270 rfl (lv_at hl 0 rfl) ?_
              refine lv_aload_n hx hb dX3_isSame_271 rfl (lv_at hl 0 rfl) ?_
              refine va_get (D := γ.1) (ci := 3) (v := .ref r) (C := RX3) (T := TX3) (N := 3) hx hb hts iwX3_isSame_3 hown hK hP 20 rfl rfl 0 (by decide) (hts _ flX3_isSame_7) (fun _ h9 => h9) rfl dX3_isSame_272 ?_
              refine lv_iload hx hb dX3_isSame_275 (lv_at hl 8 rfl) ?_
              refine xVR (q0 := 20) (ci := 3) (As := [.ref r, .int (nI t)]) (rest := [.int (nI (xCnt (fun t9 => xCB n f (ks t9)) t))]) (stk := [.int (if xCB n f (ks t) = true then 1 else 0), .int (nI (xCnt (fun t9 => xCB n f (ks t9)) t))]) ⟨hx, hb, hml, hown, hts⟩ (c_X3_can γ l s0 r tq td r n f ta kc t (ks t) (by omega) (by omega) (by omega) (by omega)) (cwV 2 hts gX3_isSame_X3_can rfl rfl rfl hdv_X3_can ⟨(Nat.le_of_ble_eq_true rfl), (Nat.le_of_ble_eq_true rfl)⟩) hK hP [23 + t, 20, 22, 21] (xisC (xTs_r2 (C := [xO q0 2 [.ref q1, .ref q4, .int (nI kc), .int td, .ref q2, .ref q3], xO q1 0 [.ref a1, .int (nI n)], xA γ a1 12 f, xO q2 0 [.ref a2, .int tn], xA γ a2 12 tf, xO q3 1 [.ref a3, .int wn], xA γ a3 12 wf, xQ γ q4 6 (fun t9 => some (kq t9))] ++ xKp γ kq ka kn ks) (base := [xO s0 3 [.ref r, .ref tq, .int td], xA γ r n f, xT γ tq kc (fun t9 => some (ta t9))]) (nc := 20) (nb := 23) (t := t) rfl rfl (by omega)) (xisC rfl (xisC rfl (xisC rfl xisN)))) rfl rfl rfl hl.1 rfl (Nat.le_of_ble_eq_true rfl) dX3_isSame_277 ⟨(by omega : _ ≤ 0), (by omega : _ ≤ 0)⟩ rfl ?_
              have J288 : W p l e ({ frames := 4, cells := 0, slots := 0, locals := 87 } : Room) s m args below meth c s.heap [] 0 0 Q (F0 m 288 ls [.int (if xCB n f (ks t) = true then 1 else 0), .int (nI (xCnt (fun t9 => xCB n f (ks t9)) t))]) := by
                skip
                refine lv_iadd hx hb dX3_isSame_288 ?_
                refine x_top (y := nI (xCnt (fun t9 => xCB n f (ks t9)) (t + 1))) (xCnt_s (P := (fun t9 => xCB n f (ks t9)))) ?_
                refine lv_istore (lv' := [(7, .int (nI (xCnt (fun t9 => xCB n f (ks t9)) (t + 1)))), (0, .ref s0), (1, .ref q0), (2, .int (nI n)), (3, .int (nI (xCn (xSt n f) n d))), (4, .int (nI (xCn (xLv n f) n d))), (5, .int (nI (xDn (xRB n f) n d))), (6, .int (nI (xDn (xRH f) n d))), (8, .int (nI t)), (9, .int (nI (xCnt (xNe f (ks t)) k9))), (10, .int (nI k9))]) hx hb dX3_isSame_289 hl (by decide) rfl (fun ls hl => ?_)
                refine lv_aload_n hx hb dX3_isSame_291 rfl (lv_at hl 2 rfl) ?_
                refine lv_iload hx hb dX3_isSame_292 (lv_at hl 8 rfl) ?_
                refine xVR (q0 := 0) (ci := 2) (As := [.int (nI t)]) (rest := []) (stk := [.int (nI (xCnt (xNe f (ks t)) n))]) ⟨hx, hb, hml, hown, hts⟩ (c_X2_differences γ l q0 q1 q2 q3 q4 kc td a1 n f kq ka kn ks t (by omega) (by omega) (by omega) (by omega)) (cwV 1 hts gX3_isSame_X2_differences rfl rfl rfl hdv_X2_differences ⟨(Nat.le_of_ble_eq_true rfl), (Nat.le_of_ble_eq_true rfl)⟩) hK hP [0, 1, 2, 7, 8 + 2 * t, 8 + 2 * t + 1] (xisC rfl (xisC rfl (xisC rfl (xisC rfl (xisC (xKp_o2 (base := [xO q0 2 [.ref q1, .ref q4, .int (nI kc), .int td, .ref q2, .ref q3], xO q1 0 [.ref a1, .int (nI n)], xA γ a1 12 f, xO q2 0 [.ref a2, .int tn], xA γ a2 12 tf, xO q3 1 [.ref a3, .int wn], xA γ a3 12 wf, xQ γ q4 6 (fun t9 => some (kq t9))]) (ks := ks) (nb := 8) (t := t) (R9 := [xO s0 3 [.ref r, .ref tq, .int td], xA γ r n f, xT γ tq kc (fun t9 => some (ta t9))] ++ xTs γ ta n ks kc) rfl (by omega) (hkn t (by omega))) (xisC (xKp_r2 (base := [xO q0 2 [.ref q1, .ref q4, .int (nI kc), .int td, .ref q2, .ref q3], xO q1 0 [.ref a1, .int (nI n)], xA γ a1 12 f, xO q2 0 [.ref a2, .int tn], xA γ a2 12 tf, xO q3 1 [.ref a3, .int wn], xA γ a3 12 wf, xQ γ q4 6 (fun t9 => some (kq t9))]) (kn := kn) (ks := ks) (nb := 8) (t := t) (R9 := [xO s0 3 [.ref r, .ref tq, .int td], xA γ r n f, xT γ tq kc (fun t9 => some (ta t9))] ++ xTs γ ta n ks kc) rfl (by omega)) xisN)))))) rfl rfl rfl hl.1 rfl (Nat.le_of_ble_eq_true rfl) dX3_isSame_294 ⟨(by omega : _ ≤ 0), (by omega : _ ≤ 0)⟩ rfl ?_
                refine lv_iload hx hb dX3_isSame_297 (lv_at hl 9 rfl) ?_
                refine lv_icmp_ne (tgt := 321) hx hb dX3_isSame_299 (by decide) (fun c => absurd (by rw [show k9 = n by omega]) c) (fun _ => ?_)
                refine lv_aload_n hx hb dX3_isSame_302 rfl (lv_at hl 2 rfl) ?_
                refine lv_iload hx hb dX3_isSame_303 (lv_at hl 8 rfl) ?_
                refine xVR (q0 := 0) (ci := 2) (As := [.int (nI t)]) (rest := []) (stk := [.int (if xCB n f (ks t) = true then 1 else 0)]) ⟨hx, hb, hml, hown, hts⟩ (c_X2_canReach γ l q0 q1 q2 q3 q4 kc td a1 n f kq ka kn ks t (by omega) (by omega) (by omega) (by omega)) (cwV 1 hts gX3_isSame_X2_canReach rfl rfl rfl hdv_X2_canReach ⟨(Nat.le_of_ble_eq_true rfl), (Nat.le_of_ble_eq_true rfl)⟩) hK hP [0, 1, 2, 7, 8 + 2 * t, 8 + 2 * t + 1] (xisC rfl (xisC rfl (xisC rfl (xisC rfl (xisC (xKp_o2 (base := [xO q0 2 [.ref q1, .ref q4, .int (nI kc), .int td, .ref q2, .ref q3], xO q1 0 [.ref a1, .int (nI n)], xA γ a1 12 f, xO q2 0 [.ref a2, .int tn], xA γ a2 12 tf, xO q3 1 [.ref a3, .int wn], xA γ a3 12 wf, xQ γ q4 6 (fun t9 => some (kq t9))]) (ks := ks) (nb := 8) (t := t) (R9 := [xO s0 3 [.ref r, .ref tq, .int td], xA γ r n f, xT γ tq kc (fun t9 => some (ta t9))] ++ xTs γ ta n ks kc) rfl (by omega) (hkn t (by omega))) (xisC (xKp_r2 (base := [xO q0 2 [.ref q1, .ref q4, .int (nI kc), .int td, .ref q2, .ref q3], xO q1 0 [.ref a1, .int (nI n)], xA γ a1 12 f, xO q2 0 [.ref a2, .int tn], xA γ a2 12 tf, xO q3 1 [.ref a3, .int wn], xA γ a3 12 wf, xQ γ q4 6 (fun t9 => some (kq t9))]) (kn := kn) (ks := ks) (nb := 8) (t := t) (R9 := [xO s0 3 [.ref r, .ref tq, .int td], xA γ r n f, xT γ tq kc (fun t9 => some (ta t9))] ++ xTs γ ta n ks kc) rfl (by omega)) xisN)))))) rfl rfl rfl hl.1 rfl (Nat.le_of_ble_eq_true rfl) dX3_isSame_305 ⟨(by omega : _ ≤ 0), (by omega : _ ≤ 0)⟩ rfl ?_
                refine lv_aload_n hx hb dX3_isSame_308 rfl (lv_at hl 1 rfl) ?_
                refine lv_aload_n hx hb dX3_isSame_309 rfl (lv_at hl 1 rfl) ?_
                refine va_get (D := γ.1) (ci := 3) (v := .ref r) (C := RX3) (T := TX3) (N := 3) hx hb hts iwX3_isSame_3 hown hK hP 20 rfl rfl 0 (by decide) (hts _ flX3_isSame_7) (fun _ h9 => h9) rfl dX3_isSame_310 ?_
                refine lv_iload hx hb dX3_isSame_313 (lv_at hl 8 rfl) ?_
                refine xVR (q0 := 20) (ci := 3) (As := [.ref r, .int (nI t)]) (rest := [.int (if xCB n f (ks t) = true then 1 else 0)]) (stk := [.int (if xCB n f (ks t) = true then 1 else 0), .int (if xCB n f (ks t) = true then 1 else 0)]) ⟨hx, hb, hml, hown, hts⟩ (c_X3_can γ l s0 r tq td r n f ta kc t (ks t) (by omega) (by omega) (by omega) (by omega)) (cwV 2 hts gX3_isSame_X3_can rfl rfl rfl hdv_X3_can ⟨(Nat.le_of_ble_eq_true rfl), (Nat.le_of_ble_eq_true rfl)⟩) hK hP [23 + t, 20, 22, 21] (xisC (xTs_r2 (C := [xO q0 2 [.ref q1, .ref q4, .int (nI kc), .int td, .ref q2, .ref q3], xO q1 0 [.ref a1, .int (nI n)], xA γ a1 12 f, xO q2 0 [.ref a2, .int tn], xA γ a2 12 tf, xO q3 1 [.ref a3, .int wn], xA γ a3 12 wf, xQ γ q4 6 (fun t9 => some (kq t9))] ++ xKp γ kq ka kn ks) (base := [xO s0 3 [.ref r, .ref tq, .int td], xA γ r n f, xT γ tq kc (fun t9 => some (ta t9))]) (nc := 20) (nb := 23) (t := t) rfl rfl (by omega)) (xisC rfl (xisC rfl (xisC rfl xisN)))) rfl rfl rfl hl.1 rfl (Nat.le_of_ble_eq_true rfl) dX3_isSame_315 ⟨(by omega : _ ≤ 0), (by omega : _ ≤ 0)⟩ rfl ?_
                refine lv_icmp_eq (tgt := 323) hx hb dX3_isSame_318 (by decide) (fun _ => ?_) (fun c => absurd (rfl) c)
                refine lv_iinc (v := nI (t + 1)) (lv' := [(8, .int (nI (t + 1))), (7, .int (nI (xCnt (fun t9 => xCB n f (ks t9)) (t + 1)))), (0, .ref s0), (1, .ref q0), (2, .int (nI n)), (3, .int (nI (xCn (xSt n f) n d))), (4, .int (nI (xCn (xLv n f) n d))), (5, .int (nI (xDn (xRB n f) n d))), (6, .int (nI (xDn (xRH f) n d))), (9, .int (nI (xCnt (xNe f (ks t)) k9))), (10, .int (nI k9))]) hx hb dX3_isSame_323 hl (k := 8) rfl (nI_add t 1) (by decide) rfl (fun ls hl => ?_)
                refine lv_goto (tgt := 187) hx hb dX3_isSame_326 (by decide) ?_
                exact ih187 (t + 1) (by omega) ls (lv_sub hl [2, 3, 4, 5, 6, 7, 8, 1, 0] rfl)
              refine lv_if_eq (tgt := 287) hx hb dX3_isSame_280 (by decide) (fun c280 => ?_) (fun c280 => ?_)
              · refine lv_iconst (v := 0) hx hb dX3_isSame_287 (by decide) ?_
                exact x_top (y := if xCB n f (ks t) = true then 1 else 0) (c280.symm) J288
              · refine lv_iconst (v := 1) hx hb dX3_isSame_283 (by decide) ?_
                refine lv_goto (tgt := 288) hx hb dX3_isSame_284 (by decide) ?_
                exact x_top (y := if xCB n f (ks t) = true then 1 else 0) (xB_1 (xB_t c280)) J288
            | succ j ih203 =>
              intro k9 hj ls hl
              refine lv_iload hx hb dX3_isSame_203 (lv_at hl 10 rfl) ?_
              refine lv_iload_n hx hb dX3_isSame_205 rfl (lv_at hl 2 rfl) ?_
              refine lv_icmp_ge (tgt := 268) hx hb dX3_isSame_206 (by decide) (fun c => absurd c (nI_ge (a := k9) (b := n) (by omega) (by omega))) (fun _ => ?_)
              refine lv_iload hx hb dX3_isSame_209 (lv_at hl 9 rfl) ?_
              refine lv_aload_n hx hb dX3_isSame_211 rfl (lv_at hl 0 rfl) ?_
              refine va_get (D := γ.1) (ci := 3) (v := .ref r) (C := RX3) (T := TX3) (N := 3) hx hb hts iwX3_isSame_3 hown hK hP 20 rfl rfl 0 (by decide) (hts _ flX3_isSame_7) (fun _ h9 => h9) rfl dX3_isSame_212 ?_
              refine lv_iload hx hb dX3_isSame_215 (lv_at hl 10 rfl) ?_
              refine x_iald (f := f) hx hb hK hP 21 rfl k9 rfl (by omega) (by omega) dX3_isSame_217 ?_
              refine lv_aload_n hx hb dX3_isSame_218 rfl (lv_at hl 0 rfl) ?_
              refine va_get (D := γ.1) (ci := 3) (v := .ref tq) (C := RX3) (T := TX3) (N := 3) hx hb hts iwX3_isSame_3 hown hK hP 20 rfl rfl 1 (by decide) (hts _ flX3_isSame_14) (fun _ h9 => h9) rfl dX3_isSame_219 ?_
              refine lv_iload hx hb dX3_isSame_222 (lv_at hl 8 rfl) ?_
              refine x_tald (f := fun t9 => some (ta t9)) (v := ta t) hx hb hK hP 22 rfl t rfl (by omega) (by omega) (rfl) dX3_isSame_224 ?_
              refine lv_iload hx hb dX3_isSame_225 (lv_at hl 10 rfl) ?_
              refine x_iald (f := ks t) hx hb hK hP (23 + t) (xTs_r2 (C := [xO q0 2 [.ref q1, .ref q4, .int (nI kc), .int td, .ref q2, .ref q3], xO q1 0 [.ref a1, .int (nI n)], xA γ a1 12 f, xO q2 0 [.ref a2, .int tn], xA γ a2 12 tf, xO q3 1 [.ref a3, .int wn], xA γ a3 12 wf, xQ γ q4 6 (fun t9 => some (kq t9))] ++ xKp γ kq ka kn ks) (base := [xO s0 3 [.ref r, .ref tq, .int td], xA γ r n f, xT γ tq kc (fun t9 => some (ta t9))]) (nc := 20) (nb := 23) (t := t) rfl rfl (by omega)) k9 rfl (by omega) (by omega) dX3_isSame_227 ?_
              have J236 : W p l e ({ frames := 4, cells := 0, slots := 0, locals := 87 } : Room) s m args below meth c s.heap [] 0 0 Q (F0 m 236 ls [.int (if xNe f (ks t) k9 = true then 1 else 0), .int (nI (xCnt (xNe f (ks t)) k9))]) := by
                skip
                refine lv_iadd hx hb dX3_isSame_236 ?_
                refine x_top (y := nI (xCnt (xNe f (ks t)) (k9 + 1))) (xCnt_s) ?_
                refine lv_istore (lv' := [(9, .int (nI (xCnt (xNe f (ks t)) (k9 + 1)))), (0, .ref s0), (1, .ref q0), (2, .int (nI n)), (3, .int (nI (xCn (xSt n f) n d))), (4, .int (nI (xCn (xLv n f) n d))), (5, .int (nI (xDn (xRB n f) n d))), (6, .int (nI (xDn (xRH f) n d))), (7, .int (nI (xCnt (fun t9 => xCB n f (ks t9)) t))), (8, .int (nI t)), (10, .int (nI k9))]) hx hb dX3_isSame_237 hl (by decide) rfl (fun ls hl => ?_)
                refine lv_aload_n hx hb dX3_isSame_239 rfl (lv_at hl 2 rfl) ?_
                refine lv_iload hx hb dX3_isSame_240 (lv_at hl 9 rfl) ?_
                refine lv_iload hx hb dX3_isSame_242 (lv_at hl 10 rfl) ?_
                refine xVR (q0 := 0) (ci := 2) (As := [.int (nI t), .int (nI k9)]) (rest := []) (stk := [.int (ks t k9)]) ⟨hx, hb, hml, hown, hts⟩ (c_X2_numberIn γ l q0 q1 q2 q3 q4 kc td a1 n f kq ka kn ks t k9 (by omega) (by omega) (by omega) (by omega) (by omega)) (cwV 2 hts gX3_isSame_X2_numberIn rfl rfl rfl hdv_X2_numberIn ⟨(Nat.le_of_ble_eq_true rfl), (Nat.le_of_ble_eq_true rfl)⟩) hK hP [0, 1, 2, 7, 8 + 2 * t, 8 + 2 * t + 1] (xisC rfl (xisC rfl (xisC rfl (xisC rfl (xisC (xKp_o2 (base := [xO q0 2 [.ref q1, .ref q4, .int (nI kc), .int td, .ref q2, .ref q3], xO q1 0 [.ref a1, .int (nI n)], xA γ a1 12 f, xO q2 0 [.ref a2, .int tn], xA γ a2 12 tf, xO q3 1 [.ref a3, .int wn], xA γ a3 12 wf, xQ γ q4 6 (fun t9 => some (kq t9))]) (ks := ks) (nb := 8) (t := t) (R9 := [xO s0 3 [.ref r, .ref tq, .int td], xA γ r n f, xT γ tq kc (fun t9 => some (ta t9))] ++ xTs γ ta n ks kc) rfl (by omega) (hkn t (by omega))) (xisC (xKp_r2 (base := [xO q0 2 [.ref q1, .ref q4, .int (nI kc), .int td, .ref q2, .ref q3], xO q1 0 [.ref a1, .int (nI n)], xA γ a1 12 f, xO q2 0 [.ref a2, .int tn], xA γ a2 12 tf, xO q3 1 [.ref a3, .int wn], xA γ a3 12 wf, xQ γ q4 6 (fun t9 => some (kq t9))]) (kn := kn) (ks := ks) (nb := 8) (t := t) (R9 := [xO s0 3 [.ref r, .ref tq, .int td], xA γ r n f, xT γ tq kc (fun t9 => some (ta t9))] ++ xTs γ ta n ks kc) rfl (by omega)) xisN)))))) rfl rfl rfl hl.1 rfl (Nat.le_of_ble_eq_true rfl) dX3_isSame_244 ⟨(by omega : _ ≤ 0), (by omega : _ ≤ 0)⟩ rfl ?_
                refine lv_aload_n hx hb dX3_isSame_247 rfl (lv_at hl 1 rfl) ?_
                refine va_get (D := γ.1) (ci := 3) (v := .ref tq) (C := RX3) (T := TX3) (N := 3) hx hb hts iwX3_isSame_3 hown hK hP 20 rfl rfl 1 (by decide) (hts _ flX3_isSame_14) (fun _ h9 => h9) rfl dX3_isSame_248 ?_
                refine lv_iload hx hb dX3_isSame_251 (lv_at hl 9 rfl) ?_
                refine x_tald (f := fun t9 => some (ta t9)) (v := ta t) hx hb hK hP 22 rfl t rfl (by omega) (by omega) (rfl) dX3_isSame_253 ?_
                refine lv_iload hx hb dX3_isSame_254 (lv_at hl 10 rfl) ?_
                refine x_iald (f := ks t) hx hb hK hP (23 + t) (xTs_r2 (C := [xO q0 2 [.ref q1, .ref q4, .int (nI kc), .int td, .ref q2, .ref q3], xO q1 0 [.ref a1, .int (nI n)], xA γ a1 12 f, xO q2 0 [.ref a2, .int tn], xA γ a2 12 tf, xO q3 1 [.ref a3, .int wn], xA γ a3 12 wf, xQ γ q4 6 (fun t9 => some (kq t9))] ++ xKp γ kq ka kn ks) (base := [xO s0 3 [.ref r, .ref tq, .int td], xA γ r n f, xT γ tq kc (fun t9 => some (ta t9))]) (nc := 20) (nb := 23) (t := t) rfl rfl (by omega)) k9 rfl (by omega) (by omega) dX3_isSame_256 ?_
                refine lv_icmp_eq (tgt := 262) hx hb dX3_isSame_257 (by decide) (fun _ => ?_) (fun c => absurd (rfl) c)
                refine lv_iinc (v := nI (k9 + 1)) (lv' := [(10, .int (nI (k9 + 1))), (9, .int (nI (xCnt (xNe f (ks t)) (k9 + 1)))), (0, .ref s0), (1, .ref q0), (2, .int (nI n)), (3, .int (nI (xCn (xSt n f) n d))), (4, .int (nI (xCn (xLv n f) n d))), (5, .int (nI (xDn (xRB n f) n d))), (6, .int (nI (xDn (xRH f) n d))), (7, .int (nI (xCnt (fun t9 => xCB n f (ks t9)) t))), (8, .int (nI t))]) hx hb dX3_isSame_262 hl (k := 10) rfl (nI_add k9 1) (by decide) rfl (fun ls hl => ?_)
                refine lv_goto (tgt := 203) hx hb dX3_isSame_265 (by decide) ?_
                exact ih203 (k9 + 1) (by omega) ls (lv_sub hl [2, 3, 4, 5, 6, 7, 8, 9, 10, 1, 0] rfl)
              refine lv_icmp_eq (tgt := 235) hx hb dX3_isSame_228 (by decide) (fun c228 => ?_) (fun c228 => ?_)
              · refine lv_iconst (v := 0) hx hb dX3_isSame_235 (by decide) ?_
                exact x_top (y := if xNe f (ks t) k9 = true then 1 else 0) (xB_0 (xNe_f c228)) J236
              · refine lv_iconst (v := 1) hx hb dX3_isSame_231 (by decide) ?_
                refine lv_goto (tgt := 236) hx hb dX3_isSame_232 (by decide) ?_
                exact x_top (y := if xNe f (ks t) k9 = true then 1 else 0) (xB_1 (xNe_t c228)) J236
          exact loop203 n 0 (by omega) ls (lv_sub hl [2, 3, 4, 5, 6, 7, 8, 9, 10, 1, 0] rfl)
      exact loop187 kc 0 (by omega) ls (lv_sub hl [2, 3, 4, 5, 6, 7, 8, 1, 0] rfl)
    | succ j ih26 =>
      intro d hj ls hl
      refine lv_iload hx hb dX3_isSame_26 (lv_at hl 7 rfl) ?_
      refine lv_if_lt (tgt := 181) hx hb dX3_isSame_28 (by decide) (fun c => absurd c (by rw [nI_pred]; exact nI_pos (by omega))) (fun _ => ?_)
      rw [nI_pred] at hl
      have hjn : j = n - 1 - d := by omega
      have hdb := (xDn_lt (R := (xRB n f)) (n := n) (by omega) d (by omega)).1
      have hdh := (xDn_lt (R := (xRH f)) (n := n) (by omega) d (by omega)).1
      refine lv_aload_n hx hb dX3_isSame_31 rfl (lv_at hl 0 rfl) ?_
      refine lv_iload hx hb dX3_isSame_32 (lv_at hl 7 rfl) ?_
      refine xVR (q0 := 20) (ci := 3) (As := [.int (nI j)]) (rest := []) (stk := [.int (xTlt n f j)]) ⟨hx, hb, hml, hown, hts⟩ (c_X3_tilt γ l s0 r tq td n f j (by omega) (by omega) (by omega)) (cwV 1 hts gX3_isSame_X3_tilt rfl rfl rfl hdv_X3_tilt ⟨(Nat.le_of_ble_eq_true rfl), (Nat.le_of_ble_eq_true rfl)⟩) hK hP [20, 21] rfl rfl rfl rfl hl.1 rfl (Nat.le_of_ble_eq_true rfl) dX3_isSame_34 ⟨(by omega : _ ≤ 0), (by omega : _ ≤ 0)⟩ rfl ?_
      refine lv_istore (lv' := [(8, .int (xTlt n f j)), (0, .ref s0), (1, .ref q0), (2, .int (nI n)), (3, .int (nI (xCn (xSt n f) n d))), (4, .int (nI (xCn (xLv n f) n d))), (5, .int (nI (xDn (xRB n f) n d))), (6, .int (nI (xDn (xRH f) n d))), (7, .int (nI j))]) hx hb dX3_isSame_37 hl (by decide) rfl (fun ls hl => ?_)
      refine lv_iload_n hx hb dX3_isSame_39 rfl (lv_at hl 4 rfl) ?_
      refine lv_aload_n hx hb dX3_isSame_40 rfl (lv_at hl 1 rfl) ?_
      refine lv_aload_n hx hb dX3_isSame_41 rfl (lv_at hl 1 rfl) ?_
      refine va_get (D := γ.1) (ci := 3) (v := .ref r) (C := RX3) (T := TX3) (N := 3) hx hb hts iwX3_isSame_3 hown hK hP 20 rfl rfl 0 (by decide) (hts _ flX3_isSame_7) (fun _ h9 => h9) rfl dX3_isSame_42 ?_
      refine lv_iload hx hb dX3_isSame_45 (lv_at hl 8 rfl) ?_
      refine xVR (q0 := 20) (ci := 3) (As := [.ref r, .int (nI j)]) (rest := [.int (nI (xCn (xSt n f) n d))]) (stk := [.int (xBn n f j), .int (nI (xCn (xSt n f) n d))]) ⟨hx, hb, hml, hown, hts⟩ (c_X3_bend γ l s0 r tq td r n f j (by omega) (by omega) (by omega)) (cwV 2 hts gX3_isSame_X3_bend rfl rfl rfl hdv_X3_bend ⟨(Nat.le_of_ble_eq_true rfl), (Nat.le_of_ble_eq_true rfl)⟩) hK hP [20, 21] rfl rfl rfl rfl hl.1 rfl (Nat.le_of_ble_eq_true rfl) dX3_isSame_47 ⟨(by omega : _ ≤ 0), (by omega : _ ≤ 0)⟩ rfl ?_
      refine lv_iconst (v := 3) hx hb dX3_isSame_50 (by decide) ?_
      have J59 : W p l e ({ frames := 4, cells := 0, slots := 0, locals := 87 } : Room) s m args below meth c s.heap [] 0 0 Q (F0 m 59 ls [.int (if xSt n f j = true then 1 else 0), .int (nI (xCn (xSt n f) n d))]) := by
        skip
        refine lv_iadd hx hb dX3_isSame_59 ?_
        refine x_top (y := nI (xCn (xSt n f) n (d + 1))) (xCn_s hjn) ?_
        refine lv_istore_n (lv' := [(3, .int (nI (xCn (xSt n f) n (d + 1)))), (8, .int (xTlt n f j)), (0, .ref s0), (1, .ref q0), (2, .int (nI n)), (4, .int (nI (xCn (xLv n f) n d))), (5, .int (nI (xDn (xRB n f) n d))), (6, .int (nI (xDn (xRH f) n d))), (7, .int (nI j))]) hx hb dX3_isSame_60 rfl hl (by decide) rfl (fun ls hl => ?_)
        refine lv_iload hx hb dX3_isSame_61 (lv_at hl 5 rfl) ?_
        refine lv_iload hx hb dX3_isSame_63 (lv_at hl 1 rfl) ?_
        have J73 : W p l e ({ frames := 4, cells := 0, slots := 0, locals := 87 } : Room) s m args below meth c s.heap [] 0 0 Q (F0 m 73 ls [.int (if xLv n f j = true then 1 else 0), .int (nI (xCn (xLv n f) n d))]) := by
          skip
          refine lv_iadd hx hb dX3_isSame_73 ?_
          refine x_top (y := nI (xCn (xLv n f) n (d + 1))) (xCn_s hjn) ?_
          refine lv_istore (lv' := [(4, .int (nI (xCn (xLv n f) n (d + 1)))), (3, .int (nI (xCn (xSt n f) n (d + 1)))), (8, .int (xTlt n f j)), (0, .ref s0), (1, .ref q0), (2, .int (nI n)), (5, .int (nI (xDn (xRB n f) n d))), (6, .int (nI (xDn (xRH f) n d))), (7, .int (nI j))]) hx hb dX3_isSame_74 hl (by decide) rfl (fun ls hl => ?_)
          refine lv_iload hx hb dX3_isSame_76 (lv_at hl 2 rfl) ?_
          refine va_mabs hx hb (hml.trans hl.1.symm) hown (hts _ wdX3_isSame_m53a) (hts _ wdX3_isSame_m53b) (hts _ wdX3_isSame_m53c) (hts _ wdX3_isSame_m53d) (Nat.le_of_ble_eq_true rfl) (Nat.le_of_ble_eq_true rfl) (Nat.le_of_ble_eq_true rfl) (Nat.le_of_ble_eq_true rfl) dX3_isSame_78 ?_
          refine lv_aload_n hx hb dX3_isSame_81 rfl (lv_at hl 3 rfl) ?_
          refine lv_iload hx hb dX3_isSame_82 (lv_at hl 6 rfl) ?_
          refine xVR (q0 := 20) (ci := 3) (As := [.int (nI (xDn (xRB n f) n d))]) (rest := [.int (if 0 ≤ (xTlt n f j) then (xTlt n f j) else 0 - (xTlt n f j))]) (stk := [.int (xTlt n f (xDn (xRB n f) n d)), .int (if 0 ≤ (xTlt n f j) then (xTlt n f j) else 0 - (xTlt n f j))]) ⟨hx, hb, hml, hown, hts⟩ (c_X3_tilt γ l s0 r tq td n f (xDn (xRB n f) n d) (by omega) (by omega) (by omega)) (cwV 1 hts gX3_isSame_X3_tilt rfl rfl rfl hdv_X3_tilt ⟨(Nat.le_of_ble_eq_true rfl), (Nat.le_of_ble_eq_true rfl)⟩) hK hP [20, 21] rfl rfl rfl rfl hl.1 rfl (Nat.le_of_ble_eq_true rfl) dX3_isSame_84 ⟨(by omega : _ ≤ 0), (by omega : _ ≤ 0)⟩ rfl ?_
          refine va_mabs hx hb (hml.trans hl.1.symm) hown (hts _ wdX3_isSame_m53a) (hts _ wdX3_isSame_m53b) (hts _ wdX3_isSame_m53c) (hts _ wdX3_isSame_m53d) (Nat.le_of_ble_eq_true rfl) (Nat.le_of_ble_eq_true rfl) (Nat.le_of_ble_eq_true rfl) (Nat.le_of_ble_eq_true rfl) dX3_isSame_87 ?_
          refine lv_icmp_gt (tgt := 97) hx hb dX3_isSame_90 (by decide) (fun c90 => ?_) (fun c90 => ?_)
          · rw [← xDn_f (R := (xRB n f)) hjn (xRB_f c90)] at hl
            refine lv_aload_n hx hb dX3_isSame_97 rfl (lv_at hl 3 rfl) ?_
            refine va_get (D := γ.1) (ci := 3) (v := .ref r) (C := RX3) (T := TX3) (N := 3) hx hb hts iwX3_isSame_3 hown hK hP 20 rfl rfl 0 (by decide) (hts _ flX3_isSame_7) (fun _ h9 => h9) rfl dX3_isSame_98 ?_
            refine lv_iload hx hb dX3_isSame_101 (lv_at hl 8 rfl) ?_
            refine x_iald (f := f) hx hb hK hP 21 rfl j rfl (by omega) (by omega) dX3_isSame_103 ?_
            refine lv_aload_n hx hb dX3_isSame_104 rfl (lv_at hl 3 rfl) ?_
            refine va_get (D := γ.1) (ci := 3) (v := .ref r) (C := RX3) (T := TX3) (N := 3) hx hb hts iwX3_isSame_3 hown hK hP 20 rfl rfl 0 (by decide) (hts _ flX3_isSame_7) (fun _ h9 => h9) rfl dX3_isSame_105 ?_
            refine lv_iload hx hb dX3_isSame_108 (lv_at hl 7 rfl) ?_
            refine x_iald (f := f) hx hb hK hP 21 rfl (xDn (xRH f) n d) rfl (by omega) (by omega) dX3_isSame_110 ?_
            refine lv_icmp_lt (tgt := 118) hx hb dX3_isSame_111 (by decide) (fun c111 => ?_) (fun c111 => ?_)
            · rw [← xDn_f (R := (xRH f)) hjn (xRH_f c111)] at hl
              refine lv_aload_n hx hb dX3_isSame_118 rfl (lv_at hl 4 rfl) ?_
              refine lv_iload hx hb dX3_isSame_119 (lv_at hl 8 rfl) ?_
              refine xVR (q0 := 0) (ci := 2) (As := [.int (nI j)]) (rest := []) (stk := [.int (f j)]) ⟨hx, hb, hml, hown, hts⟩ (c_X2_numberAt γ l q0 q1 q2 q3 q4 kc td a1 n f j (by omega) (by omega) (by omega)) (cwV 1 hts gX3_isSame_X2_numberAt rfl rfl rfl hdv_X2_numberAt ⟨(Nat.le_of_ble_eq_true rfl), (Nat.le_of_ble_eq_true rfl)⟩) hK hP [0, 1, 2] rfl rfl rfl rfl hl.1 rfl (Nat.le_of_ble_eq_true rfl) dX3_isSame_121 ⟨(by omega : _ ≤ 0), (by omega : _ ≤ 0)⟩ rfl ?_
              refine lv_aload_n hx hb dX3_isSame_124 rfl (lv_at hl 3 rfl) ?_
              refine va_get (D := γ.1) (ci := 3) (v := .ref r) (C := RX3) (T := TX3) (N := 3) hx hb hts iwX3_isSame_3 hown hK hP 20 rfl rfl 0 (by decide) (hts _ flX3_isSame_7) (fun _ h9 => h9) rfl dX3_isSame_125 ?_
              refine lv_iload hx hb dX3_isSame_128 (lv_at hl 8 rfl) ?_
              refine x_iald (f := f) hx hb hK hP 21 rfl j rfl (by omega) (by omega) dX3_isSame_130 ?_
              refine lv_icmp_ne (tgt := 173) hx hb dX3_isSame_131 (by decide) (fun c => absurd (rfl) c) (fun _ => ?_)
              refine lv_aload_n hx hb dX3_isSame_134 rfl (lv_at hl 4 rfl) ?_
              refine lv_iload hx hb dX3_isSame_135 (lv_at hl 8 rfl) ?_
              refine xVR (q0 := 0) (ci := 2) (As := [.int (nI j)]) (rest := []) (stk := [.int (if xSt n f j = true then 1 else 0)]) ⟨hx, hb, hml, hown, hts⟩ (c_X2_isSteep γ l q0 q1 q2 q3 q4 kc td a1 n f j (by omega) (by omega) (by omega)) (cwV 1 hts gX3_isSame_X2_isSteep rfl rfl rfl hdv_X2_isSteep ⟨(Nat.le_of_ble_eq_true rfl), (Nat.le_of_ble_eq_true rfl)⟩) hK hP [0, 1, 2] rfl rfl rfl rfl hl.1 rfl (Nat.le_of_ble_eq_true rfl) dX3_isSame_137 ⟨(by omega : _ ≤ 0), (by omega : _ ≤ 0)⟩ rfl ?_
              refine lv_aload_n hx hb dX3_isSame_140 rfl (lv_at hl 3 rfl) ?_
              refine lv_aload_n hx hb dX3_isSame_141 rfl (lv_at hl 3 rfl) ?_
              refine va_get (D := γ.1) (ci := 3) (v := .ref r) (C := RX3) (T := TX3) (N := 3) hx hb hts iwX3_isSame_3 hown hK hP 20 rfl rfl 0 (by decide) (hts _ flX3_isSame_7) (fun _ h9 => h9) rfl dX3_isSame_142 ?_
              refine lv_iload hx hb dX3_isSame_145 (lv_at hl 8 rfl) ?_
              refine xVR (q0 := 20) (ci := 3) (As := [.ref r, .int (nI j)]) (rest := [.int (if xSt n f j = true then 1 else 0)]) (stk := [.int (xBn n f j), .int (if xSt n f j = true then 1 else 0)]) ⟨hx, hb, hml, hown, hts⟩ (c_X3_bend γ l s0 r tq td r n f j (by omega) (by omega) (by omega)) (cwV 2 hts gX3_isSame_X3_bend rfl rfl rfl hdv_X3_bend ⟨(Nat.le_of_ble_eq_true rfl), (Nat.le_of_ble_eq_true rfl)⟩) hK hP [20, 21] rfl rfl rfl rfl hl.1 rfl (Nat.le_of_ble_eq_true rfl) dX3_isSame_147 ⟨(by omega : _ ≤ 0), (by omega : _ ≤ 0)⟩ rfl ?_
              refine lv_iconst (v := 3) hx hb dX3_isSame_150 (by decide) ?_
              have J159 : W p l e ({ frames := 4, cells := 0, slots := 0, locals := 87 } : Room) s m args below meth c s.heap [] 0 0 Q (F0 m 159 ls [.int (if xSt n f j = true then 1 else 0), .int (if xSt n f j = true then 1 else 0)]) := by
                skip
                refine lv_icmp_ne (tgt := 173) hx hb dX3_isSame_159 (by decide) (fun c => absurd (rfl) c) (fun _ => ?_)
                refine lv_aload_n hx hb dX3_isSame_162 rfl (lv_at hl 4 rfl) ?_
                refine lv_iload hx hb dX3_isSame_163 (lv_at hl 8 rfl) ?_
                refine xVR (q0 := 0) (ci := 2) (As := [.int (nI j)]) (rest := []) (stk := [.int (xTlt n f j)]) ⟨hx, hb, hml, hown, hts⟩ (c_X2_tilt γ l q0 q1 q2 q3 q4 kc td a1 n f j (by omega) (by omega) (by omega)) (cwV 1 hts gX3_isSame_X2_tilt rfl rfl rfl hdv_X2_tilt ⟨(Nat.le_of_ble_eq_true rfl), (Nat.le_of_ble_eq_true rfl)⟩) hK hP [0, 1, 2] rfl rfl rfl rfl hl.1 rfl (Nat.le_of_ble_eq_true rfl) dX3_isSame_165 ⟨(by omega : _ ≤ 0), (by omega : _ ≤ 0)⟩ rfl ?_
                refine lv_iload hx hb dX3_isSame_168 (lv_at hl 2 rfl) ?_
                refine lv_icmp_eq (tgt := 175) hx hb dX3_isSame_170 (by decide) (fun _ => ?_) (fun c => absurd (rfl) c)
                refine lv_iinc (v := nI j - 1) (lv' := [(7, .int (nI j - 1)), (4, .int (nI (xCn (xLv n f) n (d + 1)))), (3, .int (nI (xCn (xSt n f) n (d + 1)))), (8, .int (xTlt n f j)), (0, .ref s0), (1, .ref q0), (2, .int (nI n)), (5, .int (nI (xDn (xRB n f) n (d + 1)))), (6, .int (nI (xDn (xRH f) n (d + 1))))]) hx hb dX3_isSame_175 hl (k := 8) rfl (xm1 _) (by decide) rfl (fun ls hl => ?_)
                refine lv_goto (tgt := 26) hx hb dX3_isSame_178 (by decide) ?_
                exact ih26 (d + 1) (by omega) ls (lv_sub hl [4, 5, 6, 2, 1, 7, 8, 0] rfl)
              refine lv_icmp_le (tgt := 158) hx hb dX3_isSame_151 (by decide) (fun c151 => ?_) (fun c151 => ?_)
              · refine lv_iconst (v := 0) hx hb dX3_isSame_158 (by decide) ?_
                exact x_top (y := if xSt n f j = true then 1 else 0) (xB_0 (xSt_f c151)) J159
              · refine lv_iconst (v := 1) hx hb dX3_isSame_154 (by decide) ?_
                refine lv_goto (tgt := 159) hx hb dX3_isSame_155 (by decide) ?_
                exact x_top (y := if xSt n f j = true then 1 else 0) (xB_1 (xSt_t c151)) J159
            · refine lv_iload hx hb dX3_isSame_114 (lv_at hl 8 rfl) ?_
              refine x_top (y := nI (xDn (xRH f) n (d + 1))) (congrArg nI (xDn_t (R := (xRH f)) hjn (xRH_t c111)).symm) ?_
              refine lv_istore (lv' := [(6, .int (nI (xDn (xRH f) n (d + 1)))), (4, .int (nI (xCn (xLv n f) n (d + 1)))), (3, .int (nI (xCn (xSt n f) n (d + 1)))), (8, .int (xTlt n f j)), (0, .ref s0), (1, .ref q0), (2, .int (nI n)), (5, .int (nI (xDn (xRB n f) n (d + 1)))), (7, .int (nI j))]) hx hb dX3_isSame_116 hl (by decide) rfl (fun ls hl => ?_)
              refine lv_aload_n hx hb dX3_isSame_118 rfl (lv_at hl 5 rfl) ?_
              refine lv_iload hx hb dX3_isSame_119 (lv_at hl 8 rfl) ?_
              refine xVR (q0 := 0) (ci := 2) (As := [.int (nI j)]) (rest := []) (stk := [.int (f j)]) ⟨hx, hb, hml, hown, hts⟩ (c_X2_numberAt γ l q0 q1 q2 q3 q4 kc td a1 n f j (by omega) (by omega) (by omega)) (cwV 1 hts gX3_isSame_X2_numberAt rfl rfl rfl hdv_X2_numberAt ⟨(Nat.le_of_ble_eq_true rfl), (Nat.le_of_ble_eq_true rfl)⟩) hK hP [0, 1, 2] rfl rfl rfl rfl hl.1 rfl (Nat.le_of_ble_eq_true rfl) dX3_isSame_121 ⟨(by omega : _ ≤ 0), (by omega : _ ≤ 0)⟩ rfl ?_
              refine lv_aload_n hx hb dX3_isSame_124 rfl (lv_at hl 4 rfl) ?_
              refine va_get (D := γ.1) (ci := 3) (v := .ref r) (C := RX3) (T := TX3) (N := 3) hx hb hts iwX3_isSame_3 hown hK hP 20 rfl rfl 0 (by decide) (hts _ flX3_isSame_7) (fun _ h9 => h9) rfl dX3_isSame_125 ?_
              refine lv_iload hx hb dX3_isSame_128 (lv_at hl 8 rfl) ?_
              refine x_iald (f := f) hx hb hK hP 21 rfl j rfl (by omega) (by omega) dX3_isSame_130 ?_
              refine lv_icmp_ne (tgt := 173) hx hb dX3_isSame_131 (by decide) (fun c => absurd (rfl) c) (fun _ => ?_)
              refine lv_aload_n hx hb dX3_isSame_134 rfl (lv_at hl 5 rfl) ?_
              refine lv_iload hx hb dX3_isSame_135 (lv_at hl 8 rfl) ?_
              refine xVR (q0 := 0) (ci := 2) (As := [.int (nI j)]) (rest := []) (stk := [.int (if xSt n f j = true then 1 else 0)]) ⟨hx, hb, hml, hown, hts⟩ (c_X2_isSteep γ l q0 q1 q2 q3 q4 kc td a1 n f j (by omega) (by omega) (by omega)) (cwV 1 hts gX3_isSame_X2_isSteep rfl rfl rfl hdv_X2_isSteep ⟨(Nat.le_of_ble_eq_true rfl), (Nat.le_of_ble_eq_true rfl)⟩) hK hP [0, 1, 2] rfl rfl rfl rfl hl.1 rfl (Nat.le_of_ble_eq_true rfl) dX3_isSame_137 ⟨(by omega : _ ≤ 0), (by omega : _ ≤ 0)⟩ rfl ?_
              refine lv_aload_n hx hb dX3_isSame_140 rfl (lv_at hl 4 rfl) ?_
              refine lv_aload_n hx hb dX3_isSame_141 rfl (lv_at hl 4 rfl) ?_
              refine va_get (D := γ.1) (ci := 3) (v := .ref r) (C := RX3) (T := TX3) (N := 3) hx hb hts iwX3_isSame_3 hown hK hP 20 rfl rfl 0 (by decide) (hts _ flX3_isSame_7) (fun _ h9 => h9) rfl dX3_isSame_142 ?_
              refine lv_iload hx hb dX3_isSame_145 (lv_at hl 8 rfl) ?_
              refine xVR (q0 := 20) (ci := 3) (As := [.ref r, .int (nI j)]) (rest := [.int (if xSt n f j = true then 1 else 0)]) (stk := [.int (xBn n f j), .int (if xSt n f j = true then 1 else 0)]) ⟨hx, hb, hml, hown, hts⟩ (c_X3_bend γ l s0 r tq td r n f j (by omega) (by omega) (by omega)) (cwV 2 hts gX3_isSame_X3_bend rfl rfl rfl hdv_X3_bend ⟨(Nat.le_of_ble_eq_true rfl), (Nat.le_of_ble_eq_true rfl)⟩) hK hP [20, 21] rfl rfl rfl rfl hl.1 rfl (Nat.le_of_ble_eq_true rfl) dX3_isSame_147 ⟨(by omega : _ ≤ 0), (by omega : _ ≤ 0)⟩ rfl ?_
              refine lv_iconst (v := 3) hx hb dX3_isSame_150 (by decide) ?_
              have J159 : W p l e ({ frames := 4, cells := 0, slots := 0, locals := 87 } : Room) s m args below meth c s.heap [] 0 0 Q (F0 m 159 ls [.int (if xSt n f j = true then 1 else 0), .int (if xSt n f j = true then 1 else 0)]) := by
                skip
                refine lv_icmp_ne (tgt := 173) hx hb dX3_isSame_159 (by decide) (fun c => absurd (rfl) c) (fun _ => ?_)
                refine lv_aload_n hx hb dX3_isSame_162 rfl (lv_at hl 5 rfl) ?_
                refine lv_iload hx hb dX3_isSame_163 (lv_at hl 8 rfl) ?_
                refine xVR (q0 := 0) (ci := 2) (As := [.int (nI j)]) (rest := []) (stk := [.int (xTlt n f j)]) ⟨hx, hb, hml, hown, hts⟩ (c_X2_tilt γ l q0 q1 q2 q3 q4 kc td a1 n f j (by omega) (by omega) (by omega)) (cwV 1 hts gX3_isSame_X2_tilt rfl rfl rfl hdv_X2_tilt ⟨(Nat.le_of_ble_eq_true rfl), (Nat.le_of_ble_eq_true rfl)⟩) hK hP [0, 1, 2] rfl rfl rfl rfl hl.1 rfl (Nat.le_of_ble_eq_true rfl) dX3_isSame_165 ⟨(by omega : _ ≤ 0), (by omega : _ ≤ 0)⟩ rfl ?_
                refine lv_iload hx hb dX3_isSame_168 (lv_at hl 3 rfl) ?_
                refine lv_icmp_eq (tgt := 175) hx hb dX3_isSame_170 (by decide) (fun _ => ?_) (fun c => absurd (rfl) c)
                refine lv_iinc (v := nI j - 1) (lv' := [(7, .int (nI j - 1)), (6, .int (nI (xDn (xRH f) n (d + 1)))), (4, .int (nI (xCn (xLv n f) n (d + 1)))), (3, .int (nI (xCn (xSt n f) n (d + 1)))), (8, .int (xTlt n f j)), (0, .ref s0), (1, .ref q0), (2, .int (nI n)), (5, .int (nI (xDn (xRB n f) n (d + 1))))]) hx hb dX3_isSame_175 hl (k := 8) rfl (xm1 _) (by decide) rfl (fun ls hl => ?_)
                refine lv_goto (tgt := 26) hx hb dX3_isSame_178 (by decide) ?_
                exact ih26 (d + 1) (by omega) ls (lv_sub hl [5, 6, 7, 3, 2, 8, 1, 0] rfl)
              refine lv_icmp_le (tgt := 158) hx hb dX3_isSame_151 (by decide) (fun c151 => ?_) (fun c151 => ?_)
              · refine lv_iconst (v := 0) hx hb dX3_isSame_158 (by decide) ?_
                exact x_top (y := if xSt n f j = true then 1 else 0) (xB_0 (xSt_f c151)) J159
              · refine lv_iconst (v := 1) hx hb dX3_isSame_154 (by decide) ?_
                refine lv_goto (tgt := 159) hx hb dX3_isSame_155 (by decide) ?_
                exact x_top (y := if xSt n f j = true then 1 else 0) (xB_1 (xSt_t c151)) J159
          · refine lv_iload hx hb dX3_isSame_93 (lv_at hl 8 rfl) ?_
            refine x_top (y := nI (xDn (xRB n f) n (d + 1))) (congrArg nI (xDn_t (R := (xRB n f)) hjn (xRB_t c90)).symm) ?_
            refine lv_istore (lv' := [(5, .int (nI (xDn (xRB n f) n (d + 1)))), (4, .int (nI (xCn (xLv n f) n (d + 1)))), (3, .int (nI (xCn (xSt n f) n (d + 1)))), (8, .int (xTlt n f j)), (0, .ref s0), (1, .ref q0), (2, .int (nI n)), (6, .int (nI (xDn (xRH f) n d))), (7, .int (nI j))]) hx hb dX3_isSame_95 hl (by decide) rfl (fun ls hl => ?_)
            refine lv_aload_n hx hb dX3_isSame_97 rfl (lv_at hl 4 rfl) ?_
            refine va_get (D := γ.1) (ci := 3) (v := .ref r) (C := RX3) (T := TX3) (N := 3) hx hb hts iwX3_isSame_3 hown hK hP 20 rfl rfl 0 (by decide) (hts _ flX3_isSame_7) (fun _ h9 => h9) rfl dX3_isSame_98 ?_
            refine lv_iload hx hb dX3_isSame_101 (lv_at hl 8 rfl) ?_
            refine x_iald (f := f) hx hb hK hP 21 rfl j rfl (by omega) (by omega) dX3_isSame_103 ?_
            refine lv_aload_n hx hb dX3_isSame_104 rfl (lv_at hl 4 rfl) ?_
            refine va_get (D := γ.1) (ci := 3) (v := .ref r) (C := RX3) (T := TX3) (N := 3) hx hb hts iwX3_isSame_3 hown hK hP 20 rfl rfl 0 (by decide) (hts _ flX3_isSame_7) (fun _ h9 => h9) rfl dX3_isSame_105 ?_
            refine lv_iload hx hb dX3_isSame_108 (lv_at hl 7 rfl) ?_
            refine x_iald (f := f) hx hb hK hP 21 rfl (xDn (xRH f) n d) rfl (by omega) (by omega) dX3_isSame_110 ?_
            refine lv_icmp_lt (tgt := 118) hx hb dX3_isSame_111 (by decide) (fun c111 => ?_) (fun c111 => ?_)
            · rw [← xDn_f (R := (xRH f)) hjn (xRH_f c111)] at hl
              refine lv_aload_n hx hb dX3_isSame_118 rfl (lv_at hl 5 rfl) ?_
              refine lv_iload hx hb dX3_isSame_119 (lv_at hl 8 rfl) ?_
              refine xVR (q0 := 0) (ci := 2) (As := [.int (nI j)]) (rest := []) (stk := [.int (f j)]) ⟨hx, hb, hml, hown, hts⟩ (c_X2_numberAt γ l q0 q1 q2 q3 q4 kc td a1 n f j (by omega) (by omega) (by omega)) (cwV 1 hts gX3_isSame_X2_numberAt rfl rfl rfl hdv_X2_numberAt ⟨(Nat.le_of_ble_eq_true rfl), (Nat.le_of_ble_eq_true rfl)⟩) hK hP [0, 1, 2] rfl rfl rfl rfl hl.1 rfl (Nat.le_of_ble_eq_true rfl) dX3_isSame_121 ⟨(by omega : _ ≤ 0), (by omega : _ ≤ 0)⟩ rfl ?_
              refine lv_aload_n hx hb dX3_isSame_124 rfl (lv_at hl 4 rfl) ?_
              refine va_get (D := γ.1) (ci := 3) (v := .ref r) (C := RX3) (T := TX3) (N := 3) hx hb hts iwX3_isSame_3 hown hK hP 20 rfl rfl 0 (by decide) (hts _ flX3_isSame_7) (fun _ h9 => h9) rfl dX3_isSame_125 ?_
              refine lv_iload hx hb dX3_isSame_128 (lv_at hl 8 rfl) ?_
              refine x_iald (f := f) hx hb hK hP 21 rfl j rfl (by omega) (by omega) dX3_isSame_130 ?_
              refine lv_icmp_ne (tgt := 173) hx hb dX3_isSame_131 (by decide) (fun c => absurd (rfl) c) (fun _ => ?_)
              refine lv_aload_n hx hb dX3_isSame_134 rfl (lv_at hl 5 rfl) ?_
              refine lv_iload hx hb dX3_isSame_135 (lv_at hl 8 rfl) ?_
              refine xVR (q0 := 0) (ci := 2) (As := [.int (nI j)]) (rest := []) (stk := [.int (if xSt n f j = true then 1 else 0)]) ⟨hx, hb, hml, hown, hts⟩ (c_X2_isSteep γ l q0 q1 q2 q3 q4 kc td a1 n f j (by omega) (by omega) (by omega)) (cwV 1 hts gX3_isSame_X2_isSteep rfl rfl rfl hdv_X2_isSteep ⟨(Nat.le_of_ble_eq_true rfl), (Nat.le_of_ble_eq_true rfl)⟩) hK hP [0, 1, 2] rfl rfl rfl rfl hl.1 rfl (Nat.le_of_ble_eq_true rfl) dX3_isSame_137 ⟨(by omega : _ ≤ 0), (by omega : _ ≤ 0)⟩ rfl ?_
              refine lv_aload_n hx hb dX3_isSame_140 rfl (lv_at hl 4 rfl) ?_
              refine lv_aload_n hx hb dX3_isSame_141 rfl (lv_at hl 4 rfl) ?_
              refine va_get (D := γ.1) (ci := 3) (v := .ref r) (C := RX3) (T := TX3) (N := 3) hx hb hts iwX3_isSame_3 hown hK hP 20 rfl rfl 0 (by decide) (hts _ flX3_isSame_7) (fun _ h9 => h9) rfl dX3_isSame_142 ?_
              refine lv_iload hx hb dX3_isSame_145 (lv_at hl 8 rfl) ?_
              refine xVR (q0 := 20) (ci := 3) (As := [.ref r, .int (nI j)]) (rest := [.int (if xSt n f j = true then 1 else 0)]) (stk := [.int (xBn n f j), .int (if xSt n f j = true then 1 else 0)]) ⟨hx, hb, hml, hown, hts⟩ (c_X3_bend γ l s0 r tq td r n f j (by omega) (by omega) (by omega)) (cwV 2 hts gX3_isSame_X3_bend rfl rfl rfl hdv_X3_bend ⟨(Nat.le_of_ble_eq_true rfl), (Nat.le_of_ble_eq_true rfl)⟩) hK hP [20, 21] rfl rfl rfl rfl hl.1 rfl (Nat.le_of_ble_eq_true rfl) dX3_isSame_147 ⟨(by omega : _ ≤ 0), (by omega : _ ≤ 0)⟩ rfl ?_
              refine lv_iconst (v := 3) hx hb dX3_isSame_150 (by decide) ?_
              have J159 : W p l e ({ frames := 4, cells := 0, slots := 0, locals := 87 } : Room) s m args below meth c s.heap [] 0 0 Q (F0 m 159 ls [.int (if xSt n f j = true then 1 else 0), .int (if xSt n f j = true then 1 else 0)]) := by
                skip
                refine lv_icmp_ne (tgt := 173) hx hb dX3_isSame_159 (by decide) (fun c => absurd (rfl) c) (fun _ => ?_)
                refine lv_aload_n hx hb dX3_isSame_162 rfl (lv_at hl 5 rfl) ?_
                refine lv_iload hx hb dX3_isSame_163 (lv_at hl 8 rfl) ?_
                refine xVR (q0 := 0) (ci := 2) (As := [.int (nI j)]) (rest := []) (stk := [.int (xTlt n f j)]) ⟨hx, hb, hml, hown, hts⟩ (c_X2_tilt γ l q0 q1 q2 q3 q4 kc td a1 n f j (by omega) (by omega) (by omega)) (cwV 1 hts gX3_isSame_X2_tilt rfl rfl rfl hdv_X2_tilt ⟨(Nat.le_of_ble_eq_true rfl), (Nat.le_of_ble_eq_true rfl)⟩) hK hP [0, 1, 2] rfl rfl rfl rfl hl.1 rfl (Nat.le_of_ble_eq_true rfl) dX3_isSame_165 ⟨(by omega : _ ≤ 0), (by omega : _ ≤ 0)⟩ rfl ?_
                refine lv_iload hx hb dX3_isSame_168 (lv_at hl 3 rfl) ?_
                refine lv_icmp_eq (tgt := 175) hx hb dX3_isSame_170 (by decide) (fun _ => ?_) (fun c => absurd (rfl) c)
                refine lv_iinc (v := nI j - 1) (lv' := [(7, .int (nI j - 1)), (5, .int (nI (xDn (xRB n f) n (d + 1)))), (4, .int (nI (xCn (xLv n f) n (d + 1)))), (3, .int (nI (xCn (xSt n f) n (d + 1)))), (8, .int (xTlt n f j)), (0, .ref s0), (1, .ref q0), (2, .int (nI n)), (6, .int (nI (xDn (xRH f) n (d + 1))))]) hx hb dX3_isSame_175 hl (k := 8) rfl (xm1 _) (by decide) rfl (fun ls hl => ?_)
                refine lv_goto (tgt := 26) hx hb dX3_isSame_178 (by decide) ?_
                exact ih26 (d + 1) (by omega) ls (lv_sub hl [5, 6, 7, 3, 2, 1, 8, 0] rfl)
              refine lv_icmp_le (tgt := 158) hx hb dX3_isSame_151 (by decide) (fun c151 => ?_) (fun c151 => ?_)
              · refine lv_iconst (v := 0) hx hb dX3_isSame_158 (by decide) ?_
                exact x_top (y := if xSt n f j = true then 1 else 0) (xB_0 (xSt_f c151)) J159
              · refine lv_iconst (v := 1) hx hb dX3_isSame_154 (by decide) ?_
                refine lv_goto (tgt := 159) hx hb dX3_isSame_155 (by decide) ?_
                exact x_top (y := if xSt n f j = true then 1 else 0) (xB_1 (xSt_t c151)) J159
            · refine lv_iload hx hb dX3_isSame_114 (lv_at hl 8 rfl) ?_
              refine x_top (y := nI (xDn (xRH f) n (d + 1))) (congrArg nI (xDn_t (R := (xRH f)) hjn (xRH_t c111)).symm) ?_
              refine lv_istore (lv' := [(6, .int (nI (xDn (xRH f) n (d + 1)))), (5, .int (nI (xDn (xRB n f) n (d + 1)))), (4, .int (nI (xCn (xLv n f) n (d + 1)))), (3, .int (nI (xCn (xSt n f) n (d + 1)))), (8, .int (xTlt n f j)), (0, .ref s0), (1, .ref q0), (2, .int (nI n)), (7, .int (nI j))]) hx hb dX3_isSame_116 hl (by decide) rfl (fun ls hl => ?_)
              refine lv_aload_n hx hb dX3_isSame_118 rfl (lv_at hl 6 rfl) ?_
              refine lv_iload hx hb dX3_isSame_119 (lv_at hl 8 rfl) ?_
              refine xVR (q0 := 0) (ci := 2) (As := [.int (nI j)]) (rest := []) (stk := [.int (f j)]) ⟨hx, hb, hml, hown, hts⟩ (c_X2_numberAt γ l q0 q1 q2 q3 q4 kc td a1 n f j (by omega) (by omega) (by omega)) (cwV 1 hts gX3_isSame_X2_numberAt rfl rfl rfl hdv_X2_numberAt ⟨(Nat.le_of_ble_eq_true rfl), (Nat.le_of_ble_eq_true rfl)⟩) hK hP [0, 1, 2] rfl rfl rfl rfl hl.1 rfl (Nat.le_of_ble_eq_true rfl) dX3_isSame_121 ⟨(by omega : _ ≤ 0), (by omega : _ ≤ 0)⟩ rfl ?_
              refine lv_aload_n hx hb dX3_isSame_124 rfl (lv_at hl 5 rfl) ?_
              refine va_get (D := γ.1) (ci := 3) (v := .ref r) (C := RX3) (T := TX3) (N := 3) hx hb hts iwX3_isSame_3 hown hK hP 20 rfl rfl 0 (by decide) (hts _ flX3_isSame_7) (fun _ h9 => h9) rfl dX3_isSame_125 ?_
              refine lv_iload hx hb dX3_isSame_128 (lv_at hl 8 rfl) ?_
              refine x_iald (f := f) hx hb hK hP 21 rfl j rfl (by omega) (by omega) dX3_isSame_130 ?_
              refine lv_icmp_ne (tgt := 173) hx hb dX3_isSame_131 (by decide) (fun c => absurd (rfl) c) (fun _ => ?_)
              refine lv_aload_n hx hb dX3_isSame_134 rfl (lv_at hl 6 rfl) ?_
              refine lv_iload hx hb dX3_isSame_135 (lv_at hl 8 rfl) ?_
              refine xVR (q0 := 0) (ci := 2) (As := [.int (nI j)]) (rest := []) (stk := [.int (if xSt n f j = true then 1 else 0)]) ⟨hx, hb, hml, hown, hts⟩ (c_X2_isSteep γ l q0 q1 q2 q3 q4 kc td a1 n f j (by omega) (by omega) (by omega)) (cwV 1 hts gX3_isSame_X2_isSteep rfl rfl rfl hdv_X2_isSteep ⟨(Nat.le_of_ble_eq_true rfl), (Nat.le_of_ble_eq_true rfl)⟩) hK hP [0, 1, 2] rfl rfl rfl rfl hl.1 rfl (Nat.le_of_ble_eq_true rfl) dX3_isSame_137 ⟨(by omega : _ ≤ 0), (by omega : _ ≤ 0)⟩ rfl ?_
              refine lv_aload_n hx hb dX3_isSame_140 rfl (lv_at hl 5 rfl) ?_
              refine lv_aload_n hx hb dX3_isSame_141 rfl (lv_at hl 5 rfl) ?_
              refine va_get (D := γ.1) (ci := 3) (v := .ref r) (C := RX3) (T := TX3) (N := 3) hx hb hts iwX3_isSame_3 hown hK hP 20 rfl rfl 0 (by decide) (hts _ flX3_isSame_7) (fun _ h9 => h9) rfl dX3_isSame_142 ?_
              refine lv_iload hx hb dX3_isSame_145 (lv_at hl 8 rfl) ?_
              refine xVR (q0 := 20) (ci := 3) (As := [.ref r, .int (nI j)]) (rest := [.int (if xSt n f j = true then 1 else 0)]) (stk := [.int (xBn n f j), .int (if xSt n f j = true then 1 else 0)]) ⟨hx, hb, hml, hown, hts⟩ (c_X3_bend γ l s0 r tq td r n f j (by omega) (by omega) (by omega)) (cwV 2 hts gX3_isSame_X3_bend rfl rfl rfl hdv_X3_bend ⟨(Nat.le_of_ble_eq_true rfl), (Nat.le_of_ble_eq_true rfl)⟩) hK hP [20, 21] rfl rfl rfl rfl hl.1 rfl (Nat.le_of_ble_eq_true rfl) dX3_isSame_147 ⟨(by omega : _ ≤ 0), (by omega : _ ≤ 0)⟩ rfl ?_
              refine lv_iconst (v := 3) hx hb dX3_isSame_150 (by decide) ?_
              have J159 : W p l e ({ frames := 4, cells := 0, slots := 0, locals := 87 } : Room) s m args below meth c s.heap [] 0 0 Q (F0 m 159 ls [.int (if xSt n f j = true then 1 else 0), .int (if xSt n f j = true then 1 else 0)]) := by
                skip
                refine lv_icmp_ne (tgt := 173) hx hb dX3_isSame_159 (by decide) (fun c => absurd (rfl) c) (fun _ => ?_)
                refine lv_aload_n hx hb dX3_isSame_162 rfl (lv_at hl 6 rfl) ?_
                refine lv_iload hx hb dX3_isSame_163 (lv_at hl 8 rfl) ?_
                refine xVR (q0 := 0) (ci := 2) (As := [.int (nI j)]) (rest := []) (stk := [.int (xTlt n f j)]) ⟨hx, hb, hml, hown, hts⟩ (c_X2_tilt γ l q0 q1 q2 q3 q4 kc td a1 n f j (by omega) (by omega) (by omega)) (cwV 1 hts gX3_isSame_X2_tilt rfl rfl rfl hdv_X2_tilt ⟨(Nat.le_of_ble_eq_true rfl), (Nat.le_of_ble_eq_true rfl)⟩) hK hP [0, 1, 2] rfl rfl rfl rfl hl.1 rfl (Nat.le_of_ble_eq_true rfl) dX3_isSame_165 ⟨(by omega : _ ≤ 0), (by omega : _ ≤ 0)⟩ rfl ?_
                refine lv_iload hx hb dX3_isSame_168 (lv_at hl 4 rfl) ?_
                refine lv_icmp_eq (tgt := 175) hx hb dX3_isSame_170 (by decide) (fun _ => ?_) (fun c => absurd (rfl) c)
                refine lv_iinc (v := nI j - 1) (lv' := [(7, .int (nI j - 1)), (6, .int (nI (xDn (xRH f) n (d + 1)))), (5, .int (nI (xDn (xRB n f) n (d + 1)))), (4, .int (nI (xCn (xLv n f) n (d + 1)))), (3, .int (nI (xCn (xSt n f) n (d + 1)))), (8, .int (xTlt n f j)), (0, .ref s0), (1, .ref q0), (2, .int (nI n))]) hx hb dX3_isSame_175 hl (k := 8) rfl (xm1 _) (by decide) rfl (fun ls hl => ?_)
                refine lv_goto (tgt := 26) hx hb dX3_isSame_178 (by decide) ?_
                exact ih26 (d + 1) (by omega) ls (lv_sub hl [6, 7, 8, 4, 3, 2, 1, 0] rfl)
              refine lv_icmp_le (tgt := 158) hx hb dX3_isSame_151 (by decide) (fun c151 => ?_) (fun c151 => ?_)
              · refine lv_iconst (v := 0) hx hb dX3_isSame_158 (by decide) ?_
                exact x_top (y := if xSt n f j = true then 1 else 0) (xB_0 (xSt_f c151)) J159
              · refine lv_iconst (v := 1) hx hb dX3_isSame_154 (by decide) ?_
                refine lv_goto (tgt := 159) hx hb dX3_isSame_155 (by decide) ?_
                exact x_top (y := if xSt n f j = true then 1 else 0) (xB_1 (xSt_t c151)) J159
        refine lv_if_ne (tgt := 72) hx hb dX3_isSame_65 (by decide) (fun c65 => ?_) (fun c65 => ?_)
        · refine lv_iconst (v := 0) hx hb dX3_isSame_72 (by decide) ?_
          exact x_top (y := if xLv n f j = true then 1 else 0) (xB_0 (xLv_f c65)) J73
        · refine lv_iconst (v := 1) hx hb dX3_isSame_68 (by decide) ?_
          refine lv_goto (tgt := 73) hx hb dX3_isSame_69 (by decide) ?_
          exact x_top (y := if xLv n f j = true then 1 else 0) (xB_1 (xLv_t c65)) J73
      refine lv_icmp_le (tgt := 58) hx hb dX3_isSame_51 (by decide) (fun c51 => ?_) (fun c51 => ?_)
      · refine lv_iconst (v := 0) hx hb dX3_isSame_58 (by decide) ?_
        exact x_top (y := if xSt n f j = true then 1 else 0) (xB_0 (xSt_f c51)) J59
      · refine lv_iconst (v := 1) hx hb dX3_isSame_54 (by decide) ?_
        refine lv_goto (tgt := 59) hx hb dX3_isSame_55 (by decide) ?_
        exact x_top (y := if xSt n f j = true then 1 else 0) (xB_1 (xSt_t c51)) J59
  exact loop26 n 0 (by omega) ls (lv_sub hl [6, 7, 5, 4, 3, 2, 1, 0] rfl)

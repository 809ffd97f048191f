/-! what the law does to both, case by case (rows laid by wip/p38/spec_act.py) -/
theorem wdL_below_c7 : Cond.constant RL 7 (2147483647) ∈ wsL_below := by decide +kernel
set_option maxHeartbeats 4000000 in
set_option maxRecDepth 100000 in
theorem c_L_below (γ : xG) (l : Launch) (v : Int32) (N9 : Nat) (hN : 0 < N9) (hN2 : N9 < 2 ^ 31) : xR γ l yL_below wsL_below ({ frames := 0, cells := 0, slots := 0, locals := 0 } : Room) [.int v, .int (nI N9)] ([]) (some (.int (nI (xBl v N9)))) := by
  refine xR.of (cc := cL_below) (maxL := 2) (ret := (some .int)) (by decide +kernel) rfl (Nat.le_of_ble_eq_true rfl) ?_
  intro p e s m below meth c hx hb hr hml hts hown hlocks hP hK ls hl
  generalize hargs : ([.int v, .int (nI N9)] : List Value).toArray = args at hts ⊢
  obtain ⟨Q, hQ⟩ : ∃ Q9, Q9 = MQ below (xRQ (some (.int (nI (xBl v N9))))) args s 0 0 (fun _ => False) := ⟨_, rfl⟩
  rw [← hQ]
  have hown : s.vm.findClass RL = some m.cls := hown
  have hl : lv_has ls 2 [(0, .int v), (1, .int (nI N9))] := hl
  refine lv_iload_n hx hb dL_below_0 rfl (lv_at hl 0 rfl) ?_
  refine lv_ldc hx hb hown (hts _ wdL_below_c7) dL_below_1 ?_
  refine lv_iand hx hb dL_below_3 ?_
  refine lv_iload_n hx hb dL_below_4 rfl (lv_at hl 1 rfl) ?_
  refine lv_irem hx hb dL_below_5 (nI_ne0 (by omega) (by omega)) ?_
  subst hQ
  exact xR_i hx hb hr hlocks dL_below_6 (xBl_v hN hN2)

theorem hds_L_below : yL_below.cls ≠ "java/lang/invoke/MethodHandle" ∧ yL_below.cls ≠ "java/lang/invoke/VarHandle" ∧ (parseMethodDescriptor yL_below.desc).map (fun d => d.parameters.length) = some 2 := by decide +kernel
theorem hdv_X2_lay : yX2_lay.cls = RX2 ∧ yX2_lay.cls ≠ "java/lang/invoke/MethodHandle" ∧ yX2_lay.cls ≠ "java/lang/invoke/VarHandle" ∧ (parseMethodDescriptor yX2_lay.desc).map (fun d => d.parameters.length) = some 1 := by decide +kernel
theorem wdL_act_naint : Cond.arrayClass .int ∈ wsL_act := by decide +kernel
theorem flL_act_9 : Cond.fieldLink RL 9 "RingSeesawLaw$Sim" "ring" "[I" ∈ wsL_act := by decide +kernel
theorem iwL_act_3 : ∀ w ∈ wsX30, w ∈ wsL_act := by decide +kernel
theorem wdL_act_n21a : Cond.classLink RL 21 "[I" ∈ wsL_act := by decide +kernel
theorem flL_act_22 : Cond.fieldLink RL 22 "RingSeesawLaw$Sim" "targets" "[[I" ∈ wsL_act := by decide +kernel
set_option maxHeartbeats 8000000 in
set_option maxRecDepth 100000 in
theorem xact_lay {p : Program} {l : Launch} {e : Env} {s : State} {m : MethodId} {args : Array Value} {below : List Frame} {meth : Method} {c : Code} (hlt : l.stackTraces = false) (hx : p.tables.exec = Jvm.exec) (hb : c.code = cL_act) (hr : meth.sig.returnType = some .boolean) (hml : c.maxLocals = 8) (hts : ∀ w ∈ wsL_act, w.before args s = true) (hown : s.vm.findClass RL = some m.cls) (hlocks : meth.locks = false) (htab : c.exceptionTable.toList = tableOf [(18, 99, 616, 80), (100, 143, 616, 80), (144, 234, 616, 80), (235, 332, 616, 80), (333, 391, 616, 80), (392, 458, 616, 80), (459, 508, 616, 80), (509, 518, 616, 80), (519, 615, 616, 80)]) {γ : xG} (hK : xK γ s) (sa : Nat → Nat) {A : Nat → Prop} (hEv : xEv s) (hEs : xEs sa s) (hEh : xEh A s s.heap) (hAr : xAz s) (hA : ∀ q : Nat, s.heap.size ≤ q → A q) (q0 q1 a1 q2 a2 q3 a3 q4 s0 : Nat) (kq ka : Nat → Nat) (x : Int32) (j : Nat) (hj5 : j < 512) (n kc : Nat) (td tn wn : Int32) (f tf wf : xRow) (ks : Nat → xRow) (kn : Nat → Int32) (r tq : Nat) (ta : Nat → Nat) (hI : xInv j n kc f ks) (hkn : ∀ t, t < kc → kn t = nI n) (hP : xP γ (DWt γ q0 q1 a1 q2 a2 q3 a3 q4 s0 kq ka n kc td tn wn f tf wf ks kn r tq ta) s.heap) (hD : va_D A (DWt γ q0 q1 a1 q2 a2 q3 a3 q4 s0 kq ka n kc td tn wn f tf wf ks kn r tq ta)) (p9 : Nat) (hp9 : p9 < n) (ls : Array Slot) (hl : lv_has ls 8 [(0, .ref q0), (1, .ref s0), (2, .int x), (3, .int (nI n)), (4, .int (nI p9)), (5, .int 1)]) : W p l e ({ frames := 8, cells := 203, slots := 2700, locals := 140 } : Room) s m args below meth c s.heap [] 0 0 (MQ below (xGQ γ A (xActP γ q0 q1 a1 q2 a2 q3 a3 q4 s0 kq ka (j + 1) (.int 1))) args s 203 2700 A) (F0 m 88 ls []) := by
  obtain ⟨Q, hQ⟩ : ∃ Q9, Q9 = MQ below (xGQ γ A (xActP γ q0 q1 a1 q2 a2 q3 a3 q4 s0 kq ka (j + 1) (.int 1))) args s 203 2700 A := ⟨_, rfl⟩
  rw [← hQ]
  have hn0 := hI.1
  have hn1 := hI.2.1
  have hkc := hI.2.2.1
  have hP : xP γ (([xO q0 2 [.ref q1, .ref q4, .int (nI kc), .int td, .ref q2, .ref q3], xO q1 0 [.ref a1, .int (nI n)], xA γ a1 12 f, xO q2 0 [.ref a2, .int tn], xA γ a2 12 tf, xO q3 1 [.ref a3, .int wn], xA γ a3 12 wf, xQ γ q4 6 (fun t9 => some (kq t9))] ++ xKp γ kq ka kn ks) ++ ([xO s0 3 [.ref r, .ref tq, .int td], xA γ r n f, xT γ tq kc (fun t9 => some (ta t9))] ++ xTs γ ta n ks kc)) s.heap := hP
  have hD : va_D A (([xO q0 2 [.ref q1, .ref q4, .int (nI kc), .int td, .ref q2, .ref q3], xO q1 0 [.ref a1, .int (nI n)], xA γ a1 12 f, xO q2 0 [.ref a2, .int tn], xA γ a2 12 tf, xO q3 1 [.ref a3, .int wn], xA γ a3 12 wf, xQ γ q4 6 (fun t9 => some (kq t9))] ++ xKp γ kq ka kn ks) ++ ([xO s0 3 [.ref r, .ref tq, .int td], xA γ r n f, xT γ tq kc (fun t9 => some (ta t9))] ++ xTs γ ta n ks kc)) := hD
  have hS : va_S A s.heap s.heap [] := va_S.rf
  refine lv_iload_n hx hb dL_act_88 rfl (lv_at hl 2 rfl) ?_
  refine lv_iconst (v := 5) hx hb dL_act_89 (by decide) ?_
  refine lv_ishr hx hb dL_act_90 ?_
  refine lv_iconst (v := 4) hx hb dL_act_91 (by decide) ?_
  refine xSR (As := [.int (x >>> (5 &&& 31)), .int 4]) (rest := []) (stk := [.int (nI (xBl (x >>> (5 &&& 31)) 4))]) ⟨hx, hb, hml, hown, hts⟩ (c_L_below γ l (x >>> (5 &&& 31)) 4 (by omega) (by omega)) (va_cwS 2 hts gL_act_L_below rfl rfl rfl hds_L_below ⟨(Nat.le_of_ble_eq_true rfl), (Nat.le_of_ble_eq_true rfl)⟩) hK hP [] rfl  rfl hl.1 rfl (Nat.le_of_ble_eq_true rfl) dL_act_92 ⟨(by omega : _ ≤ 203), (by omega : _ ≤ 2700)⟩ rfl ?_
  refine lv_if_le (tgt := 100) hx hb dL_act_95 (by decide) (fun c95 => ?_) (fun c95 => ?_)
  · have hk4 : xBl (x >>> (4 &&& 31)) 10 < 10 := xBl_lt (by omega)
    refine lv_iconst (v := 3) hx hb dL_act_100 (by decide) ?_
    refine lv_iload_n hx hb dL_act_101 rfl (lv_at hl 2 rfl) ?_
    refine lv_iconst (v := 4) hx hb dL_act_102 (by decide) ?_
    refine lv_ishr hx hb dL_act_103 ?_
    refine lv_bipush (v := 10) hx hb dL_act_104 (by decide) ?_
    refine xSR (As := [.int (x >>> (4 &&& 31)), .int 10]) (rest := [.int 3]) (stk := [.int (nI (xBl (x >>> (4 &&& 31)) 10)), .int 3]) ⟨hx, hb, hml, hown, hts⟩ (c_L_below γ l (x >>> (4 &&& 31)) 10 (by omega) (by omega)) (va_cwS 2 hts gL_act_L_below rfl rfl rfl hds_L_below ⟨(Nat.le_of_ble_eq_true rfl), (Nat.le_of_ble_eq_true rfl)⟩) hK hP [] rfl  rfl hl.1 rfl (Nat.le_of_ble_eq_true rfl) dL_act_106 ⟨(by omega : _ ≤ 203), (by omega : _ ≤ 2700)⟩ rfl ?_
    refine lv_iadd hx hb dL_act_109 ?_
    refine x_top (y := nI (3 + xBl (x >>> (4 &&& 31)) 10)) (nI_add 3 _) ?_
    refine lv_istore (lv' := [(6, .int (nI (3 + xBl (x >>> (4 &&& 31)) 10))), (0, .ref q0), (1, .ref s0), (2, .int x), (3, .int (nI n)), (4, .int (nI p9)), (5, .int 1)]) hx hb dL_act_110 hl (by decide) rfl (fun ls hl => ?_)
    refine lv_aload_n hx hb dL_act_112 rfl (lv_at hl 2 rfl) ?_
    refine lv_iload hx hb dL_act_113 (lv_at hl 0 rfl) ?_
    refine x_newI hx hb (hts _ wdL_act_naint) hK hP hD hS hA (3 + xBl (x >>> (4 &&& 31)) 10) (nI_pos (by omega)) (nI_clamp (by omega)) (show (3 + xBl (x >>> (4 &&& 31)) 10) * 4 ≤ 536870912 by omega) (by omega : _ ≤ 203) (by omega : _ ≤ 2700) dL_act_115 (fun q115x H hP hD hS => ?_)
    have hP := xmvP2 hP
    have hD := xmvD2 hD
    have hP : xP γ (([xO q0 2 [.ref q1, .ref q4, .int (nI kc), .int td, .ref q2, .ref q3], xO q1 0 [.ref a1, .int (nI n)], xA γ a1 12 f, xO q2 0 [.ref a2, .int tn], xA γ a2 12 tf, xO q3 1 [.ref a3, .int wn], xA γ a3 12 wf, xQ γ q4 6 (fun t9 => some (kq t9))] ++ xKp γ kq ka kn ks) ++ ([xO s0 3 [.ref r, .ref tq, .int td], xA γ r n f, xT γ tq kc (fun t9 => some (ta t9)), xA γ q115x (3 + xBl (x >>> (4 &&& 31)) 10) (fun _ => 0)] ++ xTs γ ta n ks kc)) H := hP
    have hD : va_D A (([xO q0 2 [.ref q1, .ref q4, .int (nI kc), .int td, .ref q2, .ref q3], xO q1 0 [.ref a1, .int (nI n)], xA γ a1 12 f, xO q2 0 [.ref a2, .int tn], xA γ a2 12 tf, xO q3 1 [.ref a3, .int wn], xA γ a3 12 wf, xQ γ q4 6 (fun t9 => some (kq t9))] ++ xKp γ kq ka kn ks) ++ ([xO s0 3 [.ref r, .ref tq, .int td], xA γ r n f, xT γ tq kc (fun t9 => some (ta t9)), xA γ q115x (3 + xBl (x >>> (4 &&& 31)) 10) (fun _ => 0)] ++ xTs γ ta n ks kc)) := hD
    refine va_put (D := γ.1) (ci := 3) (v := .ref q115x) (ty := .array .int) (C := RX3) (T := TX3) (N := 3) hx hb hts iwL_act_3 tyX3 tyX3_ok nmX3 hown hK hP hD hS 20 rfl rfl 0 (by decide) (hts _ flL_act_9) (fun _ h9 => h9) rfl (by decide +kernel) rfl rfl (Nat.le_of_ble_eq_true rfl) dL_act_117 (fun H locs hP hD hS => ?_)
    have hP : xP γ (([xO q0 2 [.ref q1, .ref q4, .int (nI kc), .int td, .ref q2, .ref q3], xO q1 0 [.ref a1, .int (nI n)], xA γ a1 12 f, xO q2 0 [.ref a2, .int tn], xA γ a2 12 tf, xO q3 1 [.ref a3, .int wn], xA γ a3 12 wf, xQ γ q4 6 (fun t9 => some (kq t9))] ++ xKp γ kq ka kn ks) ++ ([xO s0 3 [.ref q115x, .ref tq, .int td], xA γ r n f, xT γ tq kc (fun t9 => some (ta t9)), xA γ q115x (3 + xBl (x >>> (4 &&& 31)) 10) (fun _ => 0)] ++ xTs γ ta n ks kc)) H := hP
    have hD : va_D A (([xO q0 2 [.ref q1, .ref q4, .int (nI kc), .int td, .ref q2, .ref q3], xO q1 0 [.ref a1, .int (nI n)], xA γ a1 12 f, xO q2 0 [.ref a2, .int tn], xA γ a2 12 tf, xO q3 1 [.ref a3, .int wn], xA γ a3 12 wf, xQ γ q4 6 (fun t9 => some (kq t9))] ++ xKp γ kq ka kn ks) ++ ([xO s0 3 [.ref q115x, .ref tq, .int td], xA γ r n f, xT γ tq kc (fun t9 => some (ta t9)), xA γ q115x (3 + xBl (x >>> (4 &&& 31)) 10) (fun _ => 0)] ++ xTs γ ta n ks kc)) := hD
    refine lv_aload_n hx hb dL_act_120 rfl (lv_at hl 2 rfl) ?_
    refine lv_iconst (v := 0) hx hb dL_act_121 (by decide) ?_
    refine x_newT hx hb hown (hts _ wdL_act_n21a) hAr.2 hK hP hD hS hA 0 (by decide) (by decide) (by decide) (by omega : _ ≤ 203) (by omega : _ ≤ 2700) dL_act_122 (fun q122x H hP hD hS => ?_)
    have hP := xmvP2 hP
    have hD := xmvD2 hD
    have hP : xP γ (([xO q0 2 [.ref q1, .ref q4, .int (nI kc), .int td, .ref q2, .ref q3], xO q1 0 [.ref a1, .int (nI n)], xA γ a1 12 f, xO q2 0 [.ref a2, .int tn], xA γ a2 12 tf, xO q3 1 [.ref a3, .int wn], xA γ a3 12 wf, xQ γ q4 6 (fun t9 => some (kq t9))] ++ xKp γ kq ka kn ks) ++ ([xO s0 3 [.ref q115x, .ref tq, .int td], xA γ r n f, xT γ tq kc (fun t9 => some (ta t9)), xA γ q115x (3 + xBl (x >>> (4 &&& 31)) 10) (fun _ => 0), xT γ q122x 0 (fun _ => none)] ++ xTs γ ta n ks kc)) H := hP
    have hD : va_D A (([xO q0 2 [.ref q1, .ref q4, .int (nI kc), .int td, .ref q2, .ref q3], xO q1 0 [.ref a1, .int (nI n)], xA γ a1 12 f, xO q2 0 [.ref a2, .int tn], xA γ a2 12 tf, xO q3 1 [.ref a3, .int wn], xA γ a3 12 wf, xQ γ q4 6 (fun t9 => some (kq t9))] ++ xKp γ kq ka kn ks) ++ ([xO s0 3 [.ref q115x, .ref tq, .int td], xA γ r n f, xT γ tq kc (fun t9 => some (ta t9)), xA γ q115x (3 + xBl (x >>> (4 &&& 31)) 10) (fun _ => 0), xT γ q122x 0 (fun _ => none)] ++ xTs γ ta n ks kc)) := hD
    refine va_put (D := γ.1) (ci := 3) (v := .ref q122x) (ty := .array (.array .int)) (C := RX3) (T := TX3) (N := 3) hx hb hts iwL_act_3 tyX3 tyX3_ok nmX3 hown hK hP hD hS 20 rfl rfl 1 (by decide) (hts _ flL_act_22) (fun _ h9 => h9) rfl (by decide +kernel) rfl rfl (Nat.le_of_ble_eq_true rfl) dL_act_125 (fun H locs hP hD hS => ?_)
    have hP : xP γ (([xO q0 2 [.ref q1, .ref q4, .int (nI kc), .int td, .ref q2, .ref q3], xO q1 0 [.ref a1, .int (nI n)], xA γ a1 12 f, xO q2 0 [.ref a2, .int tn], xA γ a2 12 tf, xO q3 1 [.ref a3, .int wn], xA γ a3 12 wf, xQ γ q4 6 (fun t9 => some (kq t9))] ++ xKp γ kq ka kn ks) ++ ([xO s0 3 [.ref q115x, .ref q122x, .int td], xA γ r n f, xT γ tq kc (fun t9 => some (ta t9)), xA γ q115x (3 + xBl (x >>> (4 &&& 31)) 10) (fun _ => 0), xT γ q122x 0 (fun _ => none)] ++ xTs γ ta n ks kc)) H := hP
    have hD : va_D A (([xO q0 2 [.ref q1, .ref q4, .int (nI kc), .int td, .ref q2, .ref q3], xO q1 0 [.ref a1, .int (nI n)], xA γ a1 12 f, xO q2 0 [.ref a2, .int tn], xA γ a2 12 tf, xO q3 1 [.ref a3, .int wn], xA γ a3 12 wf, xQ γ q4 6 (fun t9 => some (kq t9))] ++ xKp γ kq ka kn ks) ++ ([xO s0 3 [.ref q115x, .ref q122x, .int td], xA γ r n f, xT γ tq kc (fun t9 => some (ta t9)), xA γ q115x (3 + xBl (x >>> (4 &&& 31)) 10) (fun _ => 0), xT γ q122x 0 (fun _ => none)] ++ xTs γ ta n ks kc)) := hD
    refine lv_aload_n hx hb dL_act_128 rfl (lv_at hl 1 rfl) ?_
    refine lv_iload hx hb dL_act_129 (lv_at hl 0 rfl) ?_
    refine xVM (q0 := 0) (ci := 2) (As := [.int (nI (3 + xBl (x >>> (4 &&& 31)) 10))]) (rest := []) ⟨hx, hb, hml, hown, hts⟩ (c_X2_lay γ l q0 q1 q2 q3 q4 kc td a1 n f (3 + xBl (x >>> (4 &&& 31)) 10) (by omega) (by omega) (by omega) (by omega)) (cwV 1 hts gL_act_X2_lay rfl rfl rfl hdv_X2_lay ⟨(Nat.le_of_ble_eq_true rfl), (Nat.le_of_ble_eq_true rfl)⟩) hK hP hD hS hA [0, 1, 2] rfl rfl rfl rfl rfl hl.1 rfl (Nat.le_of_ble_eq_true rfl) dL_act_131 ⟨(by omega : _ ≤ 203), (by omega : _ ≤ 2700)⟩ (fun r9 w9 H locs hw hP hD hS => ?_)
    obtain ⟨rfl, rfl⟩ := hw
    have hP : xP γ (([xO q0 2 [.ref q1, .ref q4, .int (nI 0), .int td, .ref q2, .ref q3], xO q1 0 [.ref a1, .int (nI (3 + xBl (x >>> (4 &&& 31)) 10))], xA γ a1 12 (fun _ => 0), xO q2 0 [.ref a2, .int tn], xA γ a2 12 tf, xO q3 1 [.ref a3, .int wn], xA γ a3 12 wf, xQ γ q4 6 (fun t9 => some (kq t9))] ++ xKp γ kq ka kn ks) ++ ([xO s0 3 [.ref q115x, .ref q122x, .int td], xA γ r n f, xT γ tq kc (fun t9 => some (ta t9)), xA γ q115x (3 + xBl (x >>> (4 &&& 31)) 10) (fun _ => 0), xT γ q122x 0 (fun _ => none)] ++ xTs γ ta n ks kc)) H := hP
    have hD : va_D A (([xO q0 2 [.ref q1, .ref q4, .int (nI 0), .int td, .ref q2, .ref q3], xO q1 0 [.ref a1, .int (nI (3 + xBl (x >>> (4 &&& 31)) 10))], xA γ a1 12 (fun _ => 0), xO q2 0 [.ref a2, .int tn], xA γ a2 12 tf, xO q3 1 [.ref a3, .int wn], xA γ a3 12 wf, xQ γ q4 6 (fun t9 => some (kq t9))] ++ xKp γ kq ka kn ks) ++ ([xO s0 3 [.ref q115x, .ref q122x, .int td], xA γ r n f, xT γ tq kc (fun t9 => some (ta t9)), xA γ q115x (3 + xBl (x >>> (4 &&& 31)) 10) (fun _ => 0), xT γ q122x 0 (fun _ => none)] ++ xTs γ ta n ks kc)) := hD
    refine W.eq (g2 := F0 m 134 ls [.int (nI n)]) rfl ?_
    refine lv_iload_n hx hb dL_act_134 rfl (lv_at hl 4 rfl) ?_
    refine lv_icmp_ne (tgt := 142) hx hb dL_act_135 (by decide) (fun c => absurd (rfl) c) (fun _ => ?_)
    refine lv_iconst (v := 1) hx hb dL_act_138 (by decide) ?_
    refine lv_goto (tgt := 143) hx hb dL_act_139 (by decide) ?_
    have hPD := xre (C := [xO q0 2 [.ref q1, .ref q4, .int (nI 0), .int td, .ref q2, .ref q3], xO q1 0 [.ref a1, .int (nI (3 + xBl (x >>> (4 &&& 31)) 10))], xA γ a1 12 (fun _ => 0), xO q2 0 [.ref a2, .int tn], xA γ a2 12 tf, xO q3 1 [.ref a3, .int wn], xA γ a3 12 wf, xQ γ q4 6 (fun t9 => some (kq t9))] ++ xKp γ kq ka kn ks) (E := [xO s0 3 [.ref q115x, .ref q122x, .int td], xA γ r n f, xT γ tq kc (fun t9 => some (ta t9)), xA γ q115x (3 + xBl (x >>> (4 &&& 31)) 10) (fun _ => 0), xT γ q122x 0 (fun _ => none)]) (E2 := [xO s0 3 [.ref q115x, .ref q122x, .int td], xA γ q115x (3 + xBl (x >>> (4 &&& 31)) 10) (fun _ => 0), xT γ q122x 0 (fun _ => none)]) (T := xTs γ ta n ks kc) [0, 3, 4] rfl rfl hP hD
    have hP := hPD.1
    have hD := hPD.2
    have hPD := xdropT hP hD
    have hP := hPD.1
    have hD := hPD.2
    have hP := xT_row hP 22 rfl (fun t9 => some (ta t9)) (fun i hi => absurd hi (Nat.not_lt_zero i))
    have hD := xD_row (e := (xT γ q122x 0 (fun t9 => some (ta t9))).2) hD 22 rfl
    have hP : xP γ (([xO q0 2 [.ref q1, .ref q4, .int (nI 0), .int td, .ref q2, .ref q3], xO q1 0 [.ref a1, .int (nI (3 + xBl (x >>> (4 &&& 31)) 10))], xA γ a1 12 (fun _ => 0), xO q2 0 [.ref a2, .int tn], xA γ a2 12 tf, xO q3 1 [.ref a3, .int wn], xA γ a3 12 wf, xQ γ q4 6 (fun t9 => some (kq t9))] ++ xKp γ kq ka kn ks) ++ ([xO s0 3 [.ref q115x, .ref q122x, .int td], xA γ q115x (3 + xBl (x >>> (4 &&& 31)) 10) (fun _ => 0), xT γ q122x 0 (fun t9 => some (ta t9))] ++ xTs γ ta (3 + xBl (x >>> (4 &&& 31)) 10) ks 0)) H := hP
    have hD : va_D A (([xO q0 2 [.ref q1, .ref q4, .int (nI 0), .int td, .ref q2, .ref q3], xO q1 0 [.ref a1, .int (nI (3 + xBl (x >>> (4 &&& 31)) 10))], xA γ a1 12 (fun _ => 0), xO q2 0 [.ref a2, .int tn], xA γ a2 12 tf, xO q3 1 [.ref a3, .int wn], xA γ a3 12 wf, xQ γ q4 6 (fun t9 => some (kq t9))] ++ xKp γ kq ka kn ks) ++ ([xO s0 3 [.ref q115x, .ref q122x, .int td], xA γ q115x (3 + xBl (x >>> (4 &&& 31)) 10) (fun _ => 0), xT γ q122x 0 (fun t9 => some (ta t9))] ++ xTs γ ta (3 + xBl (x >>> (4 &&& 31)) 10) ks 0)) := hD
    subst hQ
    exact xG_z hx hb hr hlocks dL_act_143 (Or.inr rfl) hP hD hS (by omega : _ ≤ 203) (by omega : _ ≤ 2700) (⟨rfl, 3 + xBl (x >>> (4 &&& 31)) 10, 0, td, tn, wn, fun _ => 0, tf, wf, ks, kn, q115x, q122x, ta, hI.lay hj5 (by omega) (by omega), (fun t h => absurd h (Nat.not_lt_zero t)), rfl⟩)
  · skip
    refine lv_iconst (v := 1) hx hb dL_act_98 (by decide) ?_
    subst hQ
    exact xG_z hx hb hr hlocks dL_act_99 (Or.inr rfl) hP hD hS (by omega : _ ≤ 203) (by omega : _ ≤ 2700) (⟨rfl, n, kc, td, tn, wn, f, tf, wf, ks, kn, r, tq, ta, hI.same hj5, hkn, rfl⟩)

theorem hdv_X2_put : yX2_put.cls = RX2 ∧ yX2_put.cls ≠ "java/lang/invoke/MethodHandle" ∧ yX2_put.cls ≠ "java/lang/invoke/VarHandle" ∧ (parseMethodDescriptor yX2_put.desc).map (fun d => d.parameters.length) = some 2 := by decide +kernel
theorem wdL_act_cl1_32 : Cond.methodLink RL 32 ⟨"[I", "clone", "()Ljava/lang/Object;"⟩ ∈ wsL_act := by decide +kernel
theorem wdL_act_cl2 : Cond.sameMethod "[I" "java/lang/Object" "clone" "()Ljava/lang/Object;" ∈ wsL_act := by decide +kernel
theorem wdL_act_cl3 : Cond.native ⟨"java/lang/Object", "clone", "()Ljava/lang/Object;"⟩ ∈ wsL_act := by decide +kernel
theorem wdL_act_cl4 : Cond.instanceMethod ⟨"java/lang/Object", "clone", "()Ljava/lang/Object;"⟩ ∈ wsL_act := by decide +kernel
theorem wdL_act_cl5 : Cond.selects "[I" ⟨"[I", "clone", "()Ljava/lang/Object;"⟩ ⟨"java/lang/Object", "clone", "()Ljava/lang/Object;"⟩ ∈ wsL_act := by decide +kernel
set_option maxHeartbeats 8000000 in
set_option maxRecDepth 100000 in
theorem xact_put {p : Program} {l : Launch} {e : Env} {s : State} {m : MethodId} {args : Array Value} {below : List Frame} {meth : Method} {c : Code} (hlt : l.stackTraces = false) (hx : p.tables.exec = Jvm.exec) (hb : c.code = cL_act) (hr : meth.sig.returnType = some .boolean) (hml : c.maxLocals = 8) (hts : ∀ w ∈ wsL_act, w.before args s = true) (hown : s.vm.findClass RL = some m.cls) (hlocks : meth.locks = false) (htab : c.exceptionTable.toList = tableOf [(18, 99, 616, 80), (100, 143, 616, 80), (144, 234, 616, 80), (235, 332, 616, 80), (333, 391, 616, 80), (392, 458, 616, 80), (459, 508, 616, 80), (509, 518, 616, 80), (519, 615, 616, 80)]) {γ : xG} (hK : xK γ s) (sa : Nat → Nat) {A : Nat → Prop} (hEv : xEv s) (hEs : xEs sa s) (hEh : xEh A s s.heap) (hAr : xAz s) (hA : ∀ q : Nat, s.heap.size ≤ q → A q) (q0 q1 a1 q2 a2 q3 a3 q4 s0 : Nat) (kq ka : Nat → Nat) (x : Int32) (j : Nat) (hj5 : j < 512) (n kc : Nat) (td tn wn : Int32) (f tf wf : xRow) (ks : Nat → xRow) (kn : Nat → Int32) (r tq : Nat) (ta : Nat → Nat) (hI : xInv j n kc f ks) (hkn : ∀ t, t < kc → kn t = nI n) (hP : xP γ (DWt γ q0 q1 a1 q2 a2 q3 a3 q4 s0 kq ka n kc td tn wn f tf wf ks kn r tq ta) s.heap) (hD : va_D A (DWt γ q0 q1 a1 q2 a2 q3 a3 q4 s0 kq ka n kc td tn wn f tf wf ks kn r tq ta)) (p9 : Nat) (hp9 : p9 < n) (ls : Array Slot) (hl : lv_has ls 8 [(0, .ref q0), (1, .ref s0), (2, .int x), (3, .int (nI n)), (4, .int (nI p9)), (5, .int 1)]) : W p l e ({ frames := 8, cells := 203, slots := 2700, locals := 140 } : Room) s m args below meth c s.heap [] 0 0 (MQ below (xGQ γ A (xActP γ q0 q1 a1 q2 a2 q3 a3 q4 s0 kq ka (j + 1) (.int 1))) args s 203 2700 A) (F0 m 144 ls []) := by
  obtain ⟨Q, hQ⟩ : ∃ Q9, Q9 = MQ below (xGQ γ A (xActP γ q0 q1 a1 q2 a2 q3 a3 q4 s0 kq ka (j + 1) (.int 1))) args s 203 2700 A := ⟨_, rfl⟩
  rw [← hQ]
  have hn0 := hI.1
  have hn1 := hI.2.1
  have hkc := hI.2.2.1
  have hP : xP γ (([xO q0 2 [.ref q1, .ref q4, .int (nI kc), .int td, .ref q2, .ref q3], xO q1 0 [.ref a1, .int (nI n)], xA γ a1 12 f, xO q2 0 [.ref a2, .int tn], xA γ a2 12 tf, xO q3 1 [.ref a3, .int wn], xA γ a3 12 wf, xQ γ q4 6 (fun t9 => some (kq t9))] ++ xKp γ kq ka kn ks) ++ ([xO s0 3 [.ref r, .ref tq, .int td], xA γ r n f, xT γ tq kc (fun t9 => some (ta t9))] ++ xTs γ ta n ks kc)) s.heap := hP
  have hD : va_D A (([xO q0 2 [.ref q1, .ref q4, .int (nI kc), .int td, .ref q2, .ref q3], xO q1 0 [.ref a1, .int (nI n)], xA γ a1 12 f, xO q2 0 [.ref a2, .int tn], xA γ a2 12 tf, xO q3 1 [.ref a3, .int wn], xA γ a3 12 wf, xQ γ q4 6 (fun t9 => some (kq t9))] ++ xKp γ kq ka kn ks) ++ ([xO s0 3 [.ref r, .ref tq, .int td], xA γ r n f, xT γ tq kc (fun t9 => some (ta t9))] ++ xTs γ ta n ks kc)) := hD
  have hS : va_S A s.heap s.heap [] := va_S.rf
  refine lv_aload_n hx hb dL_act_144 rfl (lv_at hl 1 rfl) ?_
  refine va_get (D := γ.1) (ci := 3) (v := .ref r) (C := RX3) (T := TX3) (N := 3) hx hb hts iwL_act_3 hown hK hP 20 rfl rfl 0 (by decide) (hts _ flL_act_9) (fun _ h9 => h9) rfl dL_act_145 ?_
  refine lv_iload hx hb dL_act_148 (lv_at hl 4 rfl) ?_
  refine x_iald (f := f) hx hb hK hP 21 rfl p9 rfl (by omega) (by omega) dL_act_150 ?_
  refine lv_istore (lv' := [(6, .int (f p9)), (0, .ref q0), (1, .ref s0), (2, .int x), (3, .int (nI n)), (4, .int (nI p9)), (5, .int 1)]) hx hb dL_act_151 hl (by decide) rfl (fun ls hl => ?_)
  refine lv_iload_n hx hb dL_act_153 rfl (lv_at hl 3 rfl) ?_
  refine lv_bipush (v := 7) hx hb dL_act_154 (by decide) ?_
  refine lv_ishr hx hb dL_act_156 ?_
  refine lv_iconst (v := 3) hx hb dL_act_157 (by decide) ?_
  refine xSR (As := [.int (x >>> (7 &&& 31)), .int 3]) (rest := []) (stk := [.int (nI (xBl (x >>> (7 &&& 31)) 3))]) ⟨hx, hb, hml, hown, hts⟩ (c_L_below γ l (x >>> (7 &&& 31)) 3 (by omega) (by omega)) (va_cwS 2 hts gL_act_L_below rfl rfl rfl hds_L_below ⟨(Nat.le_of_ble_eq_true rfl), (Nat.le_of_ble_eq_true rfl)⟩) hK hP [] rfl  rfl hl.1 rfl (Nat.le_of_ble_eq_true rfl) dL_act_158 ⟨(by omega : _ ≤ 203), (by omega : _ ≤ 2700)⟩ rfl ?_
  refine lv_if_ne (tgt := 180) hx hb dL_act_161 (by decide) (fun c161 => ?_) (fun c161 => ?_)
  · refine lv_iload_n hx hb dL_act_180 rfl (lv_at hl 3 rfl) ?_
    refine lv_iconst (v := 5) hx hb dL_act_181 (by decide) ?_
    refine lv_ishr hx hb dL_act_182 ?_
    refine lv_bipush (v := 31) hx hb dL_act_183 (by decide) ?_
    refine xSR (As := [.int (x >>> (5 &&& 31)), .int 31]) (rest := []) (stk := [.int (nI (xBl (x >>> (5 &&& 31)) 31))]) ⟨hx, hb, hml, hown, hts⟩ (c_L_below γ l (x >>> (5 &&& 31)) 31 (by omega) (by omega)) (va_cwS 2 hts gL_act_L_below rfl rfl rfl hds_L_below ⟨(Nat.le_of_ble_eq_true rfl), (Nat.le_of_ble_eq_true rfl)⟩) hK hP [] rfl  rfl hl.1 rfl (Nat.le_of_ble_eq_true rfl) dL_act_185 ⟨(by omega : _ ≤ 203), (by omega : _ ≤ 2700)⟩ rfl ?_
    refine lv_bipush (v := 15) hx hb dL_act_188 (by decide) ?_
    refine lv_isub hx hb dL_act_190 ?_
    have hu0 := xnum (k := xBl (x >>> (5 &&& 31)) 31) (a := 15) (xBl_lt (by omega)) (by omega)
    obtain ⟨u9, eu, hu1, hu2⟩ : ∃ u9 : Int32, u9 = (nI (xBl (x >>> (5 &&& 31)) 31)) - 15 ∧ ¬ u9 < (-999) ∧ u9 ≤ 999 := ⟨_, rfl, xnum_le hu0.1 hu0.2 (by decide) (by decide)⟩
    refine x_top (y := u9) eu.symm ?_
    refine lv_istore (lv' := [(7, .int u9), (6, .int (f p9)), (0, .ref q0), (1, .ref s0), (2, .int x), (3, .int (nI n)), (4, .int (nI p9)), (5, .int 1)]) hx hb dL_act_191 hl (by decide) rfl (fun ls hl => ?_)
    refine lv_aload_n hx hb dL_act_193 rfl (lv_at hl 3 rfl) ?_
    refine lv_aload_n hx hb dL_act_194 rfl (lv_at hl 3 rfl) ?_
    refine va_get (D := γ.1) (ci := 3) (v := .ref r) (C := RX3) (T := TX3) (N := 3) hx hb hts iwL_act_3 hown hK hP 20 rfl rfl 0 (by decide) (hts _ flL_act_9) (fun _ h9 => h9) rfl dL_act_195 ?_
    refine x_cloneI hx hb (hml.trans hl.1.symm) hown (hts _ wdL_act_cl1_32) (hts _ wdL_act_cl2) (hts _ wdL_act_cl3) (hts _ wdL_act_cl4) (hts _ wdL_act_cl5) hAr.1 hK hP hD hS hA 21 rfl (Nat.le_of_ble_eq_true rfl) (Nat.le_of_ble_eq_true rfl) (by omega : _ ≤ 203) (by omega : _ ≤ 2700) dL_act_198 (fun q198x H hP hD hS => ?_)
    have hP := xmvP2 hP
    have hD := xmvD2 hD
    have hP : xP γ (([xO q0 2 [.ref q1, .ref q4, .int (nI kc), .int td, .ref q2, .ref q3], xO q1 0 [.ref a1, .int (nI n)], xA γ a1 12 f, xO q2 0 [.ref a2, .int tn], xA γ a2 12 tf, xO q3 1 [.ref a3, .int wn], xA γ a3 12 wf, xQ γ q4 6 (fun t9 => some (kq t9))] ++ xKp γ kq ka kn ks) ++ ([xO s0 3 [.ref r, .ref tq, .int td], xA γ r n f, xT γ tq kc (fun t9 => some (ta t9)), xA γ q198x n f] ++ xTs γ ta n ks kc)) H := hP
    have hD : va_D A (([xO q0 2 [.ref q1, .ref q4, .int (nI kc), .int td, .ref q2, .ref q3], xO q1 0 [.ref a1, .int (nI n)], xA γ a1 12 f, xO q2 0 [.ref a2, .int tn], xA γ a2 12 tf, xO q3 1 [.ref a3, .int wn], xA γ a3 12 wf, xQ γ q4 6 (fun t9 => some (kq t9))] ++ xKp γ kq ka kn ks) ++ ([xO s0 3 [.ref r, .ref tq, .int td], xA γ r n f, xT γ tq kc (fun t9 => some (ta t9)), xA γ q198x n f] ++ xTs γ ta n ks kc)) := hD
    refine x_castI hx hb hown (hts _ wdL_act_n21a) hK hP 23 rfl dL_act_201 ?_
    refine va_put (D := γ.1) (ci := 3) (v := .ref q198x) (ty := .array .int) (C := RX3) (T := TX3) (N := 3) hx hb hts iwL_act_3 tyX3 tyX3_ok nmX3 hown hK hP hD hS 20 rfl rfl 0 (by decide) (hts _ flL_act_9) (fun _ h9 => h9) rfl (by decide +kernel) rfl rfl (Nat.le_of_ble_eq_true rfl) dL_act_204 (fun H locs hP hD hS => ?_)
    have hP : xP γ (([xO q0 2 [.ref q1, .ref q4, .int (nI kc), .int td, .ref q2, .ref q3], xO q1 0 [.ref a1, .int (nI n)], xA γ a1 12 f, xO q2 0 [.ref a2, .int tn], xA γ a2 12 tf, xO q3 1 [.ref a3, .int wn], xA γ a3 12 wf, xQ γ q4 6 (fun t9 => some (kq t9))] ++ xKp γ kq ka kn ks) ++ ([xO s0 3 [.ref q198x, .ref tq, .int td], xA γ r n f, xT γ tq kc (fun t9 => some (ta t9)), xA γ q198x n f] ++ xTs γ ta n ks kc)) H := hP
    have hD : va_D A (([xO q0 2 [.ref q1, .ref q4, .int (nI kc), .int td, .ref q2, .ref q3], xO q1 0 [.ref a1, .int (nI n)], xA γ a1 12 f, xO q2 0 [.ref a2, .int tn], xA γ a2 12 tf, xO q3 1 [.ref a3, .int wn], xA γ a3 12 wf, xQ γ q4 6 (fun t9 => some (kq t9))] ++ xKp γ kq ka kn ks) ++ ([xO s0 3 [.ref q198x, .ref tq, .int td], xA γ r n f, xT γ tq kc (fun t9 => some (ta t9)), xA γ q198x n f] ++ xTs γ ta n ks kc)) := hD
    refine lv_aload_n hx hb dL_act_207 rfl (lv_at hl 3 rfl) ?_
    refine va_get (D := γ.1) (ci := 3) (v := .ref q198x) (C := RX3) (T := TX3) (N := 3) hx hb hts iwL_act_3 hown hK hP 20 rfl rfl 0 (by decide) (hts _ flL_act_9) (fun _ h9 => h9) rfl dL_act_208 ?_
    refine lv_iload hx hb dL_act_211 (lv_at hl 6 rfl) ?_
    refine lv_iload hx hb dL_act_213 (lv_at hl 0 rfl) ?_
    refine x_iast (f := f) hx hb hK hP hD hS 23 rfl p9 rfl (by omega) (by omega) dL_act_215 (fun H locs hP hD hS => ?_)
    have hP : xP γ (([xO q0 2 [.ref q1, .ref q4, .int (nI kc), .int td, .ref q2, .ref q3], xO q1 0 [.ref a1, .int (nI n)], xA γ a1 12 f, xO q2 0 [.ref a2, .int tn], xA γ a2 12 tf, xO q3 1 [.ref a3, .int wn], xA γ a3 12 wf, xQ γ q4 6 (fun t9 => some (kq t9))] ++ xKp γ kq ka kn ks) ++ ([xO s0 3 [.ref q198x, .ref tq, .int td], xA γ r n f, xT γ tq kc (fun t9 => some (ta t9)), xA γ q198x n (upd f p9 u9)] ++ xTs γ ta n ks kc)) H := hP
    have hD : va_D A (([xO q0 2 [.ref q1, .ref q4, .int (nI kc), .int td, .ref q2, .ref q3], xO q1 0 [.ref a1, .int (nI n)], xA γ a1 12 f, xO q2 0 [.ref a2, .int tn], xA γ a2 12 tf, xO q3 1 [.ref a3, .int wn], xA γ a3 12 wf, xQ γ q4 6 (fun t9 => some (kq t9))] ++ xKp γ kq ka kn ks) ++ ([xO s0 3 [.ref q198x, .ref tq, .int td], xA γ r n f, xT γ tq kc (fun t9 => some (ta t9)), xA γ q198x n (upd f p9 u9)] ++ xTs γ ta n ks kc)) := hD
    refine lv_aload_n hx hb dL_act_216 rfl (lv_at hl 2 rfl) ?_
    refine lv_iload hx hb dL_act_217 (lv_at hl 6 rfl) ?_
    refine lv_iload hx hb dL_act_219 (lv_at hl 0 rfl) ?_
    refine xVM (q0 := 0) (ci := 2) (As := [.int (nI p9), .int u9]) (rest := []) ⟨hx, hb, hml, hown, hts⟩ (c_X2_put γ l q0 q1 q2 q3 q4 kc td a1 n f p9 u9 (by omega) (by omega) (by omega) hu1 hu2) (cwV 2 hts gL_act_X2_put rfl rfl rfl hdv_X2_put ⟨(Nat.le_of_ble_eq_true rfl), (Nat.le_of_ble_eq_true rfl)⟩) hK hP hD hS hA [0, 1, 2] rfl rfl rfl rfl rfl hl.1 rfl (Nat.le_of_ble_eq_true rfl) dL_act_221 ⟨(by omega : _ ≤ 203), (by omega : _ ≤ 2700)⟩ (fun r9 w9 H locs hw hP hD hS => ?_)
    obtain ⟨rfl, rfl⟩ := hw
    have hP : xP γ (([xO q0 2 [.ref q1, .ref q4, .int (nI kc), .int td, .ref q2, .ref q3], xO q1 0 [.ref a1, .int (nI n)], xA γ a1 12 (upd f p9 u9), xO q2 0 [.ref a2, .int tn], xA γ a2 12 tf, xO q3 1 [.ref a3, .int wn], xA γ a3 12 wf, xQ γ q4 6 (fun t9 => some (kq t9))] ++ xKp γ kq ka kn ks) ++ ([xO s0 3 [.ref q198x, .ref tq, .int td], xA γ r n f, xT γ tq kc (fun t9 => some (ta t9)), xA γ q198x n (upd f p9 u9)] ++ xTs γ ta n ks kc)) H := hP
    have hD : va_D A (([xO q0 2 [.ref q1, .ref q4, .int (nI kc), .int td, .ref q2, .ref q3], xO q1 0 [.ref a1, .int (nI n)], xA γ a1 12 (upd f p9 u9), xO q2 0 [.ref a2, .int tn], xA γ a2 12 tf, xO q3 1 [.ref a3, .int wn], xA γ a3 12 wf, xQ γ q4 6 (fun t9 => some (kq t9))] ++ xKp γ kq ka kn ks) ++ ([xO s0 3 [.ref q198x, .ref tq, .int td], xA γ r n f, xT γ tq kc (fun t9 => some (ta t9)), xA γ q198x n (upd f p9 u9)] ++ xTs γ ta n ks kc)) := hD
    refine W.eq (g2 := F0 m 224 ls [.int (f p9)]) rfl ?_
    refine lv_iload hx hb dL_act_224 (lv_at hl 1 rfl) ?_
    refine lv_icmp_ne (tgt := 233) hx hb dL_act_226 (by decide) (fun c => absurd (rfl) c) (fun _ => ?_)
    refine lv_iconst (v := 1) hx hb dL_act_229 (by decide) ?_
    refine lv_goto (tgt := 234) hx hb dL_act_230 (by decide) ?_
    have hPD := xre (C := [xO q0 2 [.ref q1, .ref q4, .int (nI kc), .int td, .ref q2, .ref q3], xO q1 0 [.ref a1, .int (nI n)], xA γ a1 12 (upd f p9 u9), xO q2 0 [.ref a2, .int tn], xA γ a2 12 tf, xO q3 1 [.ref a3, .int wn], xA γ a3 12 wf, xQ γ q4 6 (fun t9 => some (kq t9))] ++ xKp γ kq ka kn ks) (E := [xO s0 3 [.ref q198x, .ref tq, .int td], xA γ r n f, xT γ tq kc (fun t9 => some (ta t9)), xA γ q198x n (upd f p9 u9)]) (E2 := [xO s0 3 [.ref q198x, .ref tq, .int td], xA γ q198x n (upd f p9 u9), xT γ tq kc (fun t9 => some (ta t9))]) (T := xTs γ ta n ks kc) [0, 3, 2] rfl rfl hP hD
    have hP := hPD.1
    have hD := hPD.2
    have hP : xP γ (([xO q0 2 [.ref q1, .ref q4, .int (nI kc), .int td, .ref q2, .ref q3], xO q1 0 [.ref a1, .int (nI n)], xA γ a1 12 (upd f p9 u9), xO q2 0 [.ref a2, .int tn], xA γ a2 12 tf, xO q3 1 [.ref a3, .int wn], xA γ a3 12 wf, xQ γ q4 6 (fun t9 => some (kq t9))] ++ xKp γ kq ka kn ks) ++ ([xO s0 3 [.ref q198x, .ref tq, .int td], xA γ q198x n (upd f p9 u9), xT γ tq kc (fun t9 => some (ta t9))] ++ xTs γ ta n ks kc)) H := hP
    have hD : va_D A (([xO q0 2 [.ref q1, .ref q4, .int (nI kc), .int td, .ref q2, .ref q3], xO q1 0 [.ref a1, .int (nI n)], xA γ a1 12 (upd f p9 u9), xO q2 0 [.ref a2, .int tn], xA γ a2 12 tf, xO q3 1 [.ref a3, .int wn], xA γ a3 12 wf, xQ γ q4 6 (fun t9 => some (kq t9))] ++ xKp γ kq ka kn ks) ++ ([xO s0 3 [.ref q198x, .ref tq, .int td], xA γ q198x n (upd f p9 u9), xT γ tq kc (fun t9 => some (ta t9))] ++ xTs γ ta n ks kc)) := hD
    subst hQ
    exact xG_z hx hb hr hlocks dL_act_234 (Or.inr rfl) hP hD hS (by omega : _ ≤ 203) (by omega : _ ≤ 2700) (⟨rfl, n, kc, td, tn, wn, upd f p9 u9, tf, wf, ks, kn, q198x, tq, ta, hI.put hj5 hp9 hu1 hu2, hkn, rfl⟩)
  · refine lv_iload_n hx hb dL_act_164 rfl (lv_at hl 3 rfl) ?_
    refine lv_iconst (v := 5) hx hb dL_act_165 (by decide) ?_
    refine lv_ishr hx hb dL_act_166 ?_
    refine lv_sipush (v := 1999) hx hb dL_act_167 (by decide) ?_
    refine xSR (As := [.int (x >>> (5 &&& 31)), .int 1999]) (rest := []) (stk := [.int (nI (xBl (x >>> (5 &&& 31)) 1999))]) ⟨hx, hb, hml, hown, hts⟩ (c_L_below γ l (x >>> (5 &&& 31)) 1999 (by omega) (by omega)) (va_cwS 2 hts gL_act_L_below rfl rfl rfl hds_L_below ⟨(Nat.le_of_ble_eq_true rfl), (Nat.le_of_ble_eq_true rfl)⟩) hK hP [] rfl  rfl hl.1 rfl (Nat.le_of_ble_eq_true rfl) dL_act_170 ⟨(by omega : _ ≤ 203), (by omega : _ ≤ 2700)⟩ rfl ?_
    refine lv_sipush (v := 999) hx hb dL_act_173 (by decide) ?_
    refine lv_isub hx hb dL_act_176 ?_
    refine lv_goto (tgt := 191) hx hb dL_act_177 (by decide) ?_
    have hu0 := xnum (k := xBl (x >>> (5 &&& 31)) 1999) (a := 999) (xBl_lt (by omega)) (by omega)
    obtain ⟨u9, eu, hu1, hu2⟩ : ∃ u9 : Int32, u9 = (nI (xBl (x >>> (5 &&& 31)) 1999)) - 999 ∧ ¬ u9 < (-999) ∧ u9 ≤ 999 := ⟨_, rfl, xnum_le hu0.1 hu0.2 (by decide) (by decide)⟩
    refine x_top (y := u9) eu.symm ?_
    refine lv_istore (lv' := [(7, .int u9), (6, .int (f p9)), (0, .ref q0), (1, .ref s0), (2, .int x), (3, .int (nI n)), (4, .int (nI p9)), (5, .int 1)]) hx hb dL_act_191 hl (by decide) rfl (fun ls hl => ?_)
    refine lv_aload_n hx hb dL_act_193 rfl (lv_at hl 3 rfl) ?_
    refine lv_aload_n hx hb dL_act_194 rfl (lv_at hl 3 rfl) ?_
    refine va_get (D := γ.1) (ci := 3) (v := .ref r) (C := RX3) (T := TX3) (N := 3) hx hb hts iwL_act_3 hown hK hP 20 rfl rfl 0 (by decide) (hts _ flL_act_9) (fun _ h9 => h9) rfl dL_act_195 ?_
    refine x_cloneI hx hb (hml.trans hl.1.symm) hown (hts _ wdL_act_cl1_32) (hts _ wdL_act_cl2) (hts _ wdL_act_cl3) (hts _ wdL_act_cl4) (hts _ wdL_act_cl5) hAr.1 hK hP hD hS hA 21 rfl (Nat.le_of_ble_eq_true rfl) (Nat.le_of_ble_eq_true rfl) (by omega : _ ≤ 203) (by omega : _ ≤ 2700) dL_act_198 (fun q198x H hP hD hS => ?_)
    have hP := xmvP2 hP
    have hD := xmvD2 hD
    have hP : xP γ (([xO q0 2 [.ref q1, .ref q4, .int (nI kc), .int td, .ref q2, .ref q3], xO q1 0 [.ref a1, .int (nI n)], xA γ a1 12 f, xO q2 0 [.ref a2, .int tn], xA γ a2 12 tf, xO q3 1 [.ref a3, .int wn], xA γ a3 12 wf, xQ γ q4 6 (fun t9 => some (kq t9))] ++ xKp γ kq ka kn ks) ++ ([xO s0 3 [.ref r, .ref tq, .int td], xA γ r n f, xT γ tq kc (fun t9 => some (ta t9)), xA γ q198x n f] ++ xTs γ ta n ks kc)) H := hP
    have hD : va_D A (([xO q0 2 [.ref q1, .ref q4, .int (nI kc), .int td, .ref q2, .ref q3], xO q1 0 [.ref a1, .int (nI n)], xA γ a1 12 f, xO q2 0 [.ref a2, .int tn], xA γ a2 12 tf, xO q3 1 [.ref a3, .int wn], xA γ a3 12 wf, xQ γ q4 6 (fun t9 => some (kq t9))] ++ xKp γ kq ka kn ks) ++ ([xO s0 3 [.ref r, .ref tq, .int td], xA γ r n f, xT γ tq kc (fun t9 => some (ta t9)), xA γ q198x n f] ++ xTs γ ta n ks kc)) := hD
    refine x_castI hx hb hown (hts _ wdL_act_n21a) hK hP 23 rfl dL_act_201 ?_
    refine va_put (D := γ.1) (ci := 3) (v := .ref q198x) (ty := .array .int) (C := RX3) (T := TX3) (N := 3) hx hb hts iwL_act_3 tyX3 tyX3_ok nmX3 hown hK hP hD hS 20 rfl rfl 0 (by decide) (hts _ flL_act_9) (fun _ h9 => h9) rfl (by decide +kernel) rfl rfl (Nat.le_of_ble_eq_true rfl) dL_act_204 (fun H locs hP hD hS => ?_)
    have hP : xP γ (([xO q0 2 [.ref q1, .ref q4, .int (nI kc), .int td, .ref q2, .ref q3], xO q1 0 [.ref a1, .int (nI n)], xA γ a1 12 f, xO q2 0 [.ref a2, .int tn], xA γ a2 12 tf, xO q3 1 [.ref a3, .int wn], xA γ a3 12 wf, xQ γ q4 6 (fun t9 => some (kq t9))] ++ xKp γ kq ka kn ks) ++ ([xO s0 3 [.ref q198x, .ref tq, .int td], xA γ r n f, xT γ tq kc (fun t9 => some (ta t9)), xA γ q198x n f] ++ xTs γ ta n ks kc)) H := hP
    have hD : va_D A (([xO q0 2 [.ref q1, .ref q4, .int (nI kc), .int td, .ref q2, .ref q3], xO q1 0 [.ref a1, .int (nI n)], xA γ a1 12 f, xO q2 0 [.ref a2, .int tn], xA γ a2 12 tf, xO q3 1 [.ref a3, .int wn], xA γ a3 12 wf, xQ γ q4 6 (fun t9 => some (kq t9))] ++ xKp γ kq ka kn ks) ++ ([xO s0 3 [.ref q198x, .ref tq, .int td], xA γ r n f, xT γ tq kc (fun t9 => some (ta t9)), xA γ q198x n f] ++ xTs γ ta n ks kc)) := hD
    refine lv_aload_n hx hb dL_act_207 rfl (lv_at hl 3 rfl) ?_
    refine va_get (D := γ.1) (ci := 3) (v := .ref q198x) (C := RX3) (T := TX3) (N := 3) hx hb hts iwL_act_3 hown hK hP 20 rfl rfl 0 (by decide) (hts _ flL_act_9) (fun _ h9 => h9) rfl dL_act_208 ?_
    refine lv_iload hx hb dL_act_211 (lv_at hl 6 rfl) ?_
    refine lv_iload hx hb dL_act_213 (lv_at hl 0 rfl) ?_
    refine x_iast (f := f) hx hb hK hP hD hS 23 rfl p9 rfl (by omega) (by omega) dL_act_215 (fun H locs hP hD hS => ?_)
    have hP : xP γ (([xO q0 2 [.ref q1, .ref q4, .int (nI kc), .int td, .ref q2, .ref q3], xO q1 0 [.ref a1, .int (nI n)], xA γ a1 12 f, xO q2 0 [.ref a2, .int tn], xA γ a2 12 tf, xO q3 1 [.ref a3, .int wn], xA γ a3 12 wf, xQ γ q4 6 (fun t9 => some (kq t9))] ++ xKp γ kq ka kn ks) ++ ([xO s0 3 [.ref q198x, .ref tq, .int td], xA γ r n f, xT γ tq kc (fun t9 => some (ta t9)), xA γ q198x n (upd f p9 u9)] ++ xTs γ ta n ks kc)) H := hP
    have hD : va_D A (([xO q0 2 [.ref q1, .ref q4, .int (nI kc), .int td, .ref q2, .ref q3], xO q1 0 [.ref a1, .int (nI n)], xA γ a1 12 f, xO q2 0 [.ref a2, .int tn], xA γ a2 12 tf, xO q3 1 [.ref a3, .int wn], xA γ a3 12 wf, xQ γ q4 6 (fun t9 => some (kq t9))] ++ xKp γ kq ka kn ks) ++ ([xO s0 3 [.ref q198x, .ref tq, .int td], xA γ r n f, xT γ tq kc (fun t9 => some (ta t9)), xA γ q198x n (upd f p9 u9)] ++ xTs γ ta n ks kc)) := hD
    refine lv_aload_n hx hb dL_act_216 rfl (lv_at hl 2 rfl) ?_
    refine lv_iload hx hb dL_act_217 (lv_at hl 6 rfl) ?_
    refine lv_iload hx hb dL_act_219 (lv_at hl 0 rfl) ?_
    refine xVM (q0 := 0) (ci := 2) (As := [.int (nI p9), .int u9]) (rest := []) ⟨hx, hb, hml, hown, hts⟩ (c_X2_put γ l q0 q1 q2 q3 q4 kc td a1 n f p9 u9 (by omega) (by omega) (by omega) hu1 hu2) (cwV 2 hts gL_act_X2_put rfl rfl rfl hdv_X2_put ⟨(Nat.le_of_ble_eq_true rfl), (Nat.le_of_ble_eq_true rfl)⟩) hK hP hD hS hA [0, 1, 2] rfl rfl rfl rfl rfl hl.1 rfl (Nat.le_of_ble_eq_true rfl) dL_act_221 ⟨(by omega : _ ≤ 203), (by omega : _ ≤ 2700)⟩ (fun r9 w9 H locs hw hP hD hS => ?_)
    obtain ⟨rfl, rfl⟩ := hw
    have hP : xP γ (([xO q0 2 [.ref q1, .ref q4, .int (nI kc), .int td, .ref q2, .ref q3], xO q1 0 [.ref a1, .int (nI n)], xA γ a1 12 (upd f p9 u9), xO q2 0 [.ref a2, .int tn], xA γ a2 12 tf, xO q3 1 [.ref a3, .int wn], xA γ a3 12 wf, xQ γ q4 6 (fun t9 => some (kq t9))] ++ xKp γ kq ka kn ks) ++ ([xO s0 3 [.ref q198x, .ref tq, .int td], xA γ r n f, xT γ tq kc (fun t9 => some (ta t9)), xA γ q198x n (upd f p9 u9)] ++ xTs γ ta n ks kc)) H := hP
    have hD : va_D A (([xO q0 2 [.ref q1, .ref q4, .int (nI kc), .int td, .ref q2, .ref q3], xO q1 0 [.ref a1, .int (nI n)], xA γ a1 12 (upd f p9 u9), xO q2 0 [.ref a2, .int tn], xA γ a2 12 tf, xO q3 1 [.ref a3, .int wn], xA γ a3 12 wf, xQ γ q4 6 (fun t9 => some (kq t9))] ++ xKp γ kq ka kn ks) ++ ([xO s0 3 [.ref q198x, .ref tq, .int td], xA γ r n f, xT γ tq kc (fun t9 => some (ta t9)), xA γ q198x n (upd f p9 u9)] ++ xTs γ ta n ks kc)) := hD
    refine W.eq (g2 := F0 m 224 ls [.int (f p9)]) rfl ?_
    refine lv_iload hx hb dL_act_224 (lv_at hl 1 rfl) ?_
    refine lv_icmp_ne (tgt := 233) hx hb dL_act_226 (by decide) (fun c => absurd (rfl) c) (fun _ => ?_)
    refine lv_iconst (v := 1) hx hb dL_act_229 (by decide) ?_
    refine lv_goto (tgt := 234) hx hb dL_act_230 (by decide) ?_
    have hPD := xre (C := [xO q0 2 [.ref q1, .ref q4, .int (nI kc), .int td, .ref q2, .ref q3], xO q1 0 [.ref a1, .int (nI n)], xA γ a1 12 (upd f p9 u9), xO q2 0 [.ref a2, .int tn], xA γ a2 12 tf, xO q3 1 [.ref a3, .int wn], xA γ a3 12 wf, xQ γ q4 6 (fun t9 => some (kq t9))] ++ xKp γ kq ka kn ks) (E := [xO s0 3 [.ref q198x, .ref tq, .int td], xA γ r n f, xT γ tq kc (fun t9 => some (ta t9)), xA γ q198x n (upd f p9 u9)]) (E2 := [xO s0 3 [.ref q198x, .ref tq, .int td], xA γ q198x n (upd f p9 u9), xT γ tq kc (fun t9 => some (ta t9))]) (T := xTs γ ta n ks kc) [0, 3, 2] rfl rfl hP hD
    have hP := hPD.1
    have hD := hPD.2
    have hP : xP γ (([xO q0 2 [.ref q1, .ref q4, .int (nI kc), .int td, .ref q2, .ref q3], xO q1 0 [.ref a1, .int (nI n)], xA γ a1 12 (upd f p9 u9), xO q2 0 [.ref a2, .int tn], xA γ a2 12 tf, xO q3 1 [.ref a3, .int wn], xA γ a3 12 wf, xQ γ q4 6 (fun t9 => some (kq t9))] ++ xKp γ kq ka kn ks) ++ ([xO s0 3 [.ref q198x, .ref tq, .int td], xA γ q198x n (upd f p9 u9), xT γ tq kc (fun t9 => some (ta t9))] ++ xTs γ ta n ks kc)) H := hP
    have hD : va_D A (([xO q0 2 [.ref q1, .ref q4, .int (nI kc), .int td, .ref q2, .ref q3], xO q1 0 [.ref a1, .int (nI n)], xA γ a1 12 (upd f p9 u9), xO q2 0 [.ref a2, .int tn], xA γ a2 12 tf, xO q3 1 [.ref a3, .int wn], xA γ a3 12 wf, xQ γ q4 6 (fun t9 => some (kq t9))] ++ xKp γ kq ka kn ks) ++ ([xO s0 3 [.ref q198x, .ref tq, .int td], xA γ q198x n (upd f p9 u9), xT γ tq kc (fun t9 => some (ta t9))] ++ xTs γ ta n ks kc)) := hD
    subst hQ
    exact xG_z hx hb hr hlocks dL_act_234 (Or.inr rfl) hP hD hS (by omega : _ ≤ 203) (by omega : _ ≤ 2700) (⟨rfl, n, kc, td, tn, wn, upd f p9 u9, tf, wf, ks, kn, q198x, tq, ta, hI.put hj5 hp9 hu1 hu2, hkn, rfl⟩)

theorem hdv_X2_tip : yX2_tip.cls = RX2 ∧ yX2_tip.cls ≠ "java/lang/invoke/MethodHandle" ∧ yX2_tip.cls ≠ "java/lang/invoke/VarHandle" ∧ (parseMethodDescriptor yX2_tip.desc).map (fun d => d.parameters.length) = some 2 := by decide +kernel
theorem flL_act_43 : Cond.fieldLink RL 43 "RingSeesawLaw$Sim" "tips" "I" ∈ wsL_act := by decide +kernel
theorem wdL_act_m47a : Cond.methodLink RL 47 Lib.Math.abs.name ∈ wsL_act := by decide +kernel
theorem wdL_act_m47b : Cond.static Lib.Math.abs.name ∈ wsL_act := by decide +kernel
theorem wdL_act_m47c : Cond.initialized "java/lang/Math" ∈ wsL_act := by decide +kernel
theorem wdL_act_m47d : Cond.code Lib.Math.abs.name Lib.Math.abs.code 1 (some .int) ∈ wsL_act := by decide +kernel
set_option maxHeartbeats 8000000 in
set_option maxRecDepth 100000 in
theorem xact_tip {p : Program} {l : Launch} {e : Env} {s : State} {m : MethodId} {args : Array Value} {below : List Frame} {meth : Method} {c : Code} (hlt : l.stackTraces = false) (hx : p.tables.exec = Jvm.exec) (hb : c.code = cL_act) (hr : meth.sig.returnType = some .boolean) (hml : c.maxLocals = 8) (hts : ∀ w ∈ wsL_act, w.before args s = true) (hown : s.vm.findClass RL = some m.cls) (hlocks : meth.locks = false) (htab : c.exceptionTable.toList = tableOf [(18, 99, 616, 80), (100, 143, 616, 80), (144, 234, 616, 80), (235, 332, 616, 80), (333, 391, 616, 80), (392, 458, 616, 80), (459, 508, 616, 80), (509, 518, 616, 80), (519, 615, 616, 80)]) {γ : xG} (hK : xK γ s) (sa : Nat → Nat) {A : Nat → Prop} (hEv : xEv s) (hEs : xEs sa s) (hEh : xEh A s s.heap) (hAr : xAz s) (hA : ∀ q : Nat, s.heap.size ≤ q → A q) (q0 q1 a1 q2 a2 q3 a3 q4 s0 : Nat) (kq ka : Nat → Nat) (x : Int32) (j : Nat) (hj5 : j < 512) (n kc : Nat) (td tn wn : Int32) (f tf wf : xRow) (ks : Nat → xRow) (kn : Nat → Int32) (r tq : Nat) (ta : Nat → Nat) (hI : xInv j n kc f ks) (hkn : ∀ t, t < kc → kn t = nI n) (hP : xP γ (DWt γ q0 q1 a1 q2 a2 q3 a3 q4 s0 kq ka n kc td tn wn f tf wf ks kn r tq ta) s.heap) (hD : va_D A (DWt γ q0 q1 a1 q2 a2 q3 a3 q4 s0 kq ka n kc td tn wn f tf wf ks kn r tq ta)) (p9 : Nat) (hp9 : p9 < n) (ls : Array Slot) (hl : lv_has ls 8 [(0, .ref q0), (1, .ref s0), (2, .int x), (3, .int (nI n)), (4, .int (nI p9)), (5, .int 1)]) : W p l e ({ frames := 8, cells := 203, slots := 2700, locals := 140 } : Room) s m args below meth c s.heap [] 0 0 (MQ below (xGQ γ A (xActP γ q0 q1 a1 q2 a2 q3 a3 q4 s0 kq ka (j + 1) (.int 1))) args s 203 2700 A) (F0 m 235 ls []) := by
  obtain ⟨Q, hQ⟩ : ∃ Q9, Q9 = MQ below (xGQ γ A (xActP γ q0 q1 a1 q2 a2 q3 a3 q4 s0 kq ka (j + 1) (.int 1))) args s 203 2700 A := ⟨_, rfl⟩
  rw [← hQ]
  have hn0 := hI.1
  have hn1 := hI.2.1
  have hkc := hI.2.2.1
  have hP : xP γ (([xO q0 2 [.ref q1, .ref q4, .int (nI kc), .int td, .ref q2, .ref q3], xO q1 0 [.ref a1, .int (nI n)], xA γ a1 12 f, xO q2 0 [.ref a2, .int tn], xA γ a2 12 tf, xO q3 1 [.ref a3, .int wn], xA γ a3 12 wf, xQ γ q4 6 (fun t9 => some (kq t9))] ++ xKp γ kq ka kn ks) ++ ([xO s0 3 [.ref r, .ref tq, .int td], xA γ r n f, xT γ tq kc (fun t9 => some (ta t9))] ++ xTs γ ta n ks kc)) s.heap := hP
  have hD : va_D A (([xO q0 2 [.ref q1, .ref q4, .int (nI kc), .int td, .ref q2, .ref q3], xO q1 0 [.ref a1, .int (nI n)], xA γ a1 12 f, xO q2 0 [.ref a2, .int tn], xA γ a2 12 tf, xO q3 1 [.ref a3, .int wn], xA γ a3 12 wf, xQ γ q4 6 (fun t9 => some (kq t9))] ++ xKp γ kq ka kn ks) ++ ([xO s0 3 [.ref r, .ref tq, .int td], xA γ r n f, xT γ tq kc (fun t9 => some (ta t9))] ++ xTs γ ta n ks kc)) := hD
  have hS : va_S A s.heap s.heap [] := va_S.rf
  refine lv_iload_n hx hb dL_act_235 rfl (lv_at hl 2 rfl) ?_
  refine lv_iconst (v := 5) hx hb dL_act_236 (by decide) ?_
  refine lv_ishr hx hb dL_act_237 ?_
  refine lv_iload_n hx hb dL_act_238 rfl (lv_at hl 2 rfl) ?_
  refine lv_bipush (v := 8) hx hb dL_act_239 (by decide) ?_
  refine lv_ishr hx hb dL_act_241 ?_
  refine lv_iconst (v := 2) hx hb dL_act_242 (by decide) ?_
  refine xSR (As := [.int (x >>> (8 &&& 31)), .int 2]) (rest := [.int (x >>> (5 &&& 31))]) (stk := [.int (nI (xBl (x >>> (8 &&& 31)) 2)), .int (x >>> (5 &&& 31))]) ⟨hx, hb, hml, hown, hts⟩ (c_L_below γ l (x >>> (8 &&& 31)) 2 (by omega) (by omega)) (va_cwS 2 hts gL_act_L_below rfl rfl rfl hds_L_below ⟨(Nat.le_of_ble_eq_true rfl), (Nat.le_of_ble_eq_true rfl)⟩) hK hP [] rfl  rfl hl.1 rfl (Nat.le_of_ble_eq_true rfl) dL_act_243 ⟨(by omega : _ ≤ 203), (by omega : _ ≤ 2700)⟩ rfl ?_
  refine lv_if_ne (tgt := 254) hx hb dL_act_246 (by decide) (fun c246 => ?_) (fun c246 => ?_)
  · refine lv_bipush (v := 7) hx hb dL_act_254 (by decide) ?_
    refine xSR (As := [.int (x >>> (5 &&& 31)), .int 7]) (rest := []) (stk := [.int (nI (xBl (x >>> (5 &&& 31)) 7))]) ⟨hx, hb, hml, hown, hts⟩ (c_L_below γ l (x >>> (5 &&& 31)) 7 (by omega) (by omega)) (va_cwS 2 hts gL_act_L_below rfl rfl rfl hds_L_below ⟨(Nat.le_of_ble_eq_true rfl), (Nat.le_of_ble_eq_true rfl)⟩) hK hP [] rfl  rfl hl.1 rfl (Nat.le_of_ble_eq_true rfl) dL_act_256 ⟨(by omega : _ ≤ 203), (by omega : _ ≤ 2700)⟩ rfl ?_
    refine lv_iload_n hx hb dL_act_259 rfl (lv_at hl 2 rfl) ?_
    refine lv_bipush (v := 8) hx hb dL_act_260 (by decide) ?_
    refine lv_ishr hx hb dL_act_262 ?_
    refine lv_iconst (v := 2) hx hb dL_act_263 (by decide) ?_
    refine xSR (As := [.int (x >>> (8 &&& 31)), .int 2]) (rest := [.int (nI (xBl (x >>> (5 &&& 31)) 7))]) (stk := [.int (nI (xBl (x >>> (8 &&& 31)) 2)), .int (nI (xBl (x >>> (5 &&& 31)) 7))]) ⟨hx, hb, hml, hown, hts⟩ (c_L_below γ l (x >>> (8 &&& 31)) 2 (by omega) (by omega)) (va_cwS 2 hts gL_act_L_below rfl rfl rfl hds_L_below ⟨(Nat.le_of_ble_eq_true rfl), (Nat.le_of_ble_eq_true rfl)⟩) hK hP [] rfl  rfl hl.1 rfl (Nat.le_of_ble_eq_true rfl) dL_act_264 ⟨(by omega : _ ≤ 203), (by omega : _ ≤ 2700)⟩ rfl ?_
    refine lv_if_ne (tgt := 275) hx hb dL_act_267 (by decide) (fun _ => ?_) (fun c => absurd c (c246))
    refine lv_iconst (v := 3) hx hb dL_act_275 (by decide) ?_
    refine lv_isub hx hb dL_act_276 ?_
    have hu0 := xnum (k := xBl (x >>> (5 &&& 31)) 7) (a := 3) (xBl_lt (by omega)) (by omega)
    obtain ⟨u9, eu, hu1, hu2⟩ : ∃ u9 : Int32, u9 = (nI (xBl (x >>> (5 &&& 31)) 7)) - 3 ∧ ¬ u9 < (-50) ∧ u9 ≤ 50 := ⟨_, rfl, xnum_le hu0.1 hu0.2 (by decide) (by decide)⟩
    refine x_top (y := u9) eu.symm ?_
    refine lv_istore (lv' := [(6, .int u9), (0, .ref q0), (1, .ref s0), (2, .int x), (3, .int (nI n)), (4, .int (nI p9)), (5, .int 1)]) hx hb dL_act_277 hl (by decide) rfl (fun ls hl => ?_)
    refine lv_aload_n hx hb dL_act_279 rfl (lv_at hl 2 rfl) ?_
    refine lv_aload_n hx hb dL_act_280 rfl (lv_at hl 2 rfl) ?_
    refine lv_aload_n hx hb dL_act_281 rfl (lv_at hl 2 rfl) ?_
    refine va_get (D := γ.1) (ci := 3) (v := .ref r) (C := RX3) (T := TX3) (N := 3) hx hb hts iwL_act_3 hown hK hP 20 rfl rfl 0 (by decide) (hts _ flL_act_9) (fun _ h9 => h9) rfl dL_act_282 ?_
    refine lv_iload hx hb dL_act_285 (lv_at hl 5 rfl) ?_
    refine lv_iload hx hb dL_act_287 (lv_at hl 0 rfl) ?_
    refine xVC (q0 := 20) (ci := 3) (As := [.ref r, .int (nI p9), .int u9]) (rest := [.ref s0]) ⟨hx, hb, hml, hown, hts⟩ (c_X3_tipped γ l s0 r n f p9 u9 (by omega) (by omega) (by omega)) (cwV 3 hts gL_act_X3_tipped rfl rfl rfl hdv_X3_tipped ⟨(Nat.le_of_ble_eq_true rfl), (Nat.le_of_ble_eq_true rfl)⟩) xAz_blind (fun U _ hW => xAz.warm hW hAr) hK hP hD hS hA [21] rfl rfl rfl rfl rfl hl.1 rfl (Nat.le_of_ble_eq_true rfl) dL_act_289 ⟨(by omega : _ ≤ 203), (by omega : _ ≤ 2700)⟩ (fun r9 w9 v9 H locs hw hP hD hS => ?_)
    obtain ⟨b83x, rfl, rfl, rfl⟩ := hw
    have hP : xP γ ((([xO q0 2 [.ref q1, .ref q4, .int (nI kc), .int td, .ref q2, .ref q3], xO q1 0 [.ref a1, .int (nI n)], xA γ a1 12 f, xO q2 0 [.ref a2, .int tn], xA γ a2 12 tf, xO q3 1 [.ref a3, .int wn], xA γ a3 12 wf, xQ γ q4 6 (fun t9 => some (kq t9))] ++ xKp γ kq ka kn ks) ++ ([xO s0 3 [.ref r, .ref tq, .int td], xA γ r n f, xT γ tq kc (fun t9 => some (ta t9))] ++ xTs γ ta n ks kc)) ++ [xA γ b83x n (xTip n f p9 u9)]) H := hP
    have hD : va_D A ((([xO q0 2 [.ref q1, .ref q4, .int (nI kc), .int td, .ref q2, .ref q3], xO q1 0 [.ref a1, .int (nI n)], xA γ a1 12 f, xO q2 0 [.ref a2, .int tn], xA γ a2 12 tf, xO q3 1 [.ref a3, .int wn], xA γ a3 12 wf, xQ γ q4 6 (fun t9 => some (kq t9))] ++ xKp γ kq ka kn ks) ++ ([xO s0 3 [.ref r, .ref tq, .int td], xA γ r n f, xT γ tq kc (fun t9 => some (ta t9))] ++ xTs γ ta n ks kc)) ++ [xA γ b83x n (xTip n f p9 u9)]) := hD
    have hP := xmvP2 hP
    have hD := xmvD2 hD
    have hP : xP γ (([xO q0 2 [.ref q1, .ref q4, .int (nI kc), .int td, .ref q2, .ref q3], xO q1 0 [.ref a1, .int (nI n)], xA γ a1 12 f, xO q2 0 [.ref a2, .int tn], xA γ a2 12 tf, xO q3 1 [.ref a3, .int wn], xA γ a3 12 wf, xQ γ q4 6 (fun t9 => some (kq t9))] ++ xKp γ kq ka kn ks) ++ ([xO s0 3 [.ref r, .ref tq, .int td], xA γ r n f, xT γ tq kc (fun t9 => some (ta t9)), xA γ b83x n (xTip n f p9 u9)] ++ xTs γ ta n ks kc)) H := hP
    have hD : va_D A (([xO q0 2 [.ref q1, .ref q4, .int (nI kc), .int td, .ref q2, .ref q3], xO q1 0 [.ref a1, .int (nI n)], xA γ a1 12 f, xO q2 0 [.ref a2, .int tn], xA γ a2 12 tf, xO q3 1 [.ref a3, .int wn], xA γ a3 12 wf, xQ γ q4 6 (fun t9 => some (kq t9))] ++ xKp γ kq ka kn ks) ++ ([xO s0 3 [.ref r, .ref tq, .int td], xA γ r n f, xT γ tq kc (fun t9 => some (ta t9)), xA γ b83x n (xTip n f p9 u9)] ++ xTs γ ta n ks kc)) := hD
    refine W.eq (g2 := F0 m 292 ls [.ref b83x, .ref s0]) rfl ?_
    refine va_put (D := γ.1) (ci := 3) (v := .ref b83x) (ty := .array .int) (C := RX3) (T := TX3) (N := 3) hx hb hts iwL_act_3 tyX3 tyX3_ok nmX3 hown hK hP hD hS 20 rfl rfl 0 (by decide) (hts _ flL_act_9) (fun _ h9 => h9) rfl (by decide +kernel) rfl rfl (Nat.le_of_ble_eq_true rfl) dL_act_292 (fun H locs hP hD hS => ?_)
    have hP : xP γ (([xO q0 2 [.ref q1, .ref q4, .int (nI kc), .int td, .ref q2, .ref q3], xO q1 0 [.ref a1, .int (nI n)], xA γ a1 12 f, xO q2 0 [.ref a2, .int tn], xA γ a2 12 tf, xO q3 1 [.ref a3, .int wn], xA γ a3 12 wf, xQ γ q4 6 (fun t9 => some (kq t9))] ++ xKp γ kq ka kn ks) ++ ([xO s0 3 [.ref b83x, .ref tq, .int td], xA γ r n f, xT γ tq kc (fun t9 => some (ta t9)), xA γ b83x n (xTip n f p9 u9)] ++ xTs γ ta n ks kc)) H := hP
    have hD : va_D A (([xO q0 2 [.ref q1, .ref q4, .int (nI kc), .int td, .ref q2, .ref q3], xO q1 0 [.ref a1, .int (nI n)], xA γ a1 12 f, xO q2 0 [.ref a2, .int tn], xA γ a2 12 tf, xO q3 1 [.ref a3, .int wn], xA γ a3 12 wf, xQ γ q4 6 (fun t9 => some (kq t9))] ++ xKp γ kq ka kn ks) ++ ([xO s0 3 [.ref b83x, .ref tq, .int td], xA γ r n f, xT γ tq kc (fun t9 => some (ta t9)), xA γ b83x n (xTip n f p9 u9)] ++ xTs γ ta n ks kc)) := hD
    refine lv_aload_n hx hb dL_act_295 rfl (lv_at hl 2 rfl) ?_
    refine lv_dup hx hb dL_act_296 rfl ?_
    refine va_get (D := γ.1) (ci := 3) (v := .int td) (C := RX3) (T := TX3) (N := 3) hx hb hts iwL_act_3 hown hK hP 20 rfl rfl 2 (by decide) (hts _ flL_act_43) (fun _ h9 => h9) rfl dL_act_297 ?_
    refine lv_iload hx hb dL_act_300 (lv_at hl 0 rfl) ?_
    refine va_mabs hx hb (hml.trans hl.1.symm) hown (hts _ wdL_act_m47a) (hts _ wdL_act_m47b) (hts _ wdL_act_m47c) (hts _ wdL_act_m47d) (Nat.le_of_ble_eq_true rfl) (Nat.le_of_ble_eq_true rfl) (Nat.le_of_ble_eq_true rfl) (Nat.le_of_ble_eq_true rfl) dL_act_302 ?_
    refine lv_iadd hx hb dL_act_305 ?_
    refine x_top (y := td + xAbs u9) (rfl) ?_
    refine va_put (D := γ.1) (ci := 3) (v := .int (td + xAbs u9)) (ty := .int) (C := RX3) (T := TX3) (N := 3) hx hb hts iwL_act_3 tyX3 tyX3_ok nmX3 hown hK hP hD hS 20 rfl rfl 2 (by decide) (hts _ flL_act_43) (fun _ h9 => h9) rfl (by decide +kernel) rfl rfl (Nat.le_of_ble_eq_true rfl) dL_act_306 (fun H locs hP hD hS => ?_)
    have hP : xP γ (([xO q0 2 [.ref q1, .ref q4, .int (nI kc), .int td, .ref q2, .ref q3], xO q1 0 [.ref a1, .int (nI n)], xA γ a1 12 f, xO q2 0 [.ref a2, .int tn], xA γ a2 12 tf, xO q3 1 [.ref a3, .int wn], xA γ a3 12 wf, xQ γ q4 6 (fun t9 => some (kq t9))] ++ xKp γ kq ka kn ks) ++ ([xO s0 3 [.ref b83x, .ref tq, .int (td + xAbs u9)], xA γ r n f, xT γ tq kc (fun t9 => some (ta t9)), xA γ b83x n (xTip n f p9 u9)] ++ xTs γ ta n ks kc)) H := hP
    have hD : va_D A (([xO q0 2 [.ref q1, .ref q4, .int (nI kc), .int td, .ref q2, .ref q3], xO q1 0 [.ref a1, .int (nI n)], xA γ a1 12 f, xO q2 0 [.ref a2, .int tn], xA γ a2 12 tf, xO q3 1 [.ref a3, .int wn], xA γ a3 12 wf, xQ γ q4 6 (fun t9 => some (kq t9))] ++ xKp γ kq ka kn ks) ++ ([xO s0 3 [.ref b83x, .ref tq, .int (td + xAbs u9)], xA γ r n f, xT γ tq kc (fun t9 => some (ta t9)), xA γ b83x n (xTip n f p9 u9)] ++ xTs γ ta n ks kc)) := hD
    refine lv_aload_n hx hb dL_act_309 rfl (lv_at hl 1 rfl) ?_
    refine lv_iload hx hb dL_act_310 (lv_at hl 5 rfl) ?_
    refine lv_iload hx hb dL_act_312 (lv_at hl 0 rfl) ?_
    refine xVM (q0 := 0) (ci := 2) (As := [.int (nI p9), .int u9]) (rest := []) ⟨hx, hb, hml, hown, hts⟩ (c_X2_tip γ l q0 q1 q2 q3 q4 kc td a1 n f p9 u9 (by omega) (by omega) (by omega) hu1 hu2) (cwV 2 hts gL_act_X2_tip rfl rfl rfl hdv_X2_tip ⟨(Nat.le_of_ble_eq_true rfl), (Nat.le_of_ble_eq_true rfl)⟩) hK hP hD hS hA [0, 1, 2] rfl rfl rfl rfl rfl hl.1 rfl (Nat.le_of_ble_eq_true rfl) dL_act_314 ⟨(by omega : _ ≤ 203), (by omega : _ ≤ 2700)⟩ (fun r9 w9 H locs hw hP hD hS => ?_)
    obtain ⟨rfl, rfl⟩ := hw
    have hP : xP γ (([xO q0 2 [.ref q1, .ref q4, .int (nI kc), .int (td + xAbs u9), .ref q2, .ref q3], xO q1 0 [.ref a1, .int (nI n)], xA γ a1 12 (xTip n f p9 u9), xO q2 0 [.ref a2, .int tn], xA γ a2 12 tf, xO q3 1 [.ref a3, .int wn], xA γ a3 12 wf, xQ γ q4 6 (fun t9 => some (kq t9))] ++ xKp γ kq ka kn ks) ++ ([xO s0 3 [.ref b83x, .ref tq, .int (td + xAbs u9)], xA γ r n f, xT γ tq kc (fun t9 => some (ta t9)), xA γ b83x n (xTip n f p9 u9)] ++ xTs γ ta n ks kc)) H := hP
    have hD : va_D A (([xO q0 2 [.ref q1, .ref q4, .int (nI kc), .int (td + xAbs u9), .ref q2, .ref q3], xO q1 0 [.ref a1, .int (nI n)], xA γ a1 12 (xTip n f p9 u9), xO q2 0 [.ref a2, .int tn], xA γ a2 12 tf, xO q3 1 [.ref a3, .int wn], xA γ a3 12 wf, xQ γ q4 6 (fun t9 => some (kq t9))] ++ xKp γ kq ka kn ks) ++ ([xO s0 3 [.ref b83x, .ref tq, .int (td + xAbs u9)], xA γ r n f, xT γ tq kc (fun t9 => some (ta t9)), xA γ b83x n (xTip n f p9 u9)] ++ xTs γ ta n ks kc)) := hD
    refine W.eq (g2 := F0 m 317 ls [.int (xTip n f p9 u9 p9)]) rfl ?_
    refine lv_aload_n hx hb dL_act_317 rfl (lv_at hl 2 rfl) ?_
    refine va_get (D := γ.1) (ci := 3) (v := .ref b83x) (C := RX3) (T := TX3) (N := 3) hx hb hts iwL_act_3 hown hK hP 20 rfl rfl 0 (by decide) (hts _ flL_act_9) (fun _ h9 => h9) rfl dL_act_318 ?_
    refine lv_iload hx hb dL_act_321 (lv_at hl 5 rfl) ?_
    refine x_iald (f := xTip n f p9 u9) hx hb hK hP 23 rfl p9 rfl (by omega) (by omega) dL_act_323 ?_
    refine lv_icmp_ne (tgt := 331) hx hb dL_act_324 (by decide) (fun c => absurd (rfl) c) (fun _ => ?_)
    refine lv_iconst (v := 1) hx hb dL_act_327 (by decide) ?_
    refine lv_goto (tgt := 332) hx hb dL_act_328 (by decide) ?_
    have hPD := xre (C := [xO q0 2 [.ref q1, .ref q4, .int (nI kc), .int (td + xAbs u9), .ref q2, .ref q3], xO q1 0 [.ref a1, .int (nI n)], xA γ a1 12 (xTip n f p9 u9), xO q2 0 [.ref a2, .int tn], xA γ a2 12 tf, xO q3 1 [.ref a3, .int wn], xA γ a3 12 wf, xQ γ q4 6 (fun t9 => some (kq t9))] ++ xKp γ kq ka kn ks) (E := [xO s0 3 [.ref b83x, .ref tq, .int (td + xAbs u9)], xA γ r n f, xT γ tq kc (fun t9 => some (ta t9)), xA γ b83x n (xTip n f p9 u9)]) (E2 := [xO s0 3 [.ref b83x, .ref tq, .int (td + xAbs u9)], xA γ b83x n (xTip n f p9 u9), xT γ tq kc (fun t9 => some (ta t9))]) (T := xTs γ ta n ks kc) [0, 3, 2] rfl rfl hP hD
    have hP := hPD.1
    have hD := hPD.2
    have hP : xP γ (([xO q0 2 [.ref q1, .ref q4, .int (nI kc), .int (td + xAbs u9), .ref q2, .ref q3], xO q1 0 [.ref a1, .int (nI n)], xA γ a1 12 (xTip n f p9 u9), xO q2 0 [.ref a2, .int tn], xA γ a2 12 tf, xO q3 1 [.ref a3, .int wn], xA γ a3 12 wf, xQ γ q4 6 (fun t9 => some (kq t9))] ++ xKp γ kq ka kn ks) ++ ([xO s0 3 [.ref b83x, .ref tq, .int (td + xAbs u9)], xA γ b83x n (xTip n f p9 u9), xT γ tq kc (fun t9 => some (ta t9))] ++ xTs γ ta n ks kc)) H := hP
    have hD : va_D A (([xO q0 2 [.ref q1, .ref q4, .int (nI kc), .int (td + xAbs u9), .ref q2, .ref q3], xO q1 0 [.ref a1, .int (nI n)], xA γ a1 12 (xTip n f p9 u9), xO q2 0 [.ref a2, .int tn], xA γ a2 12 tf, xO q3 1 [.ref a3, .int wn], xA γ a3 12 wf, xQ γ q4 6 (fun t9 => some (kq t9))] ++ xKp γ kq ka kn ks) ++ ([xO s0 3 [.ref b83x, .ref tq, .int (td + xAbs u9)], xA γ b83x n (xTip n f p9 u9), xT γ tq kc (fun t9 => some (ta t9))] ++ xTs γ ta n ks kc)) := hD
    subst hQ
    exact xG_z hx hb hr hlocks dL_act_332 (Or.inr rfl) hP hD hS (by omega : _ ≤ 203) (by omega : _ ≤ 2700) (⟨rfl, n, kc, td + xAbs u9, tn, wn, xTip n f p9 u9, tf, wf, ks, kn, b83x, tq, ta, hI.tip hj5 hp9 hu1 hu2, hkn, rfl⟩)
  · refine lv_bipush (v := 101) hx hb dL_act_249 (by decide) ?_
    refine lv_goto (tgt := 256) hx hb dL_act_251 (by decide) ?_
    refine xSR (As := [.int (x >>> (5 &&& 31)), .int 101]) (rest := []) (stk := [.int (nI (xBl (x >>> (5 &&& 31)) 101))]) ⟨hx, hb, hml, hown, hts⟩ (c_L_below γ l (x >>> (5 &&& 31)) 101 (by omega) (by omega)) (va_cwS 2 hts gL_act_L_below rfl rfl rfl hds_L_below ⟨(Nat.le_of_ble_eq_true rfl), (Nat.le_of_ble_eq_true rfl)⟩) hK hP [] rfl  rfl hl.1 rfl (Nat.le_of_ble_eq_true rfl) dL_act_256 ⟨(by omega : _ ≤ 203), (by omega : _ ≤ 2700)⟩ rfl ?_
    refine lv_iload_n hx hb dL_act_259 rfl (lv_at hl 2 rfl) ?_
    refine lv_bipush (v := 8) hx hb dL_act_260 (by decide) ?_
    refine lv_ishr hx hb dL_act_262 ?_
    refine lv_iconst (v := 2) hx hb dL_act_263 (by decide) ?_
    refine xSR (As := [.int (x >>> (8 &&& 31)), .int 2]) (rest := [.int (nI (xBl (x >>> (5 &&& 31)) 101))]) (stk := [.int (nI (xBl (x >>> (8 &&& 31)) 2)), .int (nI (xBl (x >>> (5 &&& 31)) 101))]) ⟨hx, hb, hml, hown, hts⟩ (c_L_below γ l (x >>> (8 &&& 31)) 2 (by omega) (by omega)) (va_cwS 2 hts gL_act_L_below rfl rfl rfl hds_L_below ⟨(Nat.le_of_ble_eq_true rfl), (Nat.le_of_ble_eq_true rfl)⟩) hK hP [] rfl  rfl hl.1 rfl (Nat.le_of_ble_eq_true rfl) dL_act_264 ⟨(by omega : _ ≤ 203), (by omega : _ ≤ 2700)⟩ rfl ?_
    refine lv_if_ne (tgt := 275) hx hb dL_act_267 (by decide) (fun c => absurd (c246) c) (fun _ => ?_)
    refine lv_bipush (v := 50) hx hb dL_act_270 (by decide) ?_
    refine lv_goto (tgt := 276) hx hb dL_act_272 (by decide) ?_
    refine lv_isub hx hb dL_act_276 ?_
    have hu0 := xnum (k := xBl (x >>> (5 &&& 31)) 101) (a := 50) (xBl_lt (by omega)) (by omega)
    obtain ⟨u9, eu, hu1, hu2⟩ : ∃ u9 : Int32, u9 = (nI (xBl (x >>> (5 &&& 31)) 101)) - 50 ∧ ¬ u9 < (-50) ∧ u9 ≤ 50 := ⟨_, rfl, xnum_le hu0.1 hu0.2 (by decide) (by decide)⟩
    refine x_top (y := u9) eu.symm ?_
    refine lv_istore (lv' := [(6, .int u9), (0, .ref q0), (1, .ref s0), (2, .int x), (3, .int (nI n)), (4, .int (nI p9)), (5, .int 1)]) hx hb dL_act_277 hl (by decide) rfl (fun ls hl => ?_)
    refine lv_aload_n hx hb dL_act_279 rfl (lv_at hl 2 rfl) ?_
    refine lv_aload_n hx hb dL_act_280 rfl (lv_at hl 2 rfl) ?_
    refine lv_aload_n hx hb dL_act_281 rfl (lv_at hl 2 rfl) ?_
    refine va_get (D := γ.1) (ci := 3) (v := .ref r) (C := RX3) (T := TX3) (N := 3) hx hb hts iwL_act_3 hown hK hP 20 rfl rfl 0 (by decide) (hts _ flL_act_9) (fun _ h9 => h9) rfl dL_act_282 ?_
    refine lv_iload hx hb dL_act_285 (lv_at hl 5 rfl) ?_
    refine lv_iload hx hb dL_act_287 (lv_at hl 0 rfl) ?_
    refine xVC (q0 := 20) (ci := 3) (As := [.ref r, .int (nI p9), .int u9]) (rest := [.ref s0]) ⟨hx, hb, hml, hown, hts⟩ (c_X3_tipped γ l s0 r n f p9 u9 (by omega) (by omega) (by omega)) (cwV 3 hts gL_act_X3_tipped rfl rfl rfl hdv_X3_tipped ⟨(Nat.le_of_ble_eq_true rfl), (Nat.le_of_ble_eq_true rfl)⟩) xAz_blind (fun U _ hW => xAz.warm hW hAr) hK hP hD hS hA [21] rfl rfl rfl rfl rfl hl.1 rfl (Nat.le_of_ble_eq_true rfl) dL_act_289 ⟨(by omega : _ ≤ 203), (by omega : _ ≤ 2700)⟩ (fun r9 w9 v9 H locs hw hP hD hS => ?_)
    obtain ⟨b84x, rfl, rfl, rfl⟩ := hw
    have hP : xP γ ((([xO q0 2 [.ref q1, .ref q4, .int (nI kc), .int td, .ref q2, .ref q3], xO q1 0 [.ref a1, .int (nI n)], xA γ a1 12 f, xO q2 0 [.ref a2, .int tn], xA γ a2 12 tf, xO q3 1 [.ref a3, .int wn], xA γ a3 12 wf, xQ γ q4 6 (fun t9 => some (kq t9))] ++ xKp γ kq ka kn ks) ++ ([xO s0 3 [.ref r, .ref tq, .int td], xA γ r n f, xT γ tq kc (fun t9 => some (ta t9))] ++ xTs γ ta n ks kc)) ++ [xA γ b84x n (xTip n f p9 u9)]) H := hP
    have hD : va_D A ((([xO q0 2 [.ref q1, .ref q4, .int (nI kc), .int td, .ref q2, .ref q3], xO q1 0 [.ref a1, .int (nI n)], xA γ a1 12 f, xO q2 0 [.ref a2, .int tn], xA γ a2 12 tf, xO q3 1 [.ref a3, .int wn], xA γ a3 12 wf, xQ γ q4 6 (fun t9 => some (kq t9))] ++ xKp γ kq ka kn ks) ++ ([xO s0 3 [.ref r, .ref tq, .int td], xA γ r n f, xT γ tq kc (fun t9 => some (ta t9))] ++ xTs γ ta n ks kc)) ++ [xA γ b84x n (xTip n f p9 u9)]) := hD
    have hP := xmvP2 hP
    have hD := xmvD2 hD
    have hP : xP γ (([xO q0 2 [.ref q1, .ref q4, .int (nI kc), .int td, .ref q2, .ref q3], xO q1 0 [.ref a1, .int (nI n)], xA γ a1 12 f, xO q2 0 [.ref a2, .int tn], xA γ a2 12 tf, xO q3 1 [.ref a3, .int wn], xA γ a3 12 wf, xQ γ q4 6 (fun t9 => some (kq t9))] ++ xKp γ kq ka kn ks) ++ ([xO s0 3 [.ref r, .ref tq, .int td], xA γ r n f, xT γ tq kc (fun t9 => some (ta t9)), xA γ b84x n (xTip n f p9 u9)] ++ xTs γ ta n ks kc)) H := hP
    have hD : va_D A (([xO q0 2 [.ref q1, .ref q4, .int (nI kc), .int td, .ref q2, .ref q3], xO q1 0 [.ref a1, .int (nI n)], xA γ a1 12 f, xO q2 0 [.ref a2, .int tn], xA γ a2 12 tf, xO q3 1 [.ref a3, .int wn], xA γ a3 12 wf, xQ γ q4 6 (fun t9 => some (kq t9))] ++ xKp γ kq ka kn ks) ++ ([xO s0 3 [.ref r, .ref tq, .int td], xA γ r n f, xT γ tq kc (fun t9 => some (ta t9)), xA γ b84x n (xTip n f p9 u9)] ++ xTs γ ta n ks kc)) := hD
    refine W.eq (g2 := F0 m 292 ls [.ref b84x, .ref s0]) rfl ?_
    refine va_put (D := γ.1) (ci := 3) (v := .ref b84x) (ty := .array .int) (C := RX3) (T := TX3) (N := 3) hx hb hts iwL_act_3 tyX3 tyX3_ok nmX3 hown hK hP hD hS 20 rfl rfl 0 (by decide) (hts _ flL_act_9) (fun _ h9 => h9) rfl (by decide +kernel) rfl rfl (Nat.le_of_ble_eq_true rfl) dL_act_292 (fun H locs hP hD hS => ?_)
    have hP : xP γ (([xO q0 2 [.ref q1, .ref q4, .int (nI kc), .int td, .ref q2, .ref q3], xO q1 0 [.ref a1, .int (nI n)], xA γ a1 12 f, xO q2 0 [.ref a2, .int tn], xA γ a2 12 tf, xO q3 1 [.ref a3, .int wn], xA γ a3 12 wf, xQ γ q4 6 (fun t9 => some (kq t9))] ++ xKp γ kq ka kn ks) ++ ([xO s0 3 [.ref b84x, .ref tq, .int td], xA γ r n f, xT γ tq kc (fun t9 => some (ta t9)), xA γ b84x n (xTip n f p9 u9)] ++ xTs γ ta n ks kc)) H := hP
    have hD : va_D A (([xO q0 2 [.ref q1, .ref q4, .int (nI kc), .int td, .ref q2, .ref q3], xO q1 0 [.ref a1, .int (nI n)], xA γ a1 12 f, xO q2 0 [.ref a2, .int tn], xA γ a2 12 tf, xO q3 1 [.ref a3, .int wn], xA γ a3 12 wf, xQ γ q4 6 (fun t9 => some (kq t9))] ++ xKp γ kq ka kn ks) ++ ([xO s0 3 [.ref b84x, .ref tq, .int td], xA γ r n f, xT γ tq kc (fun t9 => some (ta t9)), xA γ b84x n (xTip n f p9 u9)] ++ xTs γ ta n ks kc)) := hD
    refine lv_aload_n hx hb dL_act_295 rfl (lv_at hl 2 rfl) ?_
    refine lv_dup hx hb dL_act_296 rfl ?_
    refine va_get (D := γ.1) (ci := 3) (v := .int td) (C := RX3) (T := TX3) (N := 3) hx hb hts iwL_act_3 hown hK hP 20 rfl rfl 2 (by decide) (hts _ flL_act_43) (fun _ h9 => h9) rfl dL_act_297 ?_
    refine lv_iload hx hb dL_act_300 (lv_at hl 0 rfl) ?_
    refine va_mabs hx hb (hml.trans hl.1.symm) hown (hts _ wdL_act_m47a) (hts _ wdL_act_m47b) (hts _ wdL_act_m47c) (hts _ wdL_act_m47d) (Nat.le_of_ble_eq_true rfl) (Nat.le_of_ble_eq_true rfl) (Nat.le_of_ble_eq_true rfl) (Nat.le_of_ble_eq_true rfl) dL_act_302 ?_
    refine lv_iadd hx hb dL_act_305 ?_
    refine x_top (y := td + xAbs u9) (rfl) ?_
    refine va_put (D := γ.1) (ci := 3) (v := .int (td + xAbs u9)) (ty := .int) (C := RX3) (T := TX3) (N := 3) hx hb hts iwL_act_3 tyX3 tyX3_ok nmX3 hown hK hP hD hS 20 rfl rfl 2 (by decide) (hts _ flL_act_43) (fun _ h9 => h9) rfl (by decide +kernel) rfl rfl (Nat.le_of_ble_eq_true rfl) dL_act_306 (fun H locs hP hD hS => ?_)
    have hP : xP γ (([xO q0 2 [.ref q1, .ref q4, .int (nI kc), .int td, .ref q2, .ref q3], xO q1 0 [.ref a1, .int (nI n)], xA γ a1 12 f, xO q2 0 [.ref a2, .int tn], xA γ a2 12 tf, xO q3 1 [.ref a3, .int wn], xA γ a3 12 wf, xQ γ q4 6 (fun t9 => some (kq t9))] ++ xKp γ kq ka kn ks) ++ ([xO s0 3 [.ref b84x, .ref tq, .int (td + xAbs u9)], xA γ r n f, xT γ tq kc (fun t9 => some (ta t9)), xA γ b84x n (xTip n f p9 u9)] ++ xTs γ ta n ks kc)) H := hP
    have hD : va_D A (([xO q0 2 [.ref q1, .ref q4, .int (nI kc), .int td, .ref q2, .ref q3], xO q1 0 [.ref a1, .int (nI n)], xA γ a1 12 f, xO q2 0 [.ref a2, .int tn], xA γ a2 12 tf, xO q3 1 [.ref a3, .int wn], xA γ a3 12 wf, xQ γ q4 6 (fun t9 => some (kq t9))] ++ xKp γ kq ka kn ks) ++ ([xO s0 3 [.ref b84x, .ref tq, .int (td + xAbs u9)], xA γ r n f, xT γ tq kc (fun t9 => some (ta t9)), xA γ b84x n (xTip n f p9 u9)] ++ xTs γ ta n ks kc)) := hD
    refine lv_aload_n hx hb dL_act_309 rfl (lv_at hl 1 rfl) ?_
    refine lv_iload hx hb dL_act_310 (lv_at hl 5 rfl) ?_
    refine lv_iload hx hb dL_act_312 (lv_at hl 0 rfl) ?_
    refine xVM (q0 := 0) (ci := 2) (As := [.int (nI p9), .int u9]) (rest := []) ⟨hx, hb, hml, hown, hts⟩ (c_X2_tip γ l q0 q1 q2 q3 q4 kc td a1 n f p9 u9 (by omega) (by omega) (by omega) hu1 hu2) (cwV 2 hts gL_act_X2_tip rfl rfl rfl hdv_X2_tip ⟨(Nat.le_of_ble_eq_true rfl), (Nat.le_of_ble_eq_true rfl)⟩) hK hP hD hS hA [0, 1, 2] rfl rfl rfl rfl rfl hl.1 rfl (Nat.le_of_ble_eq_true rfl) dL_act_314 ⟨(by omega : _ ≤ 203), (by omega : _ ≤ 2700)⟩ (fun r9 w9 H locs hw hP hD hS => ?_)
    obtain ⟨rfl, rfl⟩ := hw
    have hP : xP γ (([xO q0 2 [.ref q1, .ref q4, .int (nI kc), .int (td + xAbs u9), .ref q2, .ref q3], xO q1 0 [.ref a1, .int (nI n)], xA γ a1 12 (xTip n f p9 u9), xO q2 0 [.ref a2, .int tn], xA γ a2 12 tf, xO q3 1 [.ref a3, .int wn], xA γ a3 12 wf, xQ γ q4 6 (fun t9 => some (kq t9))] ++ xKp γ kq ka kn ks) ++ ([xO s0 3 [.ref b84x, .ref tq, .int (td + xAbs u9)], xA γ r n f, xT γ tq kc (fun t9 => some (ta t9)), xA γ b84x n (xTip n f p9 u9)] ++ xTs γ ta n ks kc)) H := hP
    have hD : va_D A (([xO q0 2 [.ref q1, .ref q4, .int (nI kc), .int (td + xAbs u9), .ref q2, .ref q3], xO q1 0 [.ref a1, .int (nI n)], xA γ a1 12 (xTip n f p9 u9), xO q2 0 [.ref a2, .int tn], xA γ a2 12 tf, xO q3 1 [.ref a3, .int wn], xA γ a3 12 wf, xQ γ q4 6 (fun t9 => some (kq t9))] ++ xKp γ kq ka kn ks) ++ ([xO s0 3 [.ref b84x, .ref tq, .int (td + xAbs u9)], xA γ r n f, xT γ tq kc (fun t9 => some (ta t9)), xA γ b84x n (xTip n f p9 u9)] ++ xTs γ ta n ks kc)) := hD
    refine W.eq (g2 := F0 m 317 ls [.int (xTip n f p9 u9 p9)]) rfl ?_
    refine lv_aload_n hx hb dL_act_317 rfl (lv_at hl 2 rfl) ?_
    refine va_get (D := γ.1) (ci := 3) (v := .ref b84x) (C := RX3) (T := TX3) (N := 3) hx hb hts iwL_act_3 hown hK hP 20 rfl rfl 0 (by decide) (hts _ flL_act_9) (fun _ h9 => h9) rfl dL_act_318 ?_
    refine lv_iload hx hb dL_act_321 (lv_at hl 5 rfl) ?_
    refine x_iald (f := xTip n f p9 u9) hx hb hK hP 23 rfl p9 rfl (by omega) (by omega) dL_act_323 ?_
    refine lv_icmp_ne (tgt := 331) hx hb dL_act_324 (by decide) (fun c => absurd (rfl) c) (fun _ => ?_)
    refine lv_iconst (v := 1) hx hb dL_act_327 (by decide) ?_
    refine lv_goto (tgt := 332) hx hb dL_act_328 (by decide) ?_
    have hPD := xre (C := [xO q0 2 [.ref q1, .ref q4, .int (nI kc), .int (td + xAbs u9), .ref q2, .ref q3], xO q1 0 [.ref a1, .int (nI n)], xA γ a1 12 (xTip n f p9 u9), xO q2 0 [.ref a2, .int tn], xA γ a2 12 tf, xO q3 1 [.ref a3, .int wn], xA γ a3 12 wf, xQ γ q4 6 (fun t9 => some (kq t9))] ++ xKp γ kq ka kn ks) (E := [xO s0 3 [.ref b84x, .ref tq, .int (td + xAbs u9)], xA γ r n f, xT γ tq kc (fun t9 => some (ta t9)), xA γ b84x n (xTip n f p9 u9)]) (E2 := [xO s0 3 [.ref b84x, .ref tq, .int (td + xAbs u9)], xA γ b84x n (xTip n f p9 u9), xT γ tq kc (fun t9 => some (ta t9))]) (T := xTs γ ta n ks kc) [0, 3, 2] rfl rfl hP hD
    have hP := hPD.1
    have hD := hPD.2
    have hP : xP γ (([xO q0 2 [.ref q1, .ref q4, .int (nI kc), .int (td + xAbs u9), .ref q2, .ref q3], xO q1 0 [.ref a1, .int (nI n)], xA γ a1 12 (xTip n f p9 u9), xO q2 0 [.ref a2, .int tn], xA γ a2 12 tf, xO q3 1 [.ref a3, .int wn], xA γ a3 12 wf, xQ γ q4 6 (fun t9 => some (kq t9))] ++ xKp γ kq ka kn ks) ++ ([xO s0 3 [.ref b84x, .ref tq, .int (td + xAbs u9)], xA γ b84x n (xTip n f p9 u9), xT γ tq kc (fun t9 => some (ta t9))] ++ xTs γ ta n ks kc)) H := hP
    have hD : va_D A (([xO q0 2 [.ref q1, .ref q4, .int (nI kc), .int (td + xAbs u9), .ref q2, .ref q3], xO q1 0 [.ref a1, .int (nI n)], xA γ a1 12 (xTip n f p9 u9), xO q2 0 [.ref a2, .int tn], xA γ a2 12 tf, xO q3 1 [.ref a3, .int wn], xA γ a3 12 wf, xQ γ q4 6 (fun t9 => some (kq t9))] ++ xKp γ kq ka kn ks) ++ ([xO s0 3 [.ref b84x, .ref tq, .int (td + xAbs u9)], xA γ b84x n (xTip n f p9 u9), xT γ tq kc (fun t9 => some (ta t9))] ++ xTs γ ta n ks kc)) := hD
    subst hQ
    exact xG_z hx hb hr hlocks dL_act_332 (Or.inr rfl) hP hD hS (by omega : _ ≤ 203) (by omega : _ ≤ 2700) (⟨rfl, n, kc, td + xAbs u9, tn, wn, xTip n f p9 u9, tf, wf, ks, kn, b84x, tq, ta, hI.tip hj5 hp9 hu1 hu2, hkn, rfl⟩)

theorem hdv_X2_turn : yX2_turn.cls = RX2 ∧ yX2_turn.cls ≠ "java/lang/invoke/MethodHandle" ∧ yX2_turn.cls ≠ "java/lang/invoke/VarHandle" ∧ (parseMethodDescriptor yX2_turn.desc).map (fun d => d.parameters.length) = some 0 := by decide +kernel
set_option maxHeartbeats 8000000 in
set_option maxRecDepth 100000 in
theorem xact_turn {p : Program} {l : Launch} {e : Env} {s : State} {m : MethodId} {args : Array Value} {below : List Frame} {meth : Method} {c : Code} (hlt : l.stackTraces = false) (hx : p.tables.exec = Jvm.exec) (hb : c.code = cL_act) (hr : meth.sig.returnType = some .boolean) (hml : c.maxLocals = 8) (hts : ∀ w ∈ wsL_act, w.before args s = true) (hown : s.vm.findClass RL = some m.cls) (hlocks : meth.locks = false) (htab : c.exceptionTable.toList = tableOf [(18, 99, 616, 80), (100, 143, 616, 80), (144, 234, 616, 80), (235, 332, 616, 80), (333, 391, 616, 80), (392, 458, 616, 80), (459, 508, 616, 80), (509, 518, 616, 80), (519, 615, 616, 80)]) {γ : xG} (hK : xK γ s) (sa : Nat → Nat) {A : Nat → Prop} (hEv : xEv s) (hEs : xEs sa s) (hEh : xEh A s s.heap) (hAr : xAz s) (hA : ∀ q : Nat, s.heap.size ≤ q → A q) (q0 q1 a1 q2 a2 q3 a3 q4 s0 : Nat) (kq ka : Nat → Nat) (x : Int32) (j : Nat) (hj5 : j < 512) (n kc : Nat) (td tn wn : Int32) (f tf wf : xRow) (ks : Nat → xRow) (kn : Nat → Int32) (r tq : Nat) (ta : Nat → Nat) (hI : xInv j n kc f ks) (hkn : ∀ t, t < kc → kn t = nI n) (hP : xP γ (DWt γ q0 q1 a1 q2 a2 q3 a3 q4 s0 kq ka n kc td tn wn f tf wf ks kn r tq ta) s.heap) (hD : va_D A (DWt γ q0 q1 a1 q2 a2 q3 a3 q4 s0 kq ka n kc td tn wn f tf wf ks kn r tq ta)) (p9 : Nat) (hp9 : p9 < n) (ls : Array Slot) (hl : lv_has ls 8 [(0, .ref q0), (1, .ref s0), (2, .int x), (3, .int (nI n)), (4, .int (nI p9)), (5, .int 1)]) : W p l e ({ frames := 8, cells := 203, slots := 2700, locals := 140 } : Room) s m args below meth c s.heap [] 0 0 (MQ below (xGQ γ A (xActP γ q0 q1 a1 q2 a2 q3 a3 q4 s0 kq ka (j + 1) (.int 1))) args s 203 2700 A) (F0 m 333 ls []) := by
  obtain ⟨Q, hQ⟩ : ∃ Q9, Q9 = MQ below (xGQ γ A (xActP γ q0 q1 a1 q2 a2 q3 a3 q4 s0 kq ka (j + 1) (.int 1))) args s 203 2700 A := ⟨_, rfl⟩
  rw [← hQ]
  have hn0 := hI.1
  have hn1 := hI.2.1
  have hkc := hI.2.2.1
  have hP : xP γ (([xO q0 2 [.ref q1, .ref q4, .int (nI kc), .int td, .ref q2, .ref q3], xO q1 0 [.ref a1, .int (nI n)], xA γ a1 12 f, xO q2 0 [.ref a2, .int tn], xA γ a2 12 tf, xO q3 1 [.ref a3, .int wn], xA γ a3 12 wf, xQ γ q4 6 (fun t9 => some (kq t9))] ++ xKp γ kq ka kn ks) ++ ([xO s0 3 [.ref r, .ref tq, .int td], xA γ r n f, xT γ tq kc (fun t9 => some (ta t9))] ++ xTs γ ta n ks kc)) s.heap := hP
  have hD : va_D A (([xO q0 2 [.ref q1, .ref q4, .int (nI kc), .int td, .ref q2, .ref q3], xO q1 0 [.ref a1, .int (nI n)], xA γ a1 12 f, xO q2 0 [.ref a2, .int tn], xA γ a2 12 tf, xO q3 1 [.ref a3, .int wn], xA γ a3 12 wf, xQ γ q4 6 (fun t9 => some (kq t9))] ++ xKp γ kq ka kn ks) ++ ([xO s0 3 [.ref r, .ref tq, .int td], xA γ r n f, xT γ tq kc (fun t9 => some (ta t9))] ++ xTs γ ta n ks kc)) := hD
  have hS : va_S A s.heap s.heap [] := va_S.rf
  refine lv_iload_n hx hb dL_act_333 rfl (lv_at hl 3 rfl) ?_
  refine x_newI hx hb (hts _ wdL_act_naint) hK hP hD hS hA n (nI_pos (by omega)) (nI_clamp (by omega)) (show n * 4 ≤ 536870912 by omega) (by omega : _ ≤ 203) (by omega : _ ≤ 2700) dL_act_334 (fun q334x H hP hD hS => ?_)
  have hP := xmvP2 hP
  have hD := xmvD2 hD
  have hP : xP γ (([xO q0 2 [.ref q1, .ref q4, .int (nI kc), .int td, .ref q2, .ref q3], xO q1 0 [.ref a1, .int (nI n)], xA γ a1 12 f, xO q2 0 [.ref a2, .int tn], xA γ a2 12 tf, xO q3 1 [.ref a3, .int wn], xA γ a3 12 wf, xQ γ q4 6 (fun t9 => some (kq t9))] ++ xKp γ kq ka kn ks) ++ ([xO s0 3 [.ref r, .ref tq, .int td], xA γ r n f, xT γ tq kc (fun t9 => some (ta t9)), xA γ q334x n (fun _ => 0)] ++ xTs γ ta n ks kc)) H := hP
  have hD : va_D A (([xO q0 2 [.ref q1, .ref q4, .int (nI kc), .int td, .ref q2, .ref q3], xO q1 0 [.ref a1, .int (nI n)], xA γ a1 12 f, xO q2 0 [.ref a2, .int tn], xA γ a2 12 tf, xO q3 1 [.ref a3, .int wn], xA γ a3 12 wf, xQ γ q4 6 (fun t9 => some (kq t9))] ++ xKp γ kq ka kn ks) ++ ([xO s0 3 [.ref r, .ref tq, .int td], xA γ r n f, xT γ tq kc (fun t9 => some (ta t9)), xA γ q334x n (fun _ => 0)] ++ xTs γ ta n ks kc)) := hD
  refine lv_astore (lv' := [(6, .ref q334x), (0, .ref q0), (1, .ref s0), (2, .int x), (3, .int (nI n)), (4, .int (nI p9)), (5, .int 1)]) hx hb dL_act_336 hl (by decide) rfl (fun ls hl => ?_)
  refine lv_iconst (v := 0) hx hb dL_act_338 (by decide) ?_
  refine lv_istore (lv' := [(7, .int 0), (6, .ref q334x), (0, .ref q0), (1, .ref s0), (2, .int x), (3, .int (nI n)), (4, .int (nI p9)), (5, .int 1)]) hx hb dL_act_339 hl (by decide) rfl (fun ls hl => ?_)
  have loop341 : ∀ j : Nat, ∀ (k : Nat) (g : xRow), k + j = n → (∀ i, i < k → g (xWr n ((i : Int) + 1)) = f i) → ∀ (H : Heap) (locs : List Loc), xP γ (([xO q0 2 [.ref q1, .ref q4, .int (nI kc), .int td, .ref q2, .ref q3], xO q1 0 [.ref a1, .int (nI n)], xA γ a1 12 f, xO q2 0 [.ref a2, .int tn], xA γ a2 12 tf, xO q3 1 [.ref a3, .int wn], xA γ a3 12 wf, xQ γ q4 6 (fun t9 => some (kq t9))] ++ xKp γ kq ka kn ks) ++ ([xO s0 3 [.ref r, .ref tq, .int td], xA γ r n f, xT γ tq kc (fun t9 => some (ta t9)), xA γ q334x n g] ++ xTs γ ta n ks kc)) H → va_D A (([xO q0 2 [.ref q1, .ref q4, .int (nI kc), .int td, .ref q2, .ref q3], xO q1 0 [.ref a1, .int (nI n)], xA γ a1 12 f, xO q2 0 [.ref a2, .int tn], xA γ a2 12 tf, xO q3 1 [.ref a3, .int wn], xA γ a3 12 wf, xQ γ q4 6 (fun t9 => some (kq t9))] ++ xKp γ kq ka kn ks) ++ ([xO s0 3 [.ref r, .ref tq, .int td], xA γ r n f, xT γ tq kc (fun t9 => some (ta t9)), xA γ q334x n g] ++ xTs γ ta n ks kc)) → va_S A s.heap H locs → ∀ ls : Array Slot, lv_has ls 8 [(0, .ref q0), (1, .ref s0), (2, .int x), (3, .int (nI n)), (4, .int (nI p9)), (5, .int 1), (6, .ref q334x), (7, .int (nI k))] → W p l e ({ frames := 8, cells := 203, slots := 2700, locals := 140 } : Room) s m args below meth c H locs (0 + 1) (0 + n) Q (F0 m 341 ls []) := by
    intro j
    induction j with
    | zero =>
      intro k g hj hg H locs hP hD hS ls hl
      refine lv_iload hx hb dL_act_341 (lv_at hl 7 rfl) ?_
      refine lv_iload_n hx hb dL_act_343 rfl (lv_at hl 3 rfl) ?_
      refine lv_icmp_ge (tgt := 369) hx hb dL_act_344 (by decide) (fun _ => ?_) (fun c => absurd (nI_le (a := n) (b := k) (by omega) (by omega)) c)
      have hgr : ∀ i, i < n → g i = xRot n f i := xRot_of (by omega) (by omega) (fun i hi => hg i (by omega))
      have hP := xP_row hP 23 rfl (xRot n f) hgr
      have hD := xD_row (e := (xA γ q334x n (xRot n f)).2) hD 23 rfl
      have hP : xP γ (([xO q0 2 [.ref q1, .ref q4, .int (nI kc), .int td, .ref q2, .ref q3], xO q1 0 [.ref a1, .int (nI n)], xA γ a1 12 f, xO q2 0 [.ref a2, .int tn], xA γ a2 12 tf, xO q3 1 [.ref a3, .int wn], xA γ a3 12 wf, xQ γ q4 6 (fun t9 => some (kq t9))] ++ xKp γ kq ka kn ks) ++ ([xO s0 3 [.ref r, .ref tq, .int td], xA γ r n f, xT γ tq kc (fun t9 => some (ta t9)), xA γ q334x n (xRot n f)] ++ xTs γ ta n ks kc)) H := hP
      have hD : va_D A (([xO q0 2 [.ref q1, .ref q4, .int (nI kc), .int td, .ref q2, .ref q3], xO q1 0 [.ref a1, .int (nI n)], xA γ a1 12 f, xO q2 0 [.ref a2, .int tn], xA γ a2 12 tf, xO q3 1 [.ref a3, .int wn], xA γ a3 12 wf, xQ γ q4 6 (fun t9 => some (kq t9))] ++ xKp γ kq ka kn ks) ++ ([xO s0 3 [.ref r, .ref tq, .int td], xA γ r n f, xT γ tq kc (fun t9 => some (ta t9)), xA γ q334x n (xRot n f)] ++ xTs γ ta n ks kc)) := hD
      refine lv_aload_n hx hb dL_act_369 rfl (lv_at hl 1 rfl) ?_
      refine lv_aload hx hb dL_act_370 (lv_at hl 6 rfl) ?_
      refine va_put (D := γ.1) (ci := 3) (v := .ref q334x) (ty := .array .int) (C := RX3) (T := TX3) (N := 3) hx hb hts iwL_act_3 tyX3 tyX3_ok nmX3 hown hK hP hD hS 20 rfl rfl 0 (by decide) (hts _ flL_act_9) (fun _ h9 => h9) rfl (by decide +kernel) rfl rfl (Nat.le_of_ble_eq_true rfl) dL_act_372 (fun H locs hP hD hS => ?_)
      have hP : xP γ (([xO q0 2 [.ref q1, .ref q4, .int (nI kc), .int td, .ref q2, .ref q3], xO q1 0 [.ref a1, .int (nI n)], xA γ a1 12 f, xO q2 0 [.ref a2, .int tn], xA γ a2 12 tf, xO q3 1 [.ref a3, .int wn], xA γ a3 12 wf, xQ γ q4 6 (fun t9 => some (kq t9))] ++ xKp γ kq ka kn ks) ++ ([xO s0 3 [.ref q334x, .ref tq, .int td], xA γ r n f, xT γ tq kc (fun t9 => some (ta t9)), xA γ q334x n (xRot n f)] ++ xTs γ ta n ks kc)) H := hP
      have hD : va_D A (([xO q0 2 [.ref q1, .ref q4, .int (nI kc), .int td, .ref q2, .ref q3], xO q1 0 [.ref a1, .int (nI n)], xA γ a1 12 f, xO q2 0 [.ref a2, .int tn], xA γ a2 12 tf, xO q3 1 [.ref a3, .int wn], xA γ a3 12 wf, xQ γ q4 6 (fun t9 => some (kq t9))] ++ xKp γ kq ka kn ks) ++ ([xO s0 3 [.ref q334x, .ref tq, .int td], xA γ r n f, xT γ tq kc (fun t9 => some (ta t9)), xA γ q334x n (xRot n f)] ++ xTs γ ta n ks kc)) := hD
      refine lv_aload_n hx hb dL_act_375 rfl (lv_at hl 0 rfl) ?_
      refine xVM (q0 := 0) (ci := 2) (As := []) (rest := []) ⟨hx, hb, hml, hown, hts⟩ (c_X2_turn γ l q0 q1 q2 q3 q4 kc td a1 n f (by omega) (by omega)) (cwV 0 hts gL_act_X2_turn rfl rfl rfl hdv_X2_turn ⟨(Nat.le_of_ble_eq_true rfl), (Nat.le_of_ble_eq_true rfl)⟩) hK hP hD hS hA [0, 1, 2] rfl rfl rfl rfl rfl hl.1 rfl (Nat.le_of_ble_eq_true rfl) dL_act_376 ⟨(by omega : _ ≤ 203), (by omega : _ ≤ 2700)⟩ (fun r9 w9 H locs hw hP hD hS => ?_)
      obtain ⟨rfl, rfl⟩ := hw
      have hP : xP γ (([xO q0 2 [.ref q1, .ref q4, .int (nI kc), .int td, .ref q2, .ref q3], xO q1 0 [.ref a1, .int (nI n)], xA γ a1 12 (xRot n f), xO q2 0 [.ref a2, .int tn], xA γ a2 12 tf, xO q3 1 [.ref a3, .int wn], xA γ a3 12 wf, xQ γ q4 6 (fun t9 => some (kq t9))] ++ xKp γ kq ka kn ks) ++ ([xO s0 3 [.ref q334x, .ref tq, .int td], xA γ r n f, xT γ tq kc (fun t9 => some (ta t9)), xA γ q334x n (xRot n f)] ++ xTs γ ta n ks kc)) H := hP
      have hD : va_D A (([xO q0 2 [.ref q1, .ref q4, .int (nI kc), .int td, .ref q2, .ref q3], xO q1 0 [.ref a1, .int (nI n)], xA γ a1 12 (xRot n f), xO q2 0 [.ref a2, .int tn], xA γ a2 12 tf, xO q3 1 [.ref a3, .int wn], xA γ a3 12 wf, xQ γ q4 6 (fun t9 => some (kq t9))] ++ xKp γ kq ka kn ks) ++ ([xO s0 3 [.ref q334x, .ref tq, .int td], xA γ r n f, xT γ tq kc (fun t9 => some (ta t9)), xA γ q334x n (xRot n f)] ++ xTs γ ta n ks kc)) := hD
      refine W.eq (g2 := F0 m 379 ls [.int (f (n - 1))]) rfl ?_
      refine lv_aload hx hb dL_act_379 (lv_at hl 6 rfl) ?_
      refine lv_iconst (v := 0) hx hb dL_act_381 (by decide) ?_
      refine x_iald (f := xRot n f) hx hb hK hP 23 rfl 0 rfl (by omega) (by omega) dL_act_382 ?_
      refine lv_icmp_ne (tgt := 390) hx hb dL_act_383 (by decide) (fun c => absurd (xRot_0 (by omega)) c) (fun _ => ?_)
      refine lv_iconst (v := 1) hx hb dL_act_386 (by decide) ?_
      refine lv_goto (tgt := 391) hx hb dL_act_387 (by decide) ?_
      have hPD := xre (C := [xO q0 2 [.ref q1, .ref q4, .int (nI kc), .int td, .ref q2, .ref q3], xO q1 0 [.ref a1, .int (nI n)], xA γ a1 12 (xRot n f), xO q2 0 [.ref a2, .int tn], xA γ a2 12 tf, xO q3 1 [.ref a3, .int wn], xA γ a3 12 wf, xQ γ q4 6 (fun t9 => some (kq t9))] ++ xKp γ kq ka kn ks) (E := [xO s0 3 [.ref q334x, .ref tq, .int td], xA γ r n f, xT γ tq kc (fun t9 => some (ta t9)), xA γ q334x n (xRot n f)]) (E2 := [xO s0 3 [.ref q334x, .ref tq, .int td], xA γ q334x n (xRot n f), xT γ tq kc (fun t9 => some (ta t9))]) (T := xTs γ ta n ks kc) [0, 3, 2] rfl rfl hP hD
      have hP := hPD.1
      have hD := hPD.2
      have hP : xP γ (([xO q0 2 [.ref q1, .ref q4, .int (nI kc), .int td, .ref q2, .ref q3], xO q1 0 [.ref a1, .int (nI n)], xA γ a1 12 (xRot n f), xO q2 0 [.ref a2, .int tn], xA γ a2 12 tf, xO q3 1 [.ref a3, .int wn], xA γ a3 12 wf, xQ γ q4 6 (fun t9 => some (kq t9))] ++ xKp γ kq ka kn ks) ++ ([xO s0 3 [.ref q334x, .ref tq, .int td], xA γ q334x n (xRot n f), xT γ tq kc (fun t9 => some (ta t9))] ++ xTs γ ta n ks kc)) H := hP
      have hD : va_D A (([xO q0 2 [.ref q1, .ref q4, .int (nI kc), .int td, .ref q2, .ref q3], xO q1 0 [.ref a1, .int (nI n)], xA γ a1 12 (xRot n f), xO q2 0 [.ref a2, .int tn], xA γ a2 12 tf, xO q3 1 [.ref a3, .int wn], xA γ a3 12 wf, xQ γ q4 6 (fun t9 => some (kq t9))] ++ xKp γ kq ka kn ks) ++ ([xO s0 3 [.ref q334x, .ref tq, .int td], xA γ q334x n (xRot n f), xT γ tq kc (fun t9 => some (ta t9))] ++ xTs γ ta n ks kc)) := hD
      subst hQ
      exact xG_z hx hb hr hlocks dL_act_391 (Or.inr rfl) hP hD hS (by omega : _ ≤ 203) (by omega : _ ≤ 2700) (⟨rfl, n, kc, td, tn, wn, xRot n f, tf, wf, ks, kn, q334x, tq, ta, hI.rot hj5, hkn, rfl⟩)
    | succ j ih341 =>
      intro k g hj hg H locs hP hD hS ls hl
      refine lv_iload hx hb dL_act_341 (lv_at hl 7 rfl) ?_
      refine lv_iload_n hx hb dL_act_343 rfl (lv_at hl 3 rfl) ?_
      refine lv_icmp_ge (tgt := 369) hx hb dL_act_344 (by decide) (fun c => absurd c (nI_ge (a := k) (b := n) (by omega) (by omega))) (fun _ => ?_)
      have hwk : xWr n ((k : Int) + 1) < n := xWr_lt (by omega) (by omega) (by omega)
      refine lv_aload hx hb dL_act_347 (lv_at hl 6 rfl) ?_
      refine lv_iload hx hb dL_act_349 (lv_at hl 7 rfl) ?_
      refine lv_iconst (v := 1) hx hb dL_act_351 (by decide) ?_
      refine lv_iadd hx hb dL_act_352 ?_
      refine x_top (y := nI k + 1) (rfl) ?_
      refine lv_iload_n hx hb dL_act_353 rfl (lv_at hl 3 rfl) ?_
      refine lv_irem hx hb dL_act_354 (nI_ne0 (by omega) (by omega)) ?_
      refine x_top (y := nI (xWr n ((k : Int) + 1))) (xRe (xaddI (nI_toInt (n := k) (by omega)) (show (1 : Int32).toInt = 1 from rfl) (by omega) (by omega)) hn0 hn1 (by omega) (by omega)) ?_
      refine lv_aload_n hx hb dL_act_355 rfl (lv_at hl 1 rfl) ?_
      refine va_get (D := γ.1) (ci := 3) (v := .ref r) (C := RX3) (T := TX3) (N := 3) hx hb hts iwL_act_3 hown hK hP 20 rfl rfl 0 (by decide) (hts _ flL_act_9) (fun _ h9 => h9) rfl dL_act_356 ?_
      refine lv_iload hx hb dL_act_359 (lv_at hl 7 rfl) ?_
      refine x_iald (f := f) hx hb hK hP 21 rfl k rfl (by omega) (by omega) dL_act_361 ?_
      refine x_iast (f := g) hx hb hK hP hD hS 23 rfl (xWr n ((k : Int) + 1)) rfl (by omega) (by omega) dL_act_362 (fun H locs hP hD hS => ?_)
      have hP : xP γ (([xO q0 2 [.ref q1, .ref q4, .int (nI kc), .int td, .ref q2, .ref q3], xO q1 0 [.ref a1, .int (nI n)], xA γ a1 12 f, xO q2 0 [.ref a2, .int tn], xA γ a2 12 tf, xO q3 1 [.ref a3, .int wn], xA γ a3 12 wf, xQ γ q4 6 (fun t9 => some (kq t9))] ++ xKp γ kq ka kn ks) ++ ([xO s0 3 [.ref r, .ref tq, .int td], xA γ r n f, xT γ tq kc (fun t9 => some (ta t9)), xA γ q334x n (upd g (xWr n ((k : Int) + 1)) (f k))] ++ xTs γ ta n ks kc)) H := hP
      have hD : va_D A (([xO q0 2 [.ref q1, .ref q4, .int (nI kc), .int td, .ref q2, .ref q3], xO q1 0 [.ref a1, .int (nI n)], xA γ a1 12 f, xO q2 0 [.ref a2, .int tn], xA γ a2 12 tf, xO q3 1 [.ref a3, .int wn], xA γ a3 12 wf, xQ γ q4 6 (fun t9 => some (kq t9))] ++ xKp γ kq ka kn ks) ++ ([xO s0 3 [.ref r, .ref tq, .int td], xA γ r n f, xT γ tq kc (fun t9 => some (ta t9)), xA γ q334x n (upd g (xWr n ((k : Int) + 1)) (f k))] ++ xTs γ ta n ks kc)) := hD
      refine lv_iinc (v := nI (k + 1)) (lv' := [(7, .int (nI (k + 1))), (0, .ref q0), (1, .ref s0), (2, .int x), (3, .int (nI n)), (4, .int (nI p9)), (5, .int 1), (6, .ref q334x)]) hx hb dL_act_363 hl (k := 7) rfl (nI_add k 1) (by decide) rfl (fun ls hl => ?_)
      refine lv_goto (tgt := 341) hx hb dL_act_366 (by decide) ?_
      exact ih341 (k + 1) (upd g (xWr n ((k : Int) + 1)) (f k)) (by omega) (fun i hi => xRot_s (by omega) (by omega) hi hg) _ _ hP hD hS ls (lv_sub hl [1, 2, 3, 4, 5, 6, 7, 0] rfl)
  exact loop341 n 0 (fun _ => 0) (by omega) (fun i h => absurd h (Nat.not_lt_zero i)) _ _ hP hD hS ls (lv_sub hl [2, 3, 4, 5, 6, 7, 1, 0] rfl)

theorem hdv_X2_keep : yX2_keep.cls = RX2 ∧ yX2_keep.cls ≠ "java/lang/invoke/MethodHandle" ∧ yX2_keep.cls ≠ "java/lang/invoke/VarHandle" ∧ (parseMethodDescriptor yX2_keep.desc).map (fun d => d.parameters.length) = some 0 := by decide +kernel
theorem hds_X3_with : yX3_with.cls ≠ "java/lang/invoke/MethodHandle" ∧ yX3_with.cls ≠ "java/lang/invoke/VarHandle" ∧ (parseMethodDescriptor yX3_with.desc).map (fun d => d.parameters.length) = some 2 := by decide +kernel
theorem wdL_act_h80 : Cond.classLink RL 80 "java/lang/IllegalStateException" ∈ wsL_act := by decide +kernel
set_option maxHeartbeats 8000000 in
set_option maxRecDepth 100000 in
theorem xact_keep {p : Program} {l : Launch} {e : Env} {s : State} {m : MethodId} {args : Array Value} {below : List Frame} {meth : Method} {c : Code} (hlt : l.stackTraces = false) (hx : p.tables.exec = Jvm.exec) (hb : c.code = cL_act) (hr : meth.sig.returnType = some .boolean) (hml : c.maxLocals = 8) (hts : ∀ w ∈ wsL_act, w.before args s = true) (hown : s.vm.findClass RL = some m.cls) (hlocks : meth.locks = false) (htab : c.exceptionTable.toList = tableOf [(18, 99, 616, 80), (100, 143, 616, 80), (144, 234, 616, 80), (235, 332, 616, 80), (333, 391, 616, 80), (392, 458, 616, 80), (459, 508, 616, 80), (509, 518, 616, 80), (519, 615, 616, 80)]) {γ : xG} (hK : xK γ s) (sa : Nat → Nat) {A : Nat → Prop} (hEv : xEv s) (hEs : xEs sa s) (hEh : xEh A s s.heap) (hAr : xAz s) (hA : ∀ q : Nat, s.heap.size ≤ q → A q) (q0 q1 a1 q2 a2 q3 a3 q4 s0 : Nat) (kq ka : Nat → Nat) (x : Int32) (j : Nat) (hj5 : j < 512) (n kc : Nat) (td tn wn : Int32) (f tf wf : xRow) (ks : Nat → xRow) (kn : Nat → Int32) (r tq : Nat) (ta : Nat → Nat) (hI : xInv j n kc f ks) (hkn : ∀ t, t < kc → kn t = nI n) (hP : xP γ (DWt γ q0 q1 a1 q2 a2 q3 a3 q4 s0 kq ka n kc td tn wn f tf wf ks kn r tq ta) s.heap) (hD : va_D A (DWt γ q0 q1 a1 q2 a2 q3 a3 q4 s0 kq ka n kc td tn wn f tf wf ks kn r tq ta)) (p9 : Nat) (hp9 : p9 < n) (ls : Array Slot) (hl : lv_has ls 8 [(0, .ref q0), (1, .ref s0), (2, .int x), (3, .int (nI n)), (4, .int (nI p9)), (5, .int 1)]) : W p l e ({ frames := 8, cells := 203, slots := 2700, locals := 140 } : Room) s m args below meth c s.heap [] 0 0 (MQ below (xGQ γ A (xActP γ q0 q1 a1 q2 a2 q3 a3 q4 s0 kq ka (j + 1) (.int 1))) args s 203 2700 A) (F0 m 392 ls []) := by
  obtain ⟨Q, hQ⟩ : ∃ Q9, Q9 = MQ below (xGQ γ A (xActP γ q0 q1 a1 q2 a2 q3 a3 q4 s0 kq ka (j + 1) (.int 1))) args s 203 2700 A := ⟨_, rfl⟩
  rw [← hQ]
  have hn0 := hI.1
  have hn1 := hI.2.1
  have hkc := hI.2.2.1
  have hP : xP γ (([xO q0 2 [.ref q1, .ref q4, .int (nI kc), .int td, .ref q2, .ref q3], xO q1 0 [.ref a1, .int (nI n)], xA γ a1 12 f, xO q2 0 [.ref a2, .int tn], xA γ a2 12 tf, xO q3 1 [.ref a3, .int wn], xA γ a3 12 wf, xQ γ q4 6 (fun t9 => some (kq t9))] ++ xKp γ kq ka kn ks) ++ ([xO s0 3 [.ref r, .ref tq, .int td], xA γ r n f, xT γ tq kc (fun t9 => some (ta t9))] ++ xTs γ ta n ks kc)) s.heap := hP
  have hD : va_D A (([xO q0 2 [.ref q1, .ref q4, .int (nI kc), .int td, .ref q2, .ref q3], xO q1 0 [.ref a1, .int (nI n)], xA γ a1 12 f, xO q2 0 [.ref a2, .int tn], xA γ a2 12 tf, xO q3 1 [.ref a3, .int wn], xA γ a3 12 wf, xQ γ q4 6 (fun t9 => some (kq t9))] ++ xKp γ kq ka kn ks) ++ ([xO s0 3 [.ref r, .ref tq, .int td], xA γ r n f, xT γ tq kc (fun t9 => some (ta t9))] ++ xTs γ ta n ks kc)) := hD
  have hS : va_S A s.heap s.heap [] := va_S.rf
  refine lv_aload_n hx hb dL_act_392 rfl (lv_at hl 1 rfl) ?_
  refine va_get (D := γ.1) (ci := 3) (v := .ref tq) (C := RX3) (T := TX3) (N := 3) hx hb hts iwL_act_3 hown hK hP 20 rfl rfl 1 (by decide) (hts _ flL_act_22) (fun _ h9 => h9) rfl dL_act_393 ?_
  refine va_alen (v := nI kc) hx hb hK hP 22 2 rfl rfl rfl dL_act_396 ?_
  refine lv_istore (lv' := [(6, .int (nI kc)), (0, .ref q0), (1, .ref s0), (2, .int x), (3, .int (nI n)), (4, .int (nI p9)), (5, .int 1)]) hx hb dL_act_397 hl (by decide) rfl (fun ls hl => ?_)
  refine lv_iload hx hb dL_act_399 (lv_at hl 0 rfl) ?_
  refine lv_bipush (v := 6) hx hb dL_act_401 (by decide) ?_
  refine lv_icmp_ge (tgt := 410) hx hb dL_act_403 (by decide) (fun c403 => ?_) (fun c403 => ?_)
  · have hc6 : kc = 6 := by have h := (xkc6 hkc).mp c403; omega
    refine lv_iconst (v := 0) hx hb dL_act_410 (by decide) ?_
    refine lv_istore (lv' := [(5, .int 0), (6, .int (nI kc)), (0, .ref q0), (1, .ref s0), (2, .int x), (3, .int (nI n)), (4, .int (nI p9))]) hx hb dL_act_411 hl (by decide) rfl (fun ls hl => ?_)
    refine lv_iload hx hb dL_act_413 (lv_at hl 0 rfl) ?_
    refine lv_if_eq (tgt := 439) hx hb dL_act_415 (by decide) (fun _ => ?_) (fun c => absurd (rfl) c)
    refine lv_aload_n hx hb dL_act_439 rfl (lv_at hl 2 rfl) ?_
    refine xXV (q0 := 0) (ci := 2) (As := []) (rest := []) ⟨hx, hb, hml, hown, hts⟩ (c_X2_keep_x γ l hlt sa q0 q1 q2 q3 q4 kc td (by omega)) (cwV 0 hts gL_act_X2_keep rfl rfl rfl hdv_X2_keep ⟨(Nat.le_of_ble_eq_true rfl), (Nat.le_of_ble_eq_true rfl)⟩) hK hP (fun U hU hW => xE.at hW hU hEv hEs hEh hS) [0] rfl rfl rfl rfl hl.1 rfl (Nat.le_of_ble_eq_true rfl) dL_act_440 ⟨(by omega : _ ≤ 203), (by omega : _ ≤ 2700)⟩ (fun H1 ce9 q9 hz9 hk9 hce hcv hcl => ?_)
    refine vx_catch (E := "java/lang/IllegalStateException") (name := "java/lang/IllegalStateException") (pc := 440) hown [⟨18, 99, 616, 80⟩, ⟨100, 143, 616, 80⟩, ⟨144, 234, 616, 80⟩, ⟨235, 332, 616, 80⟩, ⟨333, 391, 616, 80⟩] ⟨392, 458, 616, 80⟩ [⟨459, 508, 616, 80⟩, ⟨509, 518, 616, 80⟩, ⟨519, 615, 616, 80⟩] (htab.trans rfl) (fun z hz => Or.inl ((by decide : ∀ z ∈ ([⟨18, 99, 616, 80⟩, ⟨100, 143, 616, 80⟩, ⟨144, 234, 616, 80⟩, ⟨235, 332, 616, 80⟩, ⟨333, 391, 616, 80⟩] : List ExceptionTableEntry), covers z 440 = false) z hz)) rfl (by decide) (hts _ wdL_act_h80) (va_Nw.use rfl hEv.2.2.1) hce hcv hcl ?_
    refine W.eq (g2 := F0 m 616 ls [.ref q9]) rfl ?_
    have hP := xkept hP hk9
    have hS := xS_then hS hz9 hk9
    refine lv_astore (lv' := [(6, .ref q9), (5, .int 0), (0, .ref q0), (1, .ref s0), (2, .int x), (3, .int (nI n)), (4, .int (nI p9))]) hx hb dL_act_616 hl (by decide) rfl (fun ls hl => ?_)
    refine lv_iload hx hb dL_act_618 (lv_at hl 1 rfl) ?_
    refine lv_if_ne (tgt := 627) hx hb dL_act_620 (by decide) (fun c => absurd (rfl) c) (fun _ => ?_)
    refine lv_iconst (v := 1) hx hb dL_act_623 (by decide) ?_
    refine lv_goto (tgt := 628) hx hb dL_act_624 (by decide) ?_
    subst hQ
    exact xG_z hx hb hr hlocks dL_act_628 (Or.inr rfl) hP hD hS (by omega : _ ≤ 203) (by omega : _ ≤ 2700) (⟨rfl, n, kc, td, tn, wn, f, tf, wf, ks, kn, r, tq, ta, hI.same hj5, hkn, rfl⟩)
  · have hc6 : kc < 6 := by have h := (not_congr (xkc6 hkc)).mp c403; omega
    refine lv_iconst (v := 1) hx hb dL_act_406 (by decide) ?_
    refine lv_goto (tgt := 411) hx hb dL_act_407 (by decide) ?_
    refine lv_istore (lv' := [(5, .int 1), (6, .int (nI kc)), (0, .ref q0), (1, .ref s0), (2, .int x), (3, .int (nI n)), (4, .int (nI p9))]) hx hb dL_act_411 hl (by decide) rfl (fun ls hl => ?_)
    refine lv_iload hx hb dL_act_413 (lv_at hl 0 rfl) ?_
    refine lv_if_eq (tgt := 439) hx hb dL_act_415 (by decide) (fun c => absurd c (by decide)) (fun _ => ?_)
    refine lv_aload_n hx hb dL_act_418 rfl (lv_at hl 3 rfl) ?_
    refine lv_aload_n hx hb dL_act_419 rfl (lv_at hl 3 rfl) ?_
    refine va_get (D := γ.1) (ci := 3) (v := .ref tq) (C := RX3) (T := TX3) (N := 3) hx hb hts iwL_act_3 hown hK hP 20 rfl rfl 1 (by decide) (hts _ flL_act_22) (fun _ h9 => h9) rfl dL_act_420 ?_
    refine lv_aload_n hx hb dL_act_423 rfl (lv_at hl 3 rfl) ?_
    refine va_get (D := γ.1) (ci := 3) (v := .ref r) (C := RX3) (T := TX3) (N := 3) hx hb hts iwL_act_3 hown hK hP 20 rfl rfl 0 (by decide) (hts _ flL_act_9) (fun _ h9 => h9) rfl dL_act_424 ?_
    refine x_cloneI hx hb (hml.trans hl.1.symm) hown (hts _ wdL_act_cl1_32) (hts _ wdL_act_cl2) (hts _ wdL_act_cl3) (hts _ wdL_act_cl4) (hts _ wdL_act_cl5) hAr.1 hK hP hD hS hA 21 rfl (Nat.le_of_ble_eq_true rfl) (Nat.le_of_ble_eq_true rfl) (by omega : _ ≤ 203) (by omega : _ ≤ 2700) dL_act_427 (fun q427x H hP hD hS => ?_)
    have hP := xmvP2 hP
    have hD := xmvD2 hD
    have hP : xP γ (([xO q0 2 [.ref q1, .ref q4, .int (nI kc), .int td, .ref q2, .ref q3], xO q1 0 [.ref a1, .int (nI n)], xA γ a1 12 f, xO q2 0 [.ref a2, .int tn], xA γ a2 12 tf, xO q3 1 [.ref a3, .int wn], xA γ a3 12 wf, xQ γ q4 6 (fun t9 => some (kq t9))] ++ xKp γ kq ka kn ks) ++ ([xO s0 3 [.ref r, .ref tq, .int td], xA γ r n f, xT γ tq kc (fun t9 => some (ta t9)), xA γ q427x n f] ++ xTs γ ta n ks kc)) H := hP
    have hD : va_D A (([xO q0 2 [.ref q1, .ref q4, .int (nI kc), .int td, .ref q2, .ref q3], xO q1 0 [.ref a1, .int (nI n)], xA γ a1 12 f, xO q2 0 [.ref a2, .int tn], xA γ a2 12 tf, xO q3 1 [.ref a3, .int wn], xA γ a3 12 wf, xQ γ q4 6 (fun t9 => some (kq t9))] ++ xKp γ kq ka kn ks) ++ ([xO s0 3 [.ref r, .ref tq, .int td], xA γ r n f, xT γ tq kc (fun t9 => some (ta t9)), xA γ q427x n f] ++ xTs γ ta n ks kc)) := hD
    refine x_castI hx hb hown (hts _ wdL_act_n21a) hK hP 23 rfl dL_act_430 ?_
    have hCw := xsufT (C := [xO q0 2 [.ref q1, .ref q4, .int (nI kc), .int td, .ref q2, .ref q3], xO q1 0 [.ref a1, .int (nI n)], xA γ a1 12 f, xO q2 0 [.ref a2, .int tn], xA γ a2 12 tf, xO q3 1 [.ref a3, .int wn], xA γ a3 12 wf, xQ γ q4 6 (fun t9 => some (kq t9))] ++ xKp γ kq ka kn ks) (E := [xO s0 3 [.ref r, .ref tq, .int td], xA γ r n f, xT γ tq kc (fun t9 => some (ta t9)), xA γ q427x n f]) (T := xTs γ ta n ks kc) (w1 := [xT γ tq kc (fun t9 => some (ta t9)), xA γ q427x n f]) (nb := 24) (k := kc) (is1 := [22, 23]) rfl xTs_len rfl
    refine xSC (As := [.ref tq, .ref q427x]) (rest := [.ref s0]) ⟨hx, hb, hml, hown, hts⟩ (c_X3_with γ l tq q427x n f ta kc ks (by omega)) (va_cwS 2 hts gL_act_X3_with rfl rfl rfl hds_X3_with ⟨(Nat.le_of_ble_eq_true rfl), (Nat.le_of_ble_eq_true rfl)⟩) xAz_blind (fun U _ hW => xAz.warm hW hAr) hK hP hD hS hA ([22, 23] ++ List.range' 24 kc) (xnd_suf [22, 23] 24 kc rfl (by decide)) hCw rfl hl.1 rfl (Nat.le_of_ble_eq_true rfl) dL_act_433 ⟨(by omega : _ ≤ 203), (by omega : _ ≤ 2700)⟩ (fun r9 w9 v9 H locs hw hP hD hS => ?_)
    obtain ⟨b85x, rfl, rfl, rfl⟩ := hw
    rw [xup_id hCw] at hP hD
    have hP := xmvP2 hP
    have hD := xmvD2 hD
    have hP : xP γ (([xO q0 2 [.ref q1, .ref q4, .int (nI kc), .int td, .ref q2, .ref q3], xO q1 0 [.ref a1, .int (nI n)], xA γ a1 12 f, xO q2 0 [.ref a2, .int tn], xA γ a2 12 tf, xO q3 1 [.ref a3, .int wn], xA γ a3 12 wf, xQ γ q4 6 (fun t9 => some (kq t9))] ++ xKp γ kq ka kn ks) ++ ([xO s0 3 [.ref r, .ref tq, .int td], xA γ r n f, xT γ tq kc (fun t9 => some (ta t9)), xA γ q427x n f, xT γ b85x (kc + 1) (fun t9 => some ((fun t => if t = kc then q427x else ta t) t9))] ++ xTs γ ta n ks kc)) H := hP
    have hD : va_D A (([xO q0 2 [.ref q1, .ref q4, .int (nI kc), .int td, .ref q2, .ref q3], xO q1 0 [.ref a1, .int (nI n)], xA γ a1 12 f, xO q2 0 [.ref a2, .int tn], xA γ a2 12 tf, xO q3 1 [.ref a3, .int wn], xA γ a3 12 wf, xQ γ q4 6 (fun t9 => some (kq t9))] ++ xKp γ kq ka kn ks) ++ ([xO s0 3 [.ref r, .ref tq, .int td], xA γ r n f, xT γ tq kc (fun t9 => some (ta t9)), xA γ q427x n f, xT γ b85x (kc + 1) (fun t9 => some ((fun t => if t = kc then q427x else ta t) t9))] ++ xTs γ ta n ks kc)) := hD
    refine W.eq (g2 := F0 m 436 ls [.ref b85x, .ref s0]) rfl ?_
    refine va_put (D := γ.1) (ci := 3) (v := .ref b85x) (ty := .array (.array .int)) (C := RX3) (T := TX3) (N := 3) hx hb hts iwL_act_3 tyX3 tyX3_ok nmX3 hown hK hP hD hS 20 rfl rfl 1 (by decide) (hts _ flL_act_22) (fun _ h9 => h9) rfl (by decide +kernel) rfl rfl (Nat.le_of_ble_eq_true rfl) dL_act_436 (fun H locs hP hD hS => ?_)
    have hP : xP γ (([xO q0 2 [.ref q1, .ref q4, .int (nI kc), .int td, .ref q2, .ref q3], xO q1 0 [.ref a1, .int (nI n)], xA γ a1 12 f, xO q2 0 [.ref a2, .int tn], xA γ a2 12 tf, xO q3 1 [.ref a3, .int wn], xA γ a3 12 wf, xQ γ q4 6 (fun t9 => some (kq t9))] ++ xKp γ kq ka kn ks) ++ ([xO s0 3 [.ref r, .ref b85x, .int td], xA γ r n f, xT γ tq kc (fun t9 => some (ta t9)), xA γ q427x n f, xT γ b85x (kc + 1) (fun t9 => some ((fun t => if t = kc then q427x else ta t) t9))] ++ xTs γ ta n ks kc)) H := hP
    have hD : va_D A (([xO q0 2 [.ref q1, .ref q4, .int (nI kc), .int td, .ref q2, .ref q3], xO q1 0 [.ref a1, .int (nI n)], xA γ a1 12 f, xO q2 0 [.ref a2, .int tn], xA γ a2 12 tf, xO q3 1 [.ref a3, .int wn], xA γ a3 12 wf, xQ γ q4 6 (fun t9 => some (kq t9))] ++ xKp γ kq ka kn ks) ++ ([xO s0 3 [.ref r, .ref b85x, .int td], xA γ r n f, xT γ tq kc (fun t9 => some (ta t9)), xA γ q427x n f, xT γ b85x (kc + 1) (fun t9 => some ((fun t => if t = kc then q427x else ta t) t9))] ++ xTs γ ta n ks kc)) := hD
    refine lv_aload_n hx hb dL_act_439 rfl (lv_at hl 2 rfl) ?_
    refine xVM (q0 := 0) (ci := 2) (As := []) (rest := []) ⟨hx, hb, hml, hown, hts⟩ (c_X2_keep γ l q0 q1 q2 q3 q4 kc td a1 n f kq ka kn ks (by omega)) (cwV 0 hts gL_act_X2_keep rfl rfl rfl hdv_X2_keep ⟨(Nat.le_of_ble_eq_true rfl), (Nat.le_of_ble_eq_true rfl)⟩) hK hP hD hS hA ([0, 1, 2, 7] ++ List.range' 8 12) rfl (xsuf_M2 (base := [xO q0 2 [.ref q1, .ref q4, .int (nI kc), .int td, .ref q2, .ref q3], xO q1 0 [.ref a1, .int (nI n)], xA γ a1 12 f, xO q2 0 [.ref a2, .int tn], xA γ a2 12 tf, xO q3 1 [.ref a3, .int wn], xA γ a3 12 wf, xQ γ q4 6 (fun t9 => some (kq t9))]) rfl rfl rfl (by decide)) rfl rfl rfl hl.1 rfl (Nat.le_of_ble_eq_true rfl) dL_act_440 ⟨(by omega : _ ≤ 203), (by omega : _ ≤ 2700)⟩ (fun r9 w9 H locs hw hP hD hS => ?_)
    obtain ⟨rfl, rfl⟩ := hw
    rw [xup_suf3 (base := [xO q0 2 [.ref q1, .ref q4, .int (nI kc), .int td, .ref q2, .ref q3], xO q1 0 [.ref a1, .int (nI n)], xA γ a1 12 f, xO q2 0 [.ref a2, .int tn], xA γ a2 12 tf, xO q3 1 [.ref a3, .int wn], xA γ a3 12 wf, xQ γ q4 6 (fun t9 => some (kq t9))]) (K := xKp γ kq ka kn ks) (K' := xKp γ kq ka (fun i => if i = kc then nI n else kn i) (fun i => if i = kc then f else ks i)) (R9 := [xO s0 3 [.ref r, .ref b85x, .int td], xA γ r n f, xT γ tq kc (fun t9 => some (ta t9)), xA γ q427x n f, xT γ b85x (kc + 1) (fun t9 => some ((fun t => if t = kc then q427x else ta t) t9))] ++ xTs γ ta n ks kc) (is1 := [0, 1, 2, 7]) (w1 := [xO q0 2 [.ref q1, .ref q4, .int (nI (kc + 1)), .int td, .ref q2, .ref q3], xO q1 0 [.ref a1, .int (nI n)], xA γ a1 12 f, xQ γ q4 6 (fun t9 => some (kq t9))]) (nb := 8) rfl rfl rfl rfl (by decide)] at hP hD
    have hP : xP γ (([xO q0 2 [.ref q1, .ref q4, .int (nI (kc + 1)), .int td, .ref q2, .ref q3], xO q1 0 [.ref a1, .int (nI n)], xA γ a1 12 f, xO q2 0 [.ref a2, .int tn], xA γ a2 12 tf, xO q3 1 [.ref a3, .int wn], xA γ a3 12 wf, xQ γ q4 6 (fun t9 => some (kq t9))] ++ xKp γ kq ka (fun i => if i = kc then nI n else kn i) (fun i => if i = kc then f else ks i)) ++ ([xO s0 3 [.ref r, .ref b85x, .int td], xA γ r n f, xT γ tq kc (fun t9 => some (ta t9)), xA γ q427x n f, xT γ b85x (kc + 1) (fun t9 => some ((fun t => if t = kc then q427x else ta t) t9))] ++ xTs γ ta n ks kc)) H := hP
    have hD : va_D A (([xO q0 2 [.ref q1, .ref q4, .int (nI (kc + 1)), .int td, .ref q2, .ref q3], xO q1 0 [.ref a1, .int (nI n)], xA γ a1 12 f, xO q2 0 [.ref a2, .int tn], xA γ a2 12 tf, xO q3 1 [.ref a3, .int wn], xA γ a3 12 wf, xQ γ q4 6 (fun t9 => some (kq t9))] ++ xKp γ kq ka (fun i => if i = kc then nI n else kn i) (fun i => if i = kc then f else ks i)) ++ ([xO s0 3 [.ref r, .ref b85x, .int td], xA γ r n f, xT γ tq kc (fun t9 => some (ta t9)), xA γ q427x n f, xT γ b85x (kc + 1) (fun t9 => some ((fun t => if t = kc then q427x else ta t) t9))] ++ xTs γ ta n ks kc)) := hD
    refine W.eq (g2 := F0 m 443 ls [.int (nI kc)]) rfl ?_
    refine lv_iload hx hb dL_act_443 (lv_at hl 1 rfl) ?_
    refine lv_icmp_ne (tgt := 457) hx hb dL_act_445 (by decide) (fun c => absurd (rfl) c) (fun _ => ?_)
    refine lv_iload hx hb dL_act_448 (lv_at hl 0 rfl) ?_
    refine lv_if_eq (tgt := 457) hx hb dL_act_450 (by decide) (fun c => absurd c (by decide)) (fun _ => ?_)
    refine lv_iconst (v := 1) hx hb dL_act_453 (by decide) ?_
    refine lv_goto (tgt := 458) hx hb dL_act_454 (by decide) ?_
    have hPD := xre (C := [xO q0 2 [.ref q1, .ref q4, .int (nI (kc + 1)), .int td, .ref q2, .ref q3], xO q1 0 [.ref a1, .int (nI n)], xA γ a1 12 f, xO q2 0 [.ref a2, .int tn], xA γ a2 12 tf, xO q3 1 [.ref a3, .int wn], xA γ a3 12 wf, xQ γ q4 6 (fun t9 => some (kq t9))] ++ xKp γ kq ka (fun i => if i = kc then nI n else kn i) (fun i => if i = kc then f else ks i)) (E := [xO s0 3 [.ref r, .ref b85x, .int td], xA γ r n f, xT γ tq kc (fun t9 => some (ta t9)), xA γ q427x n f, xT γ b85x (kc + 1) (fun t9 => some ((fun t => if t = kc then q427x else ta t) t9))]) (E2 := [xO s0 3 [.ref r, .ref b85x, .int td], xA γ r n f, xT γ b85x (kc + 1) (fun t9 => some ((fun t => if t = kc then q427x else ta t) t9)), xA γ q427x n f]) (T := xTs γ ta n ks kc) [0, 1, 4, 3] rfl rfl hP hD
    have hP := hPD.1
    have hD := hPD.2
    have hP := xP_perm (xback_perm ([xO q0 2 [.ref q1, .ref q4, .int (nI (kc + 1)), .int td, .ref q2, .ref q3], xO q1 0 [.ref a1, .int (nI n)], xA γ a1 12 f, xO q2 0 [.ref a2, .int tn], xA γ a2 12 tf, xO q3 1 [.ref a3, .int wn], xA γ a3 12 wf, xQ γ q4 6 (fun t9 => some (kq t9))] ++ xKp γ kq ka (fun i => if i = kc then nI n else kn i) (fun i => if i = kc then f else ks i)) [xO s0 3 [.ref r, .ref b85x, .int td], xA γ r n f, xT γ b85x (kc + 1) (fun t9 => some ((fun t => if t = kc then q427x else ta t) t9))] [xA γ q427x n f] (xTs γ ta n ks kc)) hP
    have hD := xD_perm (xback_perm ([xO q0 2 [.ref q1, .ref q4, .int (nI (kc + 1)), .int td, .ref q2, .ref q3], xO q1 0 [.ref a1, .int (nI n)], xA γ a1 12 f, xO q2 0 [.ref a2, .int tn], xA γ a2 12 tf, xO q3 1 [.ref a3, .int wn], xA γ a3 12 wf, xQ γ q4 6 (fun t9 => some (kq t9))] ++ xKp γ kq ka (fun i => if i = kc then nI n else kn i) (fun i => if i = kc then f else ks i)) [xO s0 3 [.ref r, .ref b85x, .int td], xA γ r n f, xT γ b85x (kc + 1) (fun t9 => some ((fun t => if t = kc then q427x else ta t) t9))] [xA γ q427x n f] (xTs γ ta n ks kc)) hD
    rw [xTs_new] at hP hD
    have hP : xP γ (([xO q0 2 [.ref q1, .ref q4, .int (nI (kc + 1)), .int td, .ref q2, .ref q3], xO q1 0 [.ref a1, .int (nI n)], xA γ a1 12 f, xO q2 0 [.ref a2, .int tn], xA γ a2 12 tf, xO q3 1 [.ref a3, .int wn], xA γ a3 12 wf, xQ γ q4 6 (fun t9 => some (kq t9))] ++ xKp γ kq ka (fun i => if i = kc then nI n else kn i) (fun i => if i = kc then f else ks i)) ++ ([xO s0 3 [.ref r, .ref b85x, .int td], xA γ r n f, xT γ b85x (kc + 1) (fun t9 => some ((fun t => if t = kc then q427x else ta t) t9))] ++ xTs γ (fun t => if t = kc then q427x else ta t) n (fun t => if t = kc then f else ks t) (kc + 1))) H := hP
    have hD : va_D A (([xO q0 2 [.ref q1, .ref q4, .int (nI (kc + 1)), .int td, .ref q2, .ref q3], xO q1 0 [.ref a1, .int (nI n)], xA γ a1 12 f, xO q2 0 [.ref a2, .int tn], xA γ a2 12 tf, xO q3 1 [.ref a3, .int wn], xA γ a3 12 wf, xQ γ q4 6 (fun t9 => some (kq t9))] ++ xKp γ kq ka (fun i => if i = kc then nI n else kn i) (fun i => if i = kc then f else ks i)) ++ ([xO s0 3 [.ref r, .ref b85x, .int td], xA γ r n f, xT γ b85x (kc + 1) (fun t9 => some ((fun t => if t = kc then q427x else ta t) t9))] ++ xTs γ (fun t => if t = kc then q427x else ta t) n (fun t => if t = kc then f else ks t) (kc + 1))) := hD
    subst hQ
    exact xG_z hx hb hr hlocks dL_act_458 (Or.inr rfl) hP hD hS (by omega : _ ≤ 203) (by omega : _ ≤ 2700) (⟨rfl, n, kc + 1, td, tn, wn, f, tf, wf, fun i => if i = kc then f else ks i, fun i => if i = kc then nI n else kn i, r, b85x, (fun t => if t = kc then q427x else ta t), hI.keep hj5 (by omega), (fun t ht => by dsimp only; by_cases e : t = kc; (rw [if_pos e]); (rw [if_neg e]; exact hkn t (by omega))), rfl⟩)

theorem hdv_X2_settle : yX2_settle.cls = RX2 ∧ yX2_settle.cls ≠ "java/lang/invoke/MethodHandle" ∧ yX2_settle.cls ≠ "java/lang/invoke/VarHandle" ∧ (parseMethodDescriptor yX2_settle.desc).map (fun d => d.parameters.length) = some 1 := by decide +kernel
theorem hdv_X3_settle : yX3_settle.cls = RX3 ∧ yX3_settle.cls ≠ "java/lang/invoke/MethodHandle" ∧ yX3_settle.cls ≠ "java/lang/invoke/VarHandle" ∧ (parseMethodDescriptor yX3_settle.desc).map (fun d => d.parameters.length) = some 1 := by decide +kernel
set_option maxHeartbeats 8000000 in
set_option maxRecDepth 100000 in
theorem xact_settle {p : Program} {l : Launch} {e : Env} {s : State} {m : MethodId} {args : Array Value} {below : List Frame} {meth : Method} {c : Code} (hlt : l.stackTraces = false) (hx : p.tables.exec = Jvm.exec) (hb : c.code = cL_act) (hr : meth.sig.returnType = some .boolean) (hml : c.maxLocals = 8) (hts : ∀ w ∈ wsL_act, w.before args s = true) (hown : s.vm.findClass RL = some m.cls) (hlocks : meth.locks = false) (htab : c.exceptionTable.toList = tableOf [(18, 99, 616, 80), (100, 143, 616, 80), (144, 234, 616, 80), (235, 332, 616, 80), (333, 391, 616, 80), (392, 458, 616, 80), (459, 508, 616, 80), (509, 518, 616, 80), (519, 615, 616, 80)]) {γ : xG} (hK : xK γ s) (sa : Nat → Nat) {A : Nat → Prop} (hEv : xEv s) (hEs : xEs sa s) (hEh : xEh A s s.heap) (hAr : xAz s) (hA : ∀ q : Nat, s.heap.size ≤ q → A q) (q0 q1 a1 q2 a2 q3 a3 q4 s0 : Nat) (kq ka : Nat → Nat) (x : Int32) (j : Nat) (hj5 : j < 512) (n kc : Nat) (td tn wn : Int32) (f tf wf : xRow) (ks : Nat → xRow) (kn : Nat → Int32) (r tq : Nat) (ta : Nat → Nat) (hI : xInv j n kc f ks) (hkn : ∀ t, t < kc → kn t = nI n) (hP : xP γ (DWt γ q0 q1 a1 q2 a2 q3 a3 q4 s0 kq ka n kc td tn wn f tf wf ks kn r tq ta) s.heap) (hD : va_D A (DWt γ q0 q1 a1 q2 a2 q3 a3 q4 s0 kq ka n kc td tn wn f tf wf ks kn r tq ta)) (p9 : Nat) (hp9 : p9 < n) (ls : Array Slot) (hl : lv_has ls 8 [(0, .ref q0), (1, .ref s0), (2, .int x), (3, .int (nI n)), (4, .int (nI p9)), (5, .int 1)]) : W p l e ({ frames := 8, cells := 203, slots := 2700, locals := 140 } : Room) s m args below meth c s.heap [] 0 0 (MQ below (xGQ γ A (xActP γ q0 q1 a1 q2 a2 q3 a3 q4 s0 kq ka (j + 1) (.int 1))) args s 203 2700 A) (F0 m 459 ls []) := by
  obtain ⟨Q, hQ⟩ : ∃ Q9, Q9 = MQ below (xGQ γ A (xActP γ q0 q1 a1 q2 a2 q3 a3 q4 s0 kq ka (j + 1) (.int 1))) args s 203 2700 A := ⟨_, rfl⟩
  rw [← hQ]
  have hn0 := hI.1
  have hn1 := hI.2.1
  have hkc := hI.2.2.1
  have hP : xP γ (([xO q0 2 [.ref q1, .ref q4, .int (nI kc), .int td, .ref q2, .ref q3], xO q1 0 [.ref a1, .int (nI n)], xA γ a1 12 f, xO q2 0 [.ref a2, .int tn], xA γ a2 12 tf, xO q3 1 [.ref a3, .int wn], xA γ a3 12 wf, xQ γ q4 6 (fun t9 => some (kq t9))] ++ xKp γ kq ka kn ks) ++ ([xO s0 3 [.ref r, .ref tq, .int td], xA γ r n f, xT γ tq kc (fun t9 => some (ta t9))] ++ xTs γ ta n ks kc)) s.heap := hP
  have hD : va_D A (([xO q0 2 [.ref q1, .ref q4, .int (nI kc), .int td, .ref q2, .ref q3], xO q1 0 [.ref a1, .int (nI n)], xA γ a1 12 f, xO q2 0 [.ref a2, .int tn], xA γ a2 12 tf, xO q3 1 [.ref a3, .int wn], xA γ a3 12 wf, xQ γ q4 6 (fun t9 => some (kq t9))] ++ xKp γ kq ka kn ks) ++ ([xO s0 3 [.ref r, .ref tq, .int td], xA γ r n f, xT γ tq kc (fun t9 => some (ta t9))] ++ xTs γ ta n ks kc)) := hD
  have hS : va_S A s.heap s.heap [] := va_S.rf
  refine lv_iconst (v := 1) hx hb dL_act_459 (by decide) ?_
  refine lv_iload_n hx hb dL_act_460 rfl (lv_at hl 2 rfl) ?_
  refine lv_iconst (v := 4) hx hb dL_act_461 (by decide) ?_
  refine lv_ishr hx hb dL_act_462 ?_
  refine lv_iload_n hx hb dL_act_463 rfl (lv_at hl 2 rfl) ?_
  refine lv_bipush (v := 8) hx hb dL_act_464 (by decide) ?_
  refine lv_ishr hx hb dL_act_466 ?_
  refine lv_iconst (v := 2) hx hb dL_act_467 (by decide) ?_
  refine xSR (As := [.int (x >>> (8 &&& 31)), .int 2]) (rest := [.int (x >>> (4 &&& 31)), .int 1]) (stk := [.int (nI (xBl (x >>> (8 &&& 31)) 2)), .int (x >>> (4 &&& 31)), .int 1]) ⟨hx, hb, hml, hown, hts⟩ (c_L_below γ l (x >>> (8 &&& 31)) 2 (by omega) (by omega)) (va_cwS 2 hts gL_act_L_below rfl rfl rfl hds_L_below ⟨(Nat.le_of_ble_eq_true rfl), (Nat.le_of_ble_eq_true rfl)⟩) hK hP [] rfl  rfl hl.1 rfl (Nat.le_of_ble_eq_true rfl) dL_act_468 ⟨(by omega : _ ≤ 203), (by omega : _ ≤ 2700)⟩ rfl ?_
  refine lv_if_ne (tgt := 480) hx hb dL_act_471 (by decide) (fun c471 => ?_) (fun c471 => ?_)
  · refine lv_bipush (v := 9) hx hb dL_act_480 (by decide) ?_
    refine xSR (As := [.int (x >>> (4 &&& 31)), .int 9]) (rest := [.int 1]) (stk := [.int (nI (xBl (x >>> (4 &&& 31)) 9)), .int 1]) ⟨hx, hb, hml, hown, hts⟩ (c_L_below γ l (x >>> (4 &&& 31)) 9 (by omega) (by omega)) (va_cwS 2 hts gL_act_L_below rfl rfl rfl hds_L_below ⟨(Nat.le_of_ble_eq_true rfl), (Nat.le_of_ble_eq_true rfl)⟩) hK hP [] rfl  rfl hl.1 rfl (Nat.le_of_ble_eq_true rfl) dL_act_482 ⟨(by omega : _ ≤ 203), (by omega : _ ≤ 2700)⟩ rfl ?_
    refine lv_iadd hx hb dL_act_485 ?_
    refine x_top (y := nI (1 + xBl (x >>> (4 &&& 31)) 9)) (nI_add 1 _) ?_
    have hk4 : xBl (x >>> (4 &&& 31)) 9 < 9 := xBl_lt (by omega)
    refine lv_istore (lv' := [(6, .int (nI (1 + xBl (x >>> (4 &&& 31)) 9))), (0, .ref q0), (1, .ref s0), (2, .int x), (3, .int (nI n)), (4, .int (nI p9)), (5, .int 1)]) hx hb dL_act_486 hl (by decide) rfl (fun ls hl => ?_)
    refine lv_aload_n hx hb dL_act_488 rfl (lv_at hl 1 rfl) ?_
    refine lv_iload hx hb dL_act_489 (lv_at hl 0 rfl) ?_
    refine xVM (q0 := 0) (ci := 2) (As := [.int (nI (1 + xBl (x >>> (4 &&& 31)) 9))]) (rest := []) ⟨hx, hb, hml, hown, hts⟩ (c_X2_settle γ l q0 q1 q2 q3 q4 kc td a1 n f (1 + xBl (x >>> (4 &&& 31)) 9) (by omega) (by omega) (by omega) (by omega)) (cwV 1 hts gL_act_X2_settle rfl rfl rfl hdv_X2_settle ⟨(Nat.le_of_ble_eq_true rfl), (Nat.le_of_ble_eq_true rfl)⟩) hK hP hD hS hA [0, 1, 2] rfl rfl rfl rfl rfl hl.1 rfl (Nat.le_of_ble_eq_true rfl) dL_act_491 ⟨(by omega : _ ≤ 203), (by omega : _ ≤ 2700)⟩ (fun r9 w9 H locs hw hP hD hS => ?_)
    obtain ⟨rfl, rfl⟩ := hw
    have hP : xP γ (([xO q0 2 [.ref q1, .ref q4, .int (nI kc), .int (td + nI (xStl n (1 + xBl (x >>> (4 &&& 31)) 9) f).1), .ref q2, .ref q3], xO q1 0 [.ref a1, .int (nI n)], xA γ a1 12 ((xStl n (1 + xBl (x >>> (4 &&& 31)) 9) f).2), xO q2 0 [.ref a2, .int tn], xA γ a2 12 tf, xO q3 1 [.ref a3, .int wn], xA γ a3 12 wf, xQ γ q4 6 (fun t9 => some (kq t9))] ++ xKp γ kq ka kn ks) ++ ([xO s0 3 [.ref r, .ref tq, .int td], xA γ r n f, xT γ tq kc (fun t9 => some (ta t9))] ++ xTs γ ta n ks kc)) H := hP
    have hD : va_D A (([xO q0 2 [.ref q1, .ref q4, .int (nI kc), .int (td + nI (xStl n (1 + xBl (x >>> (4 &&& 31)) 9) f).1), .ref q2, .ref q3], xO q1 0 [.ref a1, .int (nI n)], xA γ a1 12 ((xStl n (1 + xBl (x >>> (4 &&& 31)) 9) f).2), xO q2 0 [.ref a2, .int tn], xA γ a2 12 tf, xO q3 1 [.ref a3, .int wn], xA γ a3 12 wf, xQ γ q4 6 (fun t9 => some (kq t9))] ++ xKp γ kq ka kn ks) ++ ([xO s0 3 [.ref r, .ref tq, .int td], xA γ r n f, xT γ tq kc (fun t9 => some (ta t9))] ++ xTs γ ta n ks kc)) := hD
    refine W.eq (g2 := F0 m 494 ls [.int (nI ((xStl n (1 + xBl (x >>> (4 &&& 31)) 9) f).1))]) rfl ?_
    refine lv_aload_n hx hb dL_act_494 rfl (lv_at hl 2 rfl) ?_
    refine lv_iload hx hb dL_act_495 (lv_at hl 0 rfl) ?_
    refine xVC (q0 := 20) (ci := 3) (As := [.int (nI (1 + xBl (x >>> (4 &&& 31)) 9))]) (rest := [.int (nI ((xStl n (1 + xBl (x >>> (4 &&& 31)) 9) f).1))]) ⟨hx, hb, hml, hown, hts⟩ (c_X3_settle γ l s0 r tq td n f (1 + xBl (x >>> (4 &&& 31)) 9) (by omega) (by omega) (by omega)) (cwV 1 hts gL_act_X3_settle rfl rfl rfl hdv_X3_settle ⟨(Nat.le_of_ble_eq_true rfl), (Nat.le_of_ble_eq_true rfl)⟩) xAz_blind (fun U _ hW => xAz.warm hW hAr) hK hP hD hS hA [20, 21] rfl rfl rfl rfl rfl hl.1 rfl (Nat.le_of_ble_eq_true rfl) dL_act_497 ⟨(by omega : _ ≤ 203), (by omega : _ ≤ 2700)⟩ (fun r9 w9 v9 H locs hw hP hD hS => ?_)
    obtain ⟨b86x, rfl, rfl, rfl⟩ := hw
    have hP : xP γ (([xO q0 2 [.ref q1, .ref q4, .int (nI kc), .int (td + nI (xStl n (1 + xBl (x >>> (4 &&& 31)) 9) f).1), .ref q2, .ref q3], xO q1 0 [.ref a1, .int (nI n)], xA γ a1 12 ((xStl n (1 + xBl (x >>> (4 &&& 31)) 9) f).2), xO q2 0 [.ref a2, .int tn], xA γ a2 12 tf, xO q3 1 [.ref a3, .int wn], xA γ a3 12 wf, xQ γ q4 6 (fun t9 => some (kq t9))] ++ xKp γ kq ka kn ks) ++ ([xO s0 3 [.ref b86x, .ref tq, .int (td + nI (xStl n (1 + xBl (x >>> (4 &&& 31)) 9) f).1)], xA γ b86x n ((xStl n (1 + xBl (x >>> (4 &&& 31)) 9) f).2), xT γ tq kc (fun t9 => some (ta t9))] ++ xTs γ ta n ks kc)) H := by simp only [List.append_nil] at hP; exact hP
    have hD : va_D A (([xO q0 2 [.ref q1, .ref q4, .int (nI kc), .int (td + nI (xStl n (1 + xBl (x >>> (4 &&& 31)) 9) f).1), .ref q2, .ref q3], xO q1 0 [.ref a1, .int (nI n)], xA γ a1 12 ((xStl n (1 + xBl (x >>> (4 &&& 31)) 9) f).2), xO q2 0 [.ref a2, .int tn], xA γ a2 12 tf, xO q3 1 [.ref a3, .int wn], xA γ a3 12 wf, xQ γ q4 6 (fun t9 => some (kq t9))] ++ xKp γ kq ka kn ks) ++ ([xO s0 3 [.ref b86x, .ref tq, .int (td + nI (xStl n (1 + xBl (x >>> (4 &&& 31)) 9) f).1)], xA γ b86x n ((xStl n (1 + xBl (x >>> (4 &&& 31)) 9) f).2), xT γ tq kc (fun t9 => some (ta t9))] ++ xTs γ ta n ks kc)) := by simp only [List.append_nil] at hD; exact hD
    refine W.eq (g2 := F0 m 500 ls [.int (nI ((xStl n (1 + xBl (x >>> (4 &&& 31)) 9) f).1)), .int (nI ((xStl n (1 + xBl (x >>> (4 &&& 31)) 9) f).1))]) rfl ?_
    refine lv_icmp_ne (tgt := 507) hx hb dL_act_500 (by decide) (fun c => absurd (rfl) c) (fun _ => ?_)
    refine lv_iconst (v := 1) hx hb dL_act_503 (by decide) ?_
    refine lv_goto (tgt := 508) hx hb dL_act_504 (by decide) ?_
    subst hQ
    exact xG_z hx hb hr hlocks dL_act_508 (Or.inr rfl) hP hD hS (by omega : _ ≤ 203) (by omega : _ ≤ 2700) (⟨rfl, n, kc, td + nI (xStl n (1 + xBl (x >>> (4 &&& 31)) 9) f).1, tn, wn, (xStl n (1 + xBl (x >>> (4 &&& 31)) 9) f).2, tf, wf, ks, kn, b86x, tq, ta, hI.stl (k := 1 + xBl (x >>> (4 &&& 31)) 9) hj5 (by omega), hkn, rfl⟩)
  · refine lv_sipush (v := 200) hx hb dL_act_474 (by decide) ?_
    refine lv_goto (tgt := 482) hx hb dL_act_477 (by decide) ?_
    refine xSR (As := [.int (x >>> (4 &&& 31)), .int 200]) (rest := [.int 1]) (stk := [.int (nI (xBl (x >>> (4 &&& 31)) 200)), .int 1]) ⟨hx, hb, hml, hown, hts⟩ (c_L_below γ l (x >>> (4 &&& 31)) 200 (by omega) (by omega)) (va_cwS 2 hts gL_act_L_below rfl rfl rfl hds_L_below ⟨(Nat.le_of_ble_eq_true rfl), (Nat.le_of_ble_eq_true rfl)⟩) hK hP [] rfl  rfl hl.1 rfl (Nat.le_of_ble_eq_true rfl) dL_act_482 ⟨(by omega : _ ≤ 203), (by omega : _ ≤ 2700)⟩ rfl ?_
    refine lv_iadd hx hb dL_act_485 ?_
    refine x_top (y := nI (1 + xBl (x >>> (4 &&& 31)) 200)) (nI_add 1 _) ?_
    have hk4 : xBl (x >>> (4 &&& 31)) 200 < 200 := xBl_lt (by omega)
    refine lv_istore (lv' := [(6, .int (nI (1 + xBl (x >>> (4 &&& 31)) 200))), (0, .ref q0), (1, .ref s0), (2, .int x), (3, .int (nI n)), (4, .int (nI p9)), (5, .int 1)]) hx hb dL_act_486 hl (by decide) rfl (fun ls hl => ?_)
    refine lv_aload_n hx hb dL_act_488 rfl (lv_at hl 1 rfl) ?_
    refine lv_iload hx hb dL_act_489 (lv_at hl 0 rfl) ?_
    refine xVM (q0 := 0) (ci := 2) (As := [.int (nI (1 + xBl (x >>> (4 &&& 31)) 200))]) (rest := []) ⟨hx, hb, hml, hown, hts⟩ (c_X2_settle γ l q0 q1 q2 q3 q4 kc td a1 n f (1 + xBl (x >>> (4 &&& 31)) 200) (by omega) (by omega) (by omega) (by omega)) (cwV 1 hts gL_act_X2_settle rfl rfl rfl hdv_X2_settle ⟨(Nat.le_of_ble_eq_true rfl), (Nat.le_of_ble_eq_true rfl)⟩) hK hP hD hS hA [0, 1, 2] rfl rfl rfl rfl rfl hl.1 rfl (Nat.le_of_ble_eq_true rfl) dL_act_491 ⟨(by omega : _ ≤ 203), (by omega : _ ≤ 2700)⟩ (fun r9 w9 H locs hw hP hD hS => ?_)
    obtain ⟨rfl, rfl⟩ := hw
    have hP : xP γ (([xO q0 2 [.ref q1, .ref q4, .int (nI kc), .int (td + nI (xStl n (1 + xBl (x >>> (4 &&& 31)) 200) f).1), .ref q2, .ref q3], xO q1 0 [.ref a1, .int (nI n)], xA γ a1 12 ((xStl n (1 + xBl (x >>> (4 &&& 31)) 200) f).2), xO q2 0 [.ref a2, .int tn], xA γ a2 12 tf, xO q3 1 [.ref a3, .int wn], xA γ a3 12 wf, xQ γ q4 6 (fun t9 => some (kq t9))] ++ xKp γ kq ka kn ks) ++ ([xO s0 3 [.ref r, .ref tq, .int td], xA γ r n f, xT γ tq kc (fun t9 => some (ta t9))] ++ xTs γ ta n ks kc)) H := hP
    have hD : va_D A (([xO q0 2 [.ref q1, .ref q4, .int (nI kc), .int (td + nI (xStl n (1 + xBl (x >>> (4 &&& 31)) 200) f).1), .ref q2, .ref q3], xO q1 0 [.ref a1, .int (nI n)], xA γ a1 12 ((xStl n (1 + xBl (x >>> (4 &&& 31)) 200) f).2), xO q2 0 [.ref a2, .int tn], xA γ a2 12 tf, xO q3 1 [.ref a3, .int wn], xA γ a3 12 wf, xQ γ q4 6 (fun t9 => some (kq t9))] ++ xKp γ kq ka kn ks) ++ ([xO s0 3 [.ref r, .ref tq, .int td], xA γ r n f, xT γ tq kc (fun t9 => some (ta t9))] ++ xTs γ ta n ks kc)) := hD
    refine W.eq (g2 := F0 m 494 ls [.int (nI ((xStl n (1 + xBl (x >>> (4 &&& 31)) 200) f).1))]) rfl ?_
    refine lv_aload_n hx hb dL_act_494 rfl (lv_at hl 2 rfl) ?_
    refine lv_iload hx hb dL_act_495 (lv_at hl 0 rfl) ?_
    refine xVC (q0 := 20) (ci := 3) (As := [.int (nI (1 + xBl (x >>> (4 &&& 31)) 200))]) (rest := [.int (nI ((xStl n (1 + xBl (x >>> (4 &&& 31)) 200) f).1))]) ⟨hx, hb, hml, hown, hts⟩ (c_X3_settle γ l s0 r tq td n f (1 + xBl (x >>> (4 &&& 31)) 200) (by omega) (by omega) (by omega)) (cwV 1 hts gL_act_X3_settle rfl rfl rfl hdv_X3_settle ⟨(Nat.le_of_ble_eq_true rfl), (Nat.le_of_ble_eq_true rfl)⟩) xAz_blind (fun U _ hW => xAz.warm hW hAr) hK hP hD hS hA [20, 21] rfl rfl rfl rfl rfl hl.1 rfl (Nat.le_of_ble_eq_true rfl) dL_act_497 ⟨(by omega : _ ≤ 203), (by omega : _ ≤ 2700)⟩ (fun r9 w9 v9 H locs hw hP hD hS => ?_)
    obtain ⟨b87x, rfl, rfl, rfl⟩ := hw
    have hP : xP γ (([xO q0 2 [.ref q1, .ref q4, .int (nI kc), .int (td + nI (xStl n (1 + xBl (x >>> (4 &&& 31)) 200) f).1), .ref q2, .ref q3], xO q1 0 [.ref a1, .int (nI n)], xA γ a1 12 ((xStl n (1 + xBl (x >>> (4 &&& 31)) 200) f).2), xO q2 0 [.ref a2, .int tn], xA γ a2 12 tf, xO q3 1 [.ref a3, .int wn], xA γ a3 12 wf, xQ γ q4 6 (fun t9 => some (kq t9))] ++ xKp γ kq ka kn ks) ++ ([xO s0 3 [.ref b87x, .ref tq, .int (td + nI (xStl n (1 + xBl (x >>> (4 &&& 31)) 200) f).1)], xA γ b87x n ((xStl n (1 + xBl (x >>> (4 &&& 31)) 200) f).2), xT γ tq kc (fun t9 => some (ta t9))] ++ xTs γ ta n ks kc)) H := by simp only [List.append_nil] at hP; exact hP
    have hD : va_D A (([xO q0 2 [.ref q1, .ref q4, .int (nI kc), .int (td + nI (xStl n (1 + xBl (x >>> (4 &&& 31)) 200) f).1), .ref q2, .ref q3], xO q1 0 [.ref a1, .int (nI n)], xA γ a1 12 ((xStl n (1 + xBl (x >>> (4 &&& 31)) 200) f).2), xO q2 0 [.ref a2, .int tn], xA γ a2 12 tf, xO q3 1 [.ref a3, .int wn], xA γ a3 12 wf, xQ γ q4 6 (fun t9 => some (kq t9))] ++ xKp γ kq ka kn ks) ++ ([xO s0 3 [.ref b87x, .ref tq, .int (td + nI (xStl n (1 + xBl (x >>> (4 &&& 31)) 200) f).1)], xA γ b87x n ((xStl n (1 + xBl (x >>> (4 &&& 31)) 200) f).2), xT γ tq kc (fun t9 => some (ta t9))] ++ xTs γ ta n ks kc)) := by simp only [List.append_nil] at hD; exact hD
    refine W.eq (g2 := F0 m 500 ls [.int (nI ((xStl n (1 + xBl (x >>> (4 &&& 31)) 200) f).1)), .int (nI ((xStl n (1 + xBl (x >>> (4 &&& 31)) 200) f).1))]) rfl ?_
    refine lv_icmp_ne (tgt := 507) hx hb dL_act_500 (by decide) (fun c => absurd (rfl) c) (fun _ => ?_)
    refine lv_iconst (v := 1) hx hb dL_act_503 (by decide) ?_
    refine lv_goto (tgt := 508) hx hb dL_act_504 (by decide) ?_
    subst hQ
    exact xG_z hx hb hr hlocks dL_act_508 (Or.inr rfl) hP hD hS (by omega : _ ≤ 203) (by omega : _ ≤ 2700) (⟨rfl, n, kc, td + nI (xStl n (1 + xBl (x >>> (4 &&& 31)) 200) f).1, tn, wn, (xStl n (1 + xBl (x >>> (4 &&& 31)) 200) f).2, tf, wf, ks, kn, b87x, tq, ta, hI.stl (k := 1 + xBl (x >>> (4 &&& 31)) 200) hj5 (by omega), hkn, rfl⟩)

theorem hdv_X3_can : yX3_can.cls = RX3 ∧ yX3_can.cls ≠ "java/lang/invoke/MethodHandle" ∧ yX3_can.cls ≠ "java/lang/invoke/VarHandle" ∧ (parseMethodDescriptor yX3_can.desc).map (fun d => d.parameters.length) = some 2 := by decide +kernel
theorem hdv_X3_fewest : yX3_fewest.cls = RX3 ∧ yX3_fewest.cls ≠ "java/lang/invoke/MethodHandle" ∧ yX3_fewest.cls ≠ "java/lang/invoke/VarHandle" ∧ (parseMethodDescriptor yX3_fewest.desc).map (fun d => d.parameters.length) = some 1 := by decide +kernel
theorem hdv_X2_reach : yX2_reach.cls = RX2 ∧ yX2_reach.cls ≠ "java/lang/invoke/MethodHandle" ∧ yX2_reach.cls ≠ "java/lang/invoke/VarHandle" ∧ (parseMethodDescriptor yX2_reach.desc).map (fun d => d.parameters.length) = some 1 := by decide +kernel
set_option maxHeartbeats 8000000 in
set_option maxRecDepth 100000 in
theorem xact_reach {p : Program} {l : Launch} {e : Env} {s : State} {m : MethodId} {args : Array Value} {below : List Frame} {meth : Method} {c : Code} (hlt : l.stackTraces = false) (hx : p.tables.exec = Jvm.exec) (hb : c.code = cL_act) (hr : meth.sig.returnType = some .boolean) (hml : c.maxLocals = 8) (hts : ∀ w ∈ wsL_act, w.before args s = true) (hown : s.vm.findClass RL = some m.cls) (hlocks : meth.locks = false) (htab : c.exceptionTable.toList = tableOf [(18, 99, 616, 80), (100, 143, 616, 80), (144, 234, 616, 80), (235, 332, 616, 80), (333, 391, 616, 80), (392, 458, 616, 80), (459, 508, 616, 80), (509, 518, 616, 80), (519, 615, 616, 80)]) {γ : xG} (hK : xK γ s) (sa : Nat → Nat) {A : Nat → Prop} (hEv : xEv s) (hEs : xEs sa s) (hEh : xEh A s s.heap) (hAr : xAz s) (hA : ∀ q : Nat, s.heap.size ≤ q → A q) (q0 q1 a1 q2 a2 q3 a3 q4 s0 : Nat) (kq ka : Nat → Nat) (x : Int32) (j : Nat) (hj5 : j < 512) (n kc : Nat) (td tn wn : Int32) (f tf wf : xRow) (ks : Nat → xRow) (kn : Nat → Int32) (r tq : Nat) (ta : Nat → Nat) (hI : xInv j n kc f ks) (hkn : ∀ t, t < kc → kn t = nI n) (hP : xP γ (DWt γ q0 q1 a1 q2 a2 q3 a3 q4 s0 kq ka n kc td tn wn f tf wf ks kn r tq ta) s.heap) (hD : va_D A (DWt γ q0 q1 a1 q2 a2 q3 a3 q4 s0 kq ka n kc td tn wn f tf wf ks kn r tq ta)) (p9 : Nat) (hp9 : p9 < n) (ls : Array Slot) (hl : lv_has ls 8 [(0, .ref q0), (1, .ref s0), (2, .int x), (3, .int (nI n)), (4, .int (nI p9)), (5, .int 1)]) : W p l e ({ frames := 8, cells := 203, slots := 2700, locals := 140 } : Room) s m args below meth c s.heap [] 0 0 (MQ below (xGQ γ A (xActP γ q0 q1 a1 q2 a2 q3 a3 q4 s0 kq ka (j + 1) (.int 1))) args s 203 2700 A) (F0 m 509 ls []) := by
  obtain ⟨Q, hQ⟩ : ∃ Q9, Q9 = MQ below (xGQ γ A (xActP γ q0 q1 a1 q2 a2 q3 a3 q4 s0 kq ka (j + 1) (.int 1))) args s 203 2700 A := ⟨_, rfl⟩
  rw [← hQ]
  have hn0 := hI.1
  have hn1 := hI.2.1
  have hkc := hI.2.2.1
  have hP : xP γ (([xO q0 2 [.ref q1, .ref q4, .int (nI kc), .int td, .ref q2, .ref q3], xO q1 0 [.ref a1, .int (nI n)], xA γ a1 12 f, xO q2 0 [.ref a2, .int tn], xA γ a2 12 tf, xO q3 1 [.ref a3, .int wn], xA γ a3 12 wf, xQ γ q4 6 (fun t9 => some (kq t9))] ++ xKp γ kq ka kn ks) ++ ([xO s0 3 [.ref r, .ref tq, .int td], xA γ r n f, xT γ tq kc (fun t9 => some (ta t9))] ++ xTs γ ta n ks kc)) s.heap := hP
  have hD : va_D A (([xO q0 2 [.ref q1, .ref q4, .int (nI kc), .int td, .ref q2, .ref q3], xO q1 0 [.ref a1, .int (nI n)], xA γ a1 12 f, xO q2 0 [.ref a2, .int tn], xA γ a2 12 tf, xO q3 1 [.ref a3, .int wn], xA γ a3 12 wf, xQ γ q4 6 (fun t9 => some (kq t9))] ++ xKp γ kq ka kn ks) ++ ([xO s0 3 [.ref r, .ref tq, .int td], xA γ r n f, xT γ tq kc (fun t9 => some (ta t9))] ++ xTs γ ta n ks kc)) := hD
  have hS : va_S A s.heap s.heap [] := va_S.rf
  refine lv_aload_n hx hb dL_act_509 rfl (lv_at hl 1 rfl) ?_
  refine va_get (D := γ.1) (ci := 3) (v := .ref tq) (C := RX3) (T := TX3) (N := 3) hx hb hts iwL_act_3 hown hK hP 20 rfl rfl 1 (by decide) (hts _ flL_act_22) (fun _ h9 => h9) rfl dL_act_510 ?_
  refine va_alen (v := nI kc) hx hb hK hP 22 2 rfl rfl rfl dL_act_513 ?_
  refine lv_if_ne (tgt := 519) hx hb dL_act_514 (by decide) (fun c514 => ?_) (fun c514 => ?_)
  · have hk0 : 0 < kc := xkc_p c514
    refine lv_iload_n hx hb dL_act_519 rfl (lv_at hl 2 rfl) ?_
    refine lv_iconst (v := 5) hx hb dL_act_520 (by decide) ?_
    refine lv_ishr hx hb dL_act_521 ?_
    refine lv_aload_n hx hb dL_act_522 rfl (lv_at hl 1 rfl) ?_
    refine va_get (D := γ.1) (ci := 3) (v := .ref tq) (C := RX3) (T := TX3) (N := 3) hx hb hts iwL_act_3 hown hK hP 20 rfl rfl 1 (by decide) (hts _ flL_act_22) (fun _ h9 => h9) rfl dL_act_523 ?_
    refine va_alen (v := nI kc) hx hb hK hP 22 2 rfl rfl rfl dL_act_526 ?_
    refine xSR (As := [.int (x >>> (5 &&& 31)), .int (nI kc)]) (rest := []) (stk := [.int (nI (xBl (x >>> (5 &&& 31)) kc))]) ⟨hx, hb, hml, hown, hts⟩ (c_L_below γ l (x >>> (5 &&& 31)) kc (by omega) (by omega)) (va_cwS 2 hts gL_act_L_below rfl rfl rfl hds_L_below ⟨(Nat.le_of_ble_eq_true rfl), (Nat.le_of_ble_eq_true rfl)⟩) hK hP [] rfl  rfl hl.1 rfl (Nat.le_of_ble_eq_true rfl) dL_act_527 ⟨(by omega : _ ≤ 203), (by omega : _ ≤ 2700)⟩ rfl ?_
    have htg : xBl (x >>> (5 &&& 31)) kc < kc := xBl_lt (by omega)
    refine lv_istore (lv' := [(6, .int (nI (xBl (x >>> (5 &&& 31)) kc))), (0, .ref q0), (1, .ref s0), (2, .int x), (3, .int (nI n)), (4, .int (nI p9)), (5, .int 1)]) hx hb dL_act_530 hl (by decide) rfl (fun ls hl => ?_)
    refine lv_aload_n hx hb dL_act_532 rfl (lv_at hl 2 rfl) ?_
    refine lv_aload_n hx hb dL_act_533 rfl (lv_at hl 2 rfl) ?_
    refine va_get (D := γ.1) (ci := 3) (v := .ref r) (C := RX3) (T := TX3) (N := 3) hx hb hts iwL_act_3 hown hK hP 20 rfl rfl 0 (by decide) (hts _ flL_act_9) (fun _ h9 => h9) rfl dL_act_534 ?_
    refine lv_iload hx hb dL_act_537 (lv_at hl 0 rfl) ?_
    refine xVR (q0 := 20) (ci := 3) (As := [.ref r, .int (nI (xBl (x >>> (5 &&& 31)) kc))]) (rest := []) (stk := [.int (if xCB n f (ks (xBl (x >>> (5 &&& 31)) kc)) = true then 1 else 0)]) ⟨hx, hb, hml, hown, hts⟩ (c_X3_can γ l s0 r tq td r n f ta kc (xBl (x >>> (5 &&& 31)) kc) (ks (xBl (x >>> (5 &&& 31)) kc)) (by omega) (by omega) (by omega) (by omega)) (cwV 2 hts gL_act_X3_can rfl rfl rfl hdv_X3_can ⟨(Nat.le_of_ble_eq_true rfl), (Nat.le_of_ble_eq_true rfl)⟩) hK hP [23 + (xBl (x >>> (5 &&& 31)) kc), 20, 22, 21] (xisC (xTs_r2 (C := [xO q0 2 [.ref q1, .ref q4, .int (nI kc), .int td, .ref q2, .ref q3], xO q1 0 [.ref a1, .int (nI n)], xA γ a1 12 f, xO q2 0 [.ref a2, .int tn], xA γ a2 12 tf, xO q3 1 [.ref a3, .int wn], xA γ a3 12 wf, xQ γ q4 6 (fun t9 => some (kq t9))] ++ xKp γ kq ka kn ks) (base := [xO s0 3 [.ref r, .ref tq, .int td], xA γ r n f, xT γ tq kc (fun t9 => some (ta t9))]) (nc := 20) (nb := 23) (t := (xBl (x >>> (5 &&& 31)) kc)) rfl rfl (by omega)) (xisC rfl (xisC rfl (xisC rfl xisN)))) rfl rfl rfl hl.1 rfl (Nat.le_of_ble_eq_true rfl) dL_act_539 ⟨(by omega : _ ≤ 203), (by omega : _ ≤ 2700)⟩ rfl ?_
    by_cases hcb : xCB n f (ks (xBl (x >>> (5 &&& 31)) kc)) = true
    · refine x_top (y := 1) (if_pos hcb) ?_
      refine lv_istore (lv' := [(5, .int 1), (6, .int (nI (xBl (x >>> (5 &&& 31)) kc))), (0, .ref q0), (1, .ref s0), (2, .int x), (3, .int (nI n)), (4, .int (nI p9))]) hx hb dL_act_542 hl (by decide) rfl (fun ls hl => ?_)
      refine lv_iload hx hb dL_act_544 (lv_at hl 0 rfl) ?_
      refine lv_if_eq (tgt := 558) hx hb dL_act_546 (by decide) (fun c => absurd c (by decide)) (fun _ => ?_)
      refine lv_aload_n hx hb dL_act_549 rfl (lv_at hl 3 rfl) ?_
      refine lv_iload hx hb dL_act_550 (lv_at hl 1 rfl) ?_
      refine xVC (q0 := 20) (ci := 3) (As := [.int (nI (xBl (x >>> (5 &&& 31)) kc))]) (rest := []) ⟨hx, hb, hml, hown, hts⟩ (c_X3_fewest γ l s0 r tq td n f ta kc (xBl (x >>> (5 &&& 31)) kc) (ks (xBl (x >>> (5 &&& 31)) kc)) (by omega) (by omega) (by omega) (by omega) hI.f (hI.g _ (by omega)) hcb) (cwV 1 hts gL_act_X3_fewest rfl rfl rfl hdv_X3_fewest ⟨(Nat.le_of_ble_eq_true rfl), (Nat.le_of_ble_eq_true rfl)⟩) (fun _ _ _ _ h => h) (fun _ _ _ => trivial) hK hP hD hS hA [23 + (xBl (x >>> (5 &&& 31)) kc), 20, 21, 22] (by simp [va_nd] <;> omega) (xismC (xTs_r2 (C := [xO q0 2 [.ref q1, .ref q4, .int (nI kc), .int td, .ref q2, .ref q3], xO q1 0 [.ref a1, .int (nI n)], xA γ a1 12 f, xO q2 0 [.ref a2, .int tn], xA γ a2 12 tf, xO q3 1 [.ref a3, .int wn], xA γ a3 12 wf, xQ γ q4 6 (fun t9 => some (kq t9))] ++ xKp γ kq ka kn ks) (base := [xO s0 3 [.ref r, .ref tq, .int td], xA γ r n f, xT γ tq kc (fun t9 => some (ta t9))]) (nc := 20) (nb := 23) (t := (xBl (x >>> (5 &&& 31)) kc)) rfl rfl (by omega)) (xismC rfl (xismC rfl (xismC rfl xismN)))) rfl rfl rfl hl.1 rfl (Nat.le_of_ble_eq_true rfl) dL_act_552 ⟨(by omega : _ ≤ 203), (by omega : _ ≤ 2700)⟩ (fun r9 w9 v9 H locs hw hP hD hS => ?_)
      obtain ⟨rfl, rfl, rfl⟩ := hw
      rw [xup_1 (xTs_r2 (C := [xO q0 2 [.ref q1, .ref q4, .int (nI kc), .int td, .ref q2, .ref q3], xO q1 0 [.ref a1, .int (nI n)], xA γ a1 12 f, xO q2 0 [.ref a2, .int tn], xA γ a2 12 tf, xO q3 1 [.ref a3, .int wn], xA γ a3 12 wf, xQ γ q4 6 (fun t9 => some (kq t9))] ++ xKp γ kq ka kn ks) (base := [xO s0 3 [.ref r, .ref tq, .int td], xA γ r n f, xT γ tq kc (fun t9 => some (ta t9))]) (nc := 20) (nb := 23) (t := (xBl (x >>> (5 &&& 31)) kc)) rfl rfl (by omega))] at hP hD
      have hP : xP γ (([xO q0 2 [.ref q1, .ref q4, .int (nI kc), .int td, .ref q2, .ref q3], xO q1 0 [.ref a1, .int (nI n)], xA γ a1 12 f, xO q2 0 [.ref a2, .int tn], xA γ a2 12 tf, xO q3 1 [.ref a3, .int wn], xA γ a3 12 wf, xQ γ q4 6 (fun t9 => some (kq t9))] ++ xKp γ kq ka kn ks) ++ ([xO s0 3 [.ref r, .ref tq, .int td], xA γ r n f, xT γ tq kc (fun t9 => some (ta t9))] ++ xTs γ ta n ks kc)) H := by simp only [List.append_nil] at hP; exact hP
      have hD : va_D A (([xO q0 2 [.ref q1, .ref q4, .int (nI kc), .int td, .ref q2, .ref q3], xO q1 0 [.ref a1, .int (nI n)], xA γ a1 12 f, xO q2 0 [.ref a2, .int tn], xA γ a2 12 tf, xO q3 1 [.ref a3, .int wn], xA γ a3 12 wf, xQ γ q4 6 (fun t9 => some (kq t9))] ++ xKp γ kq ka kn ks) ++ ([xO s0 3 [.ref r, .ref tq, .int td], xA γ r n f, xT γ tq kc (fun t9 => some (ta t9))] ++ xTs γ ta n ks kc)) := by simp only [List.append_nil] at hD; exact hD
      refine W.eq (g2 := F0 m 555 ls [.int (xWay n f (ks (xBl (x >>> (5 &&& 31)) kc)))]) rfl ?_
      refine x_top (y := xFew n f (ks (xBl (x >>> (5 &&& 31)) kc))) ((if_pos hcb).symm) ?_
      refine lv_goto (tgt := 559) hx hb dL_act_555 (by decide) ?_
      refine lv_istore (lv' := [(7, .int (xFew n f (ks (xBl (x >>> (5 &&& 31)) kc)))), (5, .int 1), (6, .int (nI (xBl (x >>> (5 &&& 31)) kc))), (0, .ref q0), (1, .ref s0), (2, .int x), (3, .int (nI n)), (4, .int (nI p9))]) hx hb dL_act_559 hl (by decide) rfl (fun ls hl => ?_)
      refine lv_iload hx hb dL_act_561 (lv_at hl 1 rfl) ?_
      refine lv_if_eq (tgt := 583) hx hb dL_act_563 (by decide) (fun c => absurd c (by decide)) (fun _ => ?_)
      refine lv_aload_n hx hb dL_act_566 rfl (lv_at hl 4 rfl) ?_
      refine lv_aload_n hx hb dL_act_567 rfl (lv_at hl 4 rfl) ?_
      refine va_get (D := γ.1) (ci := 3) (v := .ref tq) (C := RX3) (T := TX3) (N := 3) hx hb hts iwL_act_3 hown hK hP 20 rfl rfl 1 (by decide) (hts _ flL_act_22) (fun _ h9 => h9) rfl dL_act_568 ?_
      refine lv_iload hx hb dL_act_571 (lv_at hl 2 rfl) ?_
      refine x_tald (f := fun t9 => some (ta t9)) (v := ta (xBl (x >>> (5 &&& 31)) kc)) hx hb hK hP 22 rfl (xBl (x >>> (5 &&& 31)) kc) rfl (by omega) (by omega) (rfl) dL_act_573 ?_
      refine x_cloneI hx hb (hml.trans hl.1.symm) hown (hts _ wdL_act_cl1_32) (hts _ wdL_act_cl2) (hts _ wdL_act_cl3) (hts _ wdL_act_cl4) (hts _ wdL_act_cl5) hAr.1 hK hP hD hS hA (23 + (xBl (x >>> (5 &&& 31)) kc)) (xTs_r2 (C := [xO q0 2 [.ref q1, .ref q4, .int (nI kc), .int td, .ref q2, .ref q3], xO q1 0 [.ref a1, .int (nI n)], xA γ a1 12 f, xO q2 0 [.ref a2, .int tn], xA γ a2 12 tf, xO q3 1 [.ref a3, .int wn], xA γ a3 12 wf, xQ γ q4 6 (fun t9 => some (kq t9))] ++ xKp γ kq ka kn ks) (base := [xO s0 3 [.ref r, .ref tq, .int td], xA γ r n f, xT γ tq kc (fun t9 => some (ta t9))]) (nc := 20) (nb := 23) (t := (xBl (x >>> (5 &&& 31)) kc)) rfl rfl (by omega)) (Nat.le_of_ble_eq_true rfl) (Nat.le_of_ble_eq_true rfl) (by omega : _ ≤ 203) (by omega : _ ≤ 2700) dL_act_574 (fun q574x H hP hD hS => ?_)
      have hP := xmvP2 hP
      have hD := xmvD2 hD
      have hP : xP γ (([xO q0 2 [.ref q1, .ref q4, .int (nI kc), .int td, .ref q2, .ref q3], xO q1 0 [.ref a1, .int (nI n)], xA γ a1 12 f, xO q2 0 [.ref a2, .int tn], xA γ a2 12 tf, xO q3 1 [.ref a3, .int wn], xA γ a3 12 wf, xQ γ q4 6 (fun t9 => some (kq t9))] ++ xKp γ kq ka kn ks) ++ ([xO s0 3 [.ref r, .ref tq, .int td], xA γ r n f, xT γ tq kc (fun t9 => some (ta t9)), xA γ q574x n (ks (xBl (x >>> (5 &&& 31)) kc))] ++ xTs γ ta n ks kc)) H := hP
      have hD : va_D A (([xO q0 2 [.ref q1, .ref q4, .int (nI kc), .int td, .ref q2, .ref q3], xO q1 0 [.ref a1, .int (nI n)], xA γ a1 12 f, xO q2 0 [.ref a2, .int tn], xA γ a2 12 tf, xO q3 1 [.ref a3, .int wn], xA γ a3 12 wf, xQ γ q4 6 (fun t9 => some (kq t9))] ++ xKp γ kq ka kn ks) ++ ([xO s0 3 [.ref r, .ref tq, .int td], xA γ r n f, xT γ tq kc (fun t9 => some (ta t9)), xA γ q574x n (ks (xBl (x >>> (5 &&& 31)) kc))] ++ xTs γ ta n ks kc)) := hD
      refine x_castI hx hb hown (hts _ wdL_act_n21a) hK hP 23 rfl dL_act_577 ?_
      refine va_put (D := γ.1) (ci := 3) (v := .ref q574x) (ty := .array .int) (C := RX3) (T := TX3) (N := 3) hx hb hts iwL_act_3 tyX3 tyX3_ok nmX3 hown hK hP hD hS 20 rfl rfl 0 (by decide) (hts _ flL_act_9) (fun _ h9 => h9) rfl (by decide +kernel) rfl rfl (Nat.le_of_ble_eq_true rfl) dL_act_580 (fun H locs hP hD hS => ?_)
      have hP : xP γ (([xO q0 2 [.ref q1, .ref q4, .int (nI kc), .int td, .ref q2, .ref q3], xO q1 0 [.ref a1, .int (nI n)], xA γ a1 12 f, xO q2 0 [.ref a2, .int tn], xA γ a2 12 tf, xO q3 1 [.ref a3, .int wn], xA γ a3 12 wf, xQ γ q4 6 (fun t9 => some (kq t9))] ++ xKp γ kq ka kn ks) ++ ([xO s0 3 [.ref q574x, .ref tq, .int td], xA γ r n f, xT γ tq kc (fun t9 => some (ta t9)), xA γ q574x n (ks (xBl (x >>> (5 &&& 31)) kc))] ++ xTs γ ta n ks kc)) H := hP
      have hD : va_D A (([xO q0 2 [.ref q1, .ref q4, .int (nI kc), .int td, .ref q2, .ref q3], xO q1 0 [.ref a1, .int (nI n)], xA γ a1 12 f, xO q2 0 [.ref a2, .int tn], xA γ a2 12 tf, xO q3 1 [.ref a3, .int wn], xA γ a3 12 wf, xQ γ q4 6 (fun t9 => some (kq t9))] ++ xKp γ kq ka kn ks) ++ ([xO s0 3 [.ref q574x, .ref tq, .int td], xA γ r n f, xT γ tq kc (fun t9 => some (ta t9)), xA γ q574x n (ks (xBl (x >>> (5 &&& 31)) kc))] ++ xTs γ ta n ks kc)) := hD
      refine lv_aload_n hx hb dL_act_583 rfl (lv_at hl 4 rfl) ?_
      refine lv_dup hx hb dL_act_584 rfl ?_
      refine va_get (D := γ.1) (ci := 3) (v := .int td) (C := RX3) (T := TX3) (N := 3) hx hb hts iwL_act_3 hown hK hP 20 rfl rfl 2 (by decide) (hts _ flL_act_43) (fun _ h9 => h9) rfl dL_act_585 ?_
      refine lv_iload hx hb dL_act_588 (lv_at hl 0 rfl) ?_
      refine lv_iadd hx hb dL_act_590 ?_
      refine x_top (y := td + xFew n f (ks (xBl (x >>> (5 &&& 31)) kc))) (rfl) ?_
      refine va_put (D := γ.1) (ci := 3) (v := .int (td + xFew n f (ks (xBl (x >>> (5 &&& 31)) kc)))) (ty := .int) (C := RX3) (T := TX3) (N := 3) hx hb hts iwL_act_3 tyX3 tyX3_ok nmX3 hown hK hP hD hS 20 rfl rfl 2 (by decide) (hts _ flL_act_43) (fun _ h9 => h9) rfl (by decide +kernel) rfl rfl (Nat.le_of_ble_eq_true rfl) dL_act_591 (fun H locs hP hD hS => ?_)
      have hP : xP γ (([xO q0 2 [.ref q1, .ref q4, .int (nI kc), .int td, .ref q2, .ref q3], xO q1 0 [.ref a1, .int (nI n)], xA γ a1 12 f, xO q2 0 [.ref a2, .int tn], xA γ a2 12 tf, xO q3 1 [.ref a3, .int wn], xA γ a3 12 wf, xQ γ q4 6 (fun t9 => some (kq t9))] ++ xKp γ kq ka kn ks) ++ ([xO s0 3 [.ref q574x, .ref tq, .int (td + xFew n f (ks (xBl (x >>> (5 &&& 31)) kc)))], xA γ r n f, xT γ tq kc (fun t9 => some (ta t9)), xA γ q574x n (ks (xBl (x >>> (5 &&& 31)) kc))] ++ xTs γ ta n ks kc)) H := hP
      have hD : va_D A (([xO q0 2 [.ref q1, .ref q4, .int (nI kc), .int td, .ref q2, .ref q3], xO q1 0 [.ref a1, .int (nI n)], xA γ a1 12 f, xO q2 0 [.ref a2, .int tn], xA γ a2 12 tf, xO q3 1 [.ref a3, .int wn], xA γ a3 12 wf, xQ γ q4 6 (fun t9 => some (kq t9))] ++ xKp γ kq ka kn ks) ++ ([xO s0 3 [.ref q574x, .ref tq, .int (td + xFew n f (ks (xBl (x >>> (5 &&& 31)) kc)))], xA γ r n f, xT γ tq kc (fun t9 => some (ta t9)), xA γ q574x n (ks (xBl (x >>> (5 &&& 31)) kc))] ++ xTs γ ta n ks kc)) := hD
      refine lv_aload_n hx hb dL_act_594 rfl (lv_at hl 3 rfl) ?_
      refine lv_iload hx hb dL_act_595 (lv_at hl 2 rfl) ?_
      refine xVM (q0 := 0) (ci := 2) (As := [.int (nI (xBl (x >>> (5 &&& 31)) kc))]) (rest := []) ⟨hx, hb, hml, hown, hts⟩ (c_X2_reach γ l q0 q1 q2 q3 q4 kc td a1 n f a3 wn wf kq ka kn ks (xBl (x >>> (5 &&& 31)) kc) (by omega) (by omega) (by omega) (by omega) hcb) (cwV 1 hts gL_act_X2_reach rfl rfl rfl hdv_X2_reach ⟨(Nat.le_of_ble_eq_true rfl), (Nat.le_of_ble_eq_true rfl)⟩) hK hP hD hS hA [0, 1, 2, 5, 6, 7, 8 + 2 * (xBl (x >>> (5 &&& 31)) kc), 8 + 2 * (xBl (x >>> (5 &&& 31)) kc) + 1] (by simp [va_nd] <;> omega) (xismC rfl (xismC rfl (xismC rfl (xismC rfl (xismC rfl (xismC rfl (xismC (xKp_o2 (base := [xO q0 2 [.ref q1, .ref q4, .int (nI kc), .int td, .ref q2, .ref q3], xO q1 0 [.ref a1, .int (nI n)], xA γ a1 12 f, xO q2 0 [.ref a2, .int tn], xA γ a2 12 tf, xO q3 1 [.ref a3, .int wn], xA γ a3 12 wf, xQ γ q4 6 (fun t9 => some (kq t9))]) (ks := ks) (nb := 8) (t := (xBl (x >>> (5 &&& 31)) kc)) (R9 := [xO s0 3 [.ref q574x, .ref tq, .int (td + xFew n f (ks (xBl (x >>> (5 &&& 31)) kc)))], xA γ r n f, xT γ tq kc (fun t9 => some (ta t9)), xA γ q574x n (ks (xBl (x >>> (5 &&& 31)) kc))] ++ xTs γ ta n ks kc) rfl (by omega) (hkn (xBl (x >>> (5 &&& 31)) kc) (by omega))) (xismC (xKp_r2 (base := [xO q0 2 [.ref q1, .ref q4, .int (nI kc), .int td, .ref q2, .ref q3], xO q1 0 [.ref a1, .int (nI n)], xA γ a1 12 f, xO q2 0 [.ref a2, .int tn], xA γ a2 12 tf, xO q3 1 [.ref a3, .int wn], xA γ a3 12 wf, xQ γ q4 6 (fun t9 => some (kq t9))]) (kn := kn) (ks := ks) (nb := 8) (t := (xBl (x >>> (5 &&& 31)) kc)) (R9 := [xO s0 3 [.ref q574x, .ref tq, .int (td + xFew n f (ks (xBl (x >>> (5 &&& 31)) kc)))], xA γ r n f, xT γ tq kc (fun t9 => some (ta t9)), xA γ q574x n (ks (xBl (x >>> (5 &&& 31)) kc))] ++ xTs γ ta n ks kc) rfl (by omega)) xismN)))))))) rfl rfl rfl hl.1 rfl (Nat.le_of_ble_eq_true rfl) dL_act_597 ⟨(by omega : _ ≤ 203), (by omega : _ ≤ 2700)⟩ (fun r9 w9 H locs hw hP hD hS => ?_)
      obtain ⟨rfl, wn88x, wf89x, rfl⟩ := hw
      have hU : xup (([xO q0 2 [.ref q1, .ref q4, .int (nI kc), .int td, .ref q2, .ref q3], xO q1 0 [.ref a1, .int (nI n)], xA γ a1 12 f, xO q2 0 [.ref a2, .int tn], xA γ a2 12 tf, xO q3 1 [.ref a3, .int wn], xA γ a3 12 wf, xQ γ q4 6 (fun t9 => some (kq t9))] ++ xKp γ kq ka kn ks) ++ ([xO s0 3 [.ref q574x, .ref tq, .int (td + xFew n f (ks (xBl (x >>> (5 &&& 31)) kc)))], xA γ r n f, xT γ tq kc (fun t9 => some (ta t9)), xA γ q574x n (ks (xBl (x >>> (5 &&& 31)) kc))] ++ xTs γ ta n ks kc)) ([0, 1, 2, 5, 6, 7] ++ [8 + 2 * (xBl (x >>> (5 &&& 31)) kc), 8 + 2 * (xBl (x >>> (5 &&& 31)) kc) + 1]) ([xO q0 2 [.ref q1, .ref q4, .int (nI kc), .int (td + xFew n f (ks (xBl (x >>> (5 &&& 31)) kc))), .ref q2, .ref q3], xO q1 0 [.ref a1, .int (nI n)], xA γ a1 12 (ks (xBl (x >>> (5 &&& 31)) kc)), xO q3 1 [.ref a3, .int wn88x], xA γ a3 12 wf89x, xQ γ q4 6 (fun t9 => some (kq t9))] ++ [xO (kq (xBl (x >>> (5 &&& 31)) kc)) 0 [.ref (ka (xBl (x >>> (5 &&& 31)) kc)), .int (nI n)], xA γ (ka (xBl (x >>> (5 &&& 31)) kc)) 12 (ks (xBl (x >>> (5 &&& 31)) kc))]) = ([xO q0 2 [.ref q1, .ref q4, .int (nI kc), .int (td + xFew n f (ks (xBl (x >>> (5 &&& 31)) kc))), .ref q2, .ref q3], xO q1 0 [.ref a1, .int (nI n)], xA γ a1 12 (ks (xBl (x >>> (5 &&& 31)) kc)), xO q2 0 [.ref a2, .int tn], xA γ a2 12 tf, xO q3 1 [.ref a3, .int wn88x], xA γ a3 12 wf89x, xQ γ q4 6 (fun t9 => some (kq t9))] ++ xKp γ kq ka kn ks) ++ ([xO s0 3 [.ref q574x, .ref tq, .int (td + xFew n f (ks (xBl (x >>> (5 &&& 31)) kc)))], xA γ r n f, xT γ tq kc (fun t9 => some (ta t9)), xA γ q574x n (ks (xBl (x >>> (5 &&& 31)) kc))] ++ xTs γ ta n ks kc) := xup_end rfl rfl (xKp_o2 (base := [xO q0 2 [.ref q1, .ref q4, .int (nI kc), .int (td + xFew n f (ks (xBl (x >>> (5 &&& 31)) kc))), .ref q2, .ref q3], xO q1 0 [.ref a1, .int (nI n)], xA γ a1 12 (ks (xBl (x >>> (5 &&& 31)) kc)), xO q2 0 [.ref a2, .int tn], xA γ a2 12 tf, xO q3 1 [.ref a3, .int wn88x], xA γ a3 12 wf89x, xQ γ q4 6 (fun t9 => some (kq t9))]) (ks := ks) (nb := 8) (t := (xBl (x >>> (5 &&& 31)) kc)) (R9 := [xO s0 3 [.ref q574x, .ref tq, .int (td + xFew n f (ks (xBl (x >>> (5 &&& 31)) kc)))], xA γ r n f, xT γ tq kc (fun t9 => some (ta t9)), xA γ q574x n (ks (xBl (x >>> (5 &&& 31)) kc))] ++ xTs γ ta n ks kc) rfl (by omega) (hkn (xBl (x >>> (5 &&& 31)) kc) (by omega))) (xKp_r2 (base := [xO q0 2 [.ref q1, .ref q4, .int (nI kc), .int (td + xFew n f (ks (xBl (x >>> (5 &&& 31)) kc))), .ref q2, .ref q3], xO q1 0 [.ref a1, .int (nI n)], xA γ a1 12 (ks (xBl (x >>> (5 &&& 31)) kc)), xO q2 0 [.ref a2, .int tn], xA γ a2 12 tf, xO q3 1 [.ref a3, .int wn88x], xA γ a3 12 wf89x, xQ γ q4 6 (fun t9 => some (kq t9))]) (kn := kn) (ks := ks) (nb := 8) (t := (xBl (x >>> (5 &&& 31)) kc)) (R9 := [xO s0 3 [.ref q574x, .ref tq, .int (td + xFew n f (ks (xBl (x >>> (5 &&& 31)) kc)))], xA γ r n f, xT γ tq kc (fun t9 => some (ta t9)), xA γ q574x n (ks (xBl (x >>> (5 &&& 31)) kc))] ++ xTs γ ta n ks kc) rfl (by omega))
      have hP : xP γ (([xO q0 2 [.ref q1, .ref q4, .int (nI kc), .int (td + xFew n f (ks (xBl (x >>> (5 &&& 31)) kc))), .ref q2, .ref q3], xO q1 0 [.ref a1, .int (nI n)], xA γ a1 12 (ks (xBl (x >>> (5 &&& 31)) kc)), xO q2 0 [.ref a2, .int tn], xA γ a2 12 tf, xO q3 1 [.ref a3, .int wn88x], xA γ a3 12 wf89x, xQ γ q4 6 (fun t9 => some (kq t9))] ++ xKp γ kq ka kn ks) ++ ([xO s0 3 [.ref q574x, .ref tq, .int (td + xFew n f (ks (xBl (x >>> (5 &&& 31)) kc)))], xA γ r n f, xT γ tq kc (fun t9 => some (ta t9)), xA γ q574x n (ks (xBl (x >>> (5 &&& 31)) kc))] ++ xTs γ ta n ks kc)) H := by rw [← hU]; exact hP
      have hD : va_D A (([xO q0 2 [.ref q1, .ref q4, .int (nI kc), .int (td + xFew n f (ks (xBl (x >>> (5 &&& 31)) kc))), .ref q2, .ref q3], xO q1 0 [.ref a1, .int (nI n)], xA γ a1 12 (ks (xBl (x >>> (5 &&& 31)) kc)), xO q2 0 [.ref a2, .int tn], xA γ a2 12 tf, xO q3 1 [.ref a3, .int wn88x], xA γ a3 12 wf89x, xQ γ q4 6 (fun t9 => some (kq t9))] ++ xKp γ kq ka kn ks) ++ ([xO s0 3 [.ref q574x, .ref tq, .int (td + xFew n f (ks (xBl (x >>> (5 &&& 31)) kc)))], xA γ r n f, xT γ tq kc (fun t9 => some (ta t9)), xA γ q574x n (ks (xBl (x >>> (5 &&& 31)) kc))] ++ xTs γ ta n ks kc)) := by rw [← hU]; exact hD
      have hP : xP γ (([xO q0 2 [.ref q1, .ref q4, .int (nI kc), .int (td + xFew n f (ks (xBl (x >>> (5 &&& 31)) kc))), .ref q2, .ref q3], xO q1 0 [.ref a1, .int (nI n)], xA γ a1 12 (ks (xBl (x >>> (5 &&& 31)) kc)), xO q2 0 [.ref a2, .int tn], xA γ a2 12 tf, xO q3 1 [.ref a3, .int wn88x], xA γ a3 12 wf89x, xQ γ q4 6 (fun t9 => some (kq t9))] ++ xKp γ kq ka kn ks) ++ ([xO s0 3 [.ref q574x, .ref tq, .int (td + xFew n f (ks (xBl (x >>> (5 &&& 31)) kc)))], xA γ r n f, xT γ tq kc (fun t9 => some (ta t9)), xA γ q574x n (ks (xBl (x >>> (5 &&& 31)) kc))] ++ xTs γ ta n ks kc)) H := hP
      have hD : va_D A (([xO q0 2 [.ref q1, .ref q4, .int (nI kc), .int (td + xFew n f (ks (xBl (x >>> (5 &&& 31)) kc))), .ref q2, .ref q3], xO q1 0 [.ref a1, .int (nI n)], xA γ a1 12 (ks (xBl (x >>> (5 &&& 31)) kc)), xO q2 0 [.ref a2, .int tn], xA γ a2 12 tf, xO q3 1 [.ref a3, .int wn88x], xA γ a3 12 wf89x, xQ γ q4 6 (fun t9 => some (kq t9))] ++ xKp γ kq ka kn ks) ++ ([xO s0 3 [.ref q574x, .ref tq, .int (td + xFew n f (ks (xBl (x >>> (5 &&& 31)) kc)))], xA γ r n f, xT γ tq kc (fun t9 => some (ta t9)), xA γ q574x n (ks (xBl (x >>> (5 &&& 31)) kc))] ++ xTs γ ta n ks kc)) := hD
      refine W.eq (g2 := F0 m 600 ls [.int (xFew n f (ks (xBl (x >>> (5 &&& 31)) kc)))]) rfl ?_
      refine lv_iload hx hb dL_act_600 (lv_at hl 0 rfl) ?_
      refine lv_icmp_ne (tgt := 614) hx hb dL_act_602 (by decide) (fun c => absurd (rfl) c) (fun _ => ?_)
      refine lv_iload hx hb dL_act_605 (lv_at hl 1 rfl) ?_
      refine lv_if_eq (tgt := 614) hx hb dL_act_607 (by decide) (fun c => absurd c (by decide)) (fun _ => ?_)
      refine lv_iconst (v := 1) hx hb dL_act_610 (by decide) ?_
      refine lv_goto (tgt := 615) hx hb dL_act_611 (by decide) ?_
      have hPD := xre (C := [xO q0 2 [.ref q1, .ref q4, .int (nI kc), .int (td + xFew n f (ks (xBl (x >>> (5 &&& 31)) kc))), .ref q2, .ref q3], xO q1 0 [.ref a1, .int (nI n)], xA γ a1 12 (ks (xBl (x >>> (5 &&& 31)) kc)), xO q2 0 [.ref a2, .int tn], xA γ a2 12 tf, xO q3 1 [.ref a3, .int wn88x], xA γ a3 12 wf89x, xQ γ q4 6 (fun t9 => some (kq t9))] ++ xKp γ kq ka kn ks) (E := [xO s0 3 [.ref q574x, .ref tq, .int (td + xFew n f (ks (xBl (x >>> (5 &&& 31)) kc)))], xA γ r n f, xT γ tq kc (fun t9 => some (ta t9)), xA γ q574x n (ks (xBl (x >>> (5 &&& 31)) kc))]) (E2 := [xO s0 3 [.ref q574x, .ref tq, .int (td + xFew n f (ks (xBl (x >>> (5 &&& 31)) kc)))], xA γ q574x n (ks (xBl (x >>> (5 &&& 31)) kc)), xT γ tq kc (fun t9 => some (ta t9))]) (T := xTs γ ta n ks kc) [0, 3, 2] rfl rfl hP hD
      have hP := hPD.1
      have hD := hPD.2
      have hP : xP γ (([xO q0 2 [.ref q1, .ref q4, .int (nI kc), .int (td + xFew n f (ks (xBl (x >>> (5 &&& 31)) kc))), .ref q2, .ref q3], xO q1 0 [.ref a1, .int (nI n)], xA γ a1 12 (ks (xBl (x >>> (5 &&& 31)) kc)), xO q2 0 [.ref a2, .int tn], xA γ a2 12 tf, xO q3 1 [.ref a3, .int wn88x], xA γ a3 12 wf89x, xQ γ q4 6 (fun t9 => some (kq t9))] ++ xKp γ kq ka kn ks) ++ ([xO s0 3 [.ref q574x, .ref tq, .int (td + xFew n f (ks (xBl (x >>> (5 &&& 31)) kc)))], xA γ q574x n (ks (xBl (x >>> (5 &&& 31)) kc)), xT γ tq kc (fun t9 => some (ta t9))] ++ xTs γ ta n ks kc)) H := hP
      have hD : va_D A (([xO q0 2 [.ref q1, .ref q4, .int (nI kc), .int (td + xFew n f (ks (xBl (x >>> (5 &&& 31)) kc))), .ref q2, .ref q3], xO q1 0 [.ref a1, .int (nI n)], xA γ a1 12 (ks (xBl (x >>> (5 &&& 31)) kc)), xO q2 0 [.ref a2, .int tn], xA γ a2 12 tf, xO q3 1 [.ref a3, .int wn88x], xA γ a3 12 wf89x, xQ γ q4 6 (fun t9 => some (kq t9))] ++ xKp γ kq ka kn ks) ++ ([xO s0 3 [.ref q574x, .ref tq, .int (td + xFew n f (ks (xBl (x >>> (5 &&& 31)) kc)))], xA γ q574x n (ks (xBl (x >>> (5 &&& 31)) kc)), xT γ tq kc (fun t9 => some (ta t9))] ++ xTs γ ta n ks kc)) := hD
      subst hQ
      exact xG_z hx hb hr hlocks dL_act_615 (Or.inr rfl) hP hD hS (by omega : _ ≤ 203) (by omega : _ ≤ 2700) (⟨rfl, n, kc, td + xFew n f (ks (xBl (x >>> (5 &&& 31)) kc)), tn, wn88x, ks (xBl (x >>> (5 &&& 31)) kc), tf, wf89x, ks, kn, q574x, tq, ta, hI.reach (k := xBl (x >>> (5 &&& 31)) kc) hj5 htg, hkn, rfl⟩)
    · refine x_top (y := 0) (if_neg hcb) ?_
      refine lv_istore (lv' := [(5, .int 0), (6, .int (nI (xBl (x >>> (5 &&& 31)) kc))), (0, .ref q0), (1, .ref s0), (2, .int x), (3, .int (nI n)), (4, .int (nI p9))]) hx hb dL_act_542 hl (by decide) rfl (fun ls hl => ?_)
      refine lv_iload hx hb dL_act_544 (lv_at hl 0 rfl) ?_
      refine lv_if_eq (tgt := 558) hx hb dL_act_546 (by decide) (fun _ => ?_) (fun c => absurd (rfl) c)
      refine lv_iconst (v := 0) hx hb dL_act_558 (by decide) ?_
      refine lv_istore (lv' := [(7, .int 0), (5, .int 0), (6, .int (nI (xBl (x >>> (5 &&& 31)) kc))), (0, .ref q0), (1, .ref s0), (2, .int x), (3, .int (nI n)), (4, .int (nI p9))]) hx hb dL_act_559 hl (by decide) rfl (fun ls hl => ?_)
      refine lv_iload hx hb dL_act_561 (lv_at hl 1 rfl) ?_
      refine lv_if_eq (tgt := 583) hx hb dL_act_563 (by decide) (fun _ => ?_) (fun c => absurd (rfl) c)
      refine lv_aload_n hx hb dL_act_583 rfl (lv_at hl 4 rfl) ?_
      refine lv_dup hx hb dL_act_584 rfl ?_
      refine va_get (D := γ.1) (ci := 3) (v := .int td) (C := RX3) (T := TX3) (N := 3) hx hb hts iwL_act_3 hown hK hP 20 rfl rfl 2 (by decide) (hts _ flL_act_43) (fun _ h9 => h9) rfl dL_act_585 ?_
      refine lv_iload hx hb dL_act_588 (lv_at hl 0 rfl) ?_
      refine lv_iadd hx hb dL_act_590 ?_
      refine x_top (y := td) (Int32.add_zero _) ?_
      refine va_put (D := γ.1) (ci := 3) (v := .int td) (ty := .int) (C := RX3) (T := TX3) (N := 3) hx hb hts iwL_act_3 tyX3 tyX3_ok nmX3 hown hK hP hD hS 20 rfl rfl 2 (by decide) (hts _ flL_act_43) (fun _ h9 => h9) rfl (by decide +kernel) rfl rfl (Nat.le_of_ble_eq_true rfl) dL_act_591 (fun H locs hP hD hS => ?_)
      have hP : xP γ (([xO q0 2 [.ref q1, .ref q4, .int (nI kc), .int td, .ref q2, .ref q3], xO q1 0 [.ref a1, .int (nI n)], xA γ a1 12 f, xO q2 0 [.ref a2, .int tn], xA γ a2 12 tf, xO q3 1 [.ref a3, .int wn], xA γ a3 12 wf, xQ γ q4 6 (fun t9 => some (kq t9))] ++ xKp γ kq ka kn ks) ++ ([xO s0 3 [.ref r, .ref tq, .int td], xA γ r n f, xT γ tq kc (fun t9 => some (ta t9))] ++ xTs γ ta n ks kc)) H := hP
      have hD : va_D A (([xO q0 2 [.ref q1, .ref q4, .int (nI kc), .int td, .ref q2, .ref q3], xO q1 0 [.ref a1, .int (nI n)], xA γ a1 12 f, xO q2 0 [.ref a2, .int tn], xA γ a2 12 tf, xO q3 1 [.ref a3, .int wn], xA γ a3 12 wf, xQ γ q4 6 (fun t9 => some (kq t9))] ++ xKp γ kq ka kn ks) ++ ([xO s0 3 [.ref r, .ref tq, .int td], xA γ r n f, xT γ tq kc (fun t9 => some (ta t9))] ++ xTs γ ta n ks kc)) := hD
      refine lv_aload_n hx hb dL_act_594 rfl (lv_at hl 3 rfl) ?_
      refine lv_iload hx hb dL_act_595 (lv_at hl 2 rfl) ?_
      refine xXV (q0 := 0) (ci := 2) (As := [.int (nI (xBl (x >>> (5 &&& 31)) kc))]) (rest := []) ⟨hx, hb, hml, hown, hts⟩ (c_X2_reach_x2 γ l hlt sa q0 q1 q2 q3 q4 kc td a1 n f kq ka kn ks (xBl (x >>> (5 &&& 31)) kc) (by omega) (by omega) (by omega) (by omega) (by simpa using hcb)) (cwV 1 hts gL_act_X2_reach rfl rfl rfl hdv_X2_reach ⟨(Nat.le_of_ble_eq_true rfl), (Nat.le_of_ble_eq_true rfl)⟩) hK hP (fun U hU hW => xE.at hW hU hEv hEs hEh hS) [0, 1, 2, 7, 8 + 2 * (xBl (x >>> (5 &&& 31)) kc), 8 + 2 * (xBl (x >>> (5 &&& 31)) kc) + 1] (xisC rfl (xisC rfl (xisC rfl (xisC rfl (xisC (xKp_o2 (base := [xO q0 2 [.ref q1, .ref q4, .int (nI kc), .int td, .ref q2, .ref q3], xO q1 0 [.ref a1, .int (nI n)], xA γ a1 12 f, xO q2 0 [.ref a2, .int tn], xA γ a2 12 tf, xO q3 1 [.ref a3, .int wn], xA γ a3 12 wf, xQ γ q4 6 (fun t9 => some (kq t9))]) (ks := ks) (nb := 8) (t := (xBl (x >>> (5 &&& 31)) kc)) (R9 := [xO s0 3 [.ref r, .ref tq, .int td], xA γ r n f, xT γ tq kc (fun t9 => some (ta t9))] ++ xTs γ ta n ks kc) rfl (by omega) (hkn (xBl (x >>> (5 &&& 31)) kc) (by omega))) (xisC (xKp_r2 (base := [xO q0 2 [.ref q1, .ref q4, .int (nI kc), .int td, .ref q2, .ref q3], xO q1 0 [.ref a1, .int (nI n)], xA γ a1 12 f, xO q2 0 [.ref a2, .int tn], xA γ a2 12 tf, xO q3 1 [.ref a3, .int wn], xA γ a3 12 wf, xQ γ q4 6 (fun t9 => some (kq t9))]) (kn := kn) (ks := ks) (nb := 8) (t := (xBl (x >>> (5 &&& 31)) kc)) (R9 := [xO s0 3 [.ref r, .ref tq, .int td], xA γ r n f, xT γ tq kc (fun t9 => some (ta t9))] ++ xTs γ ta n ks kc) rfl (by omega)) xisN)))))) rfl rfl rfl hl.1 rfl (Nat.le_of_ble_eq_true rfl) dL_act_597 ⟨(by omega : _ ≤ 203), (by omega : _ ≤ 2700)⟩ (fun H1 ce9 q9 hz9 hk9 hce hcv hcl => ?_)
      refine vx_catch (E := "java/lang/IllegalStateException") (name := "java/lang/IllegalStateException") (pc := 597) hown [⟨18, 99, 616, 80⟩, ⟨100, 143, 616, 80⟩, ⟨144, 234, 616, 80⟩, ⟨235, 332, 616, 80⟩, ⟨333, 391, 616, 80⟩, ⟨392, 458, 616, 80⟩, ⟨459, 508, 616, 80⟩, ⟨509, 518, 616, 80⟩] ⟨519, 615, 616, 80⟩ [] (htab.trans rfl) (fun z hz => Or.inl ((by decide : ∀ z ∈ ([⟨18, 99, 616, 80⟩, ⟨100, 143, 616, 80⟩, ⟨144, 234, 616, 80⟩, ⟨235, 332, 616, 80⟩, ⟨333, 391, 616, 80⟩, ⟨392, 458, 616, 80⟩, ⟨459, 508, 616, 80⟩, ⟨509, 518, 616, 80⟩] : List ExceptionTableEntry), covers z 597 = false) z hz)) rfl (by decide) (hts _ wdL_act_h80) (va_Nw.use rfl hEv.2.2.1) hce hcv hcl ?_
      refine W.eq (g2 := F0 m 616 ls [.ref q9]) rfl ?_
      have hP := xkept hP hk9
      have hS := xS_then hS hz9 hk9
      refine lv_astore (lv' := [(6, .ref q9), (7, .int 0), (5, .int 0), (0, .ref q0), (1, .ref s0), (2, .int x), (3, .int (nI n)), (4, .int (nI p9))]) hx hb dL_act_616 hl (by decide) rfl (fun ls hl => ?_)
      refine lv_iload hx hb dL_act_618 (lv_at hl 2 rfl) ?_
      refine lv_if_ne (tgt := 627) hx hb dL_act_620 (by decide) (fun c => absurd (rfl) c) (fun _ => ?_)
      refine lv_iconst (v := 1) hx hb dL_act_623 (by decide) ?_
      refine lv_goto (tgt := 628) hx hb dL_act_624 (by decide) ?_
      subst hQ
      exact xG_z hx hb hr hlocks dL_act_628 (Or.inr rfl) hP hD hS (by omega : _ ≤ 203) (by omega : _ ≤ 2700) (⟨rfl, n, kc, td, tn, wn, f, tf, wf, ks, kn, r, tq, ta, hI.same hj5, hkn, rfl⟩)
  · skip
    refine lv_iconst (v := 1) hx hb dL_act_517 (by decide) ?_
    subst hQ
    exact xG_z hx hb hr hlocks dL_act_518 (Or.inr rfl) hP hD hS (by omega : _ ≤ 203) (by omega : _ ≤ 2700) (⟨rfl, n, kc, td, tn, wn, f, tf, wf, ks, kn, r, tq, ta, hI.same hj5, hkn, rfl⟩)

/-! the law, stretch by stretch (rows laid by wip/p38/spec_law.py) -/
theorem flL_law_43 : Cond.fieldLink RL 43 "RingSeesawLaw$Sim" "tips" "I" ∈ wsL_law := by decide +kernel
set_option maxHeartbeats 16000000 in
set_option maxRecDepth 100000 in
theorem xlaw_again {p : Program} {l : Launch} {e : Env} {s : State} {m : MethodId} {args : Array Value} {below : List Frame} {meth : Method} {c : Code} (hlt : l.stackTraces = false) (hx : p.tables.exec = Jvm.exec) (hb : c.code = cL_law) (hml : c.maxLocals = 27) (hts : ∀ w ∈ wsL_law, w.before args s = true) (hown : s.vm.findClass RL = some m.cls) {γ : xG} (hK : xK γ s) (sa : Nat → Nat) {A : Nat → Prop} (hEv : xEv s) (hEs : xEs sa s) (hEh : xEh A s s.heap) (hAr : xAz s) (hA : ∀ q : Nat, s.heap.size ≤ q → A q) (q0 q1 a1 q2 a2 q3 a3 q4 s0 : Nat) (kq ka : Nat → Nat) {b L : Nat} {xs : Nat → Int32} (hX : va_X b L xs s s.heap) (hbl : b < s.heap.size) (hbA : ¬ A b) (hL : L ≤ 260) {Q : State → Prop} (tm : Nat) (x : Int32) (n kc : Nat) (td tn wn : Int32) (f tf wf : xRow) (ks : Nat → xRow) (kn : Nat → Int32) (r tq : Nat) (ta : Nat → Nat) (f0 : xRow) (td0 sm mo : Int32) (J : Nat) (hJ : J < 400) (hI : xInv J n kc f ks) (hkn : ∀ t, t < kc → kn t = nI n) (bq : Nat) (g : xRow) (p9 : Nat) (hp9 : p9 < n) (hsm : xTot f n = sm) (hmo : xMm n f = mo) (hg : ∀ i, i < kc → g i = if xCB n f (ks i) = true then 1 else 0) (H : Heap) (locs : List Loc) (cells slots : Nat) (ls : Array Slot) (hce : cells ≤ 500000) (hsl : slots ≤ 7000000) (hP : xP γ (([xO q0 2 [.ref q1, .ref q4, .int (nI kc), .int td, .ref q2, .ref q3], xO q1 0 [.ref a1, .int (nI n)], xA γ a1 12 f, xO q2 0 [.ref a2, .int tn], xA γ a2 12 tf, xO q3 1 [.ref a3, .int wn], xA γ a3 12 wf, xQ γ q4 6 (fun t9 => some (kq t9))] ++ xKp γ kq ka kn ks) ++ ([xO s0 3 [.ref r, .ref tq, .int td], xA γ r n f, xT γ tq kc (fun t9 => some (ta t9)), xBo γ bq kc g] ++ xTs γ ta n ks kc)) H) (hD : va_D A (([xO q0 2 [.ref q1, .ref q4, .int (nI kc), .int td, .ref q2, .ref q3], xO q1 0 [.ref a1, .int (nI n)], xA γ a1 12 f, xO q2 0 [.ref a2, .int tn], xA γ a2 12 tf, xO q3 1 [.ref a3, .int wn], xA γ a3 12 wf, xQ γ q4 6 (fun t9 => some (kq t9))] ++ xKp γ kq ka kn ks) ++ ([xO s0 3 [.ref r, .ref tq, .int td], xA γ r n f, xT γ tq kc (fun t9 => some (ta t9)), xBo γ bq kc g] ++ xTs γ ta n ks kc))) (hS : va_S A s.heap H locs) (hl : lv_has ls 27 [(0, .ref b), (1, .ref q0), (2, .ref s0), (3, .int (nI tm)), (4, .int x), (5, .long (xDg n kc f0 ks td0)), (7, .int (nI n)), (8, .int (nI kc)), (12, .ref bq), (15, .int (nI p9)), (19, .int sm), (20, .int mo)]) (K : ∀ (f : xRow) (td : Int32) (r : Nat) (H : Heap) (locs : List Loc) (ce sl : Nat) (ls : Array Slot), (xInv (J + 1) n kc f ks) → ce ≤ cells + 1 → sl ≤ slots + 12 → xP γ (([xO q0 2 [.ref q1, .ref q4, .int (nI kc), .int td, .ref q2, .ref q3], xO q1 0 [.ref a1, .int (nI n)], xA γ a1 12 f, xO q2 0 [.ref a2, .int tn], xA γ a2 12 tf, xO q3 1 [.ref a3, .int wn], xA γ a3 12 wf, xQ γ q4 6 (fun t9 => some (kq t9))] ++ xKp γ kq ka kn ks) ++ ([xO s0 3 [.ref r, .ref tq, .int td], xA γ r n f, xT γ tq kc (fun t9 => some (ta t9))] ++ xTs γ ta n ks kc)) H → va_D A (([xO q0 2 [.ref q1, .ref q4, .int (nI kc), .int td, .ref q2, .ref q3], xO q1 0 [.ref a1, .int (nI n)], xA γ a1 12 f, xO q2 0 [.ref a2, .int tn], xA γ a2 12 tf, xO q3 1 [.ref a3, .int wn], xA γ a3 12 wf, xQ γ q4 6 (fun t9 => some (kq t9))] ++ xKp γ kq ka kn ks) ++ ([xO s0 3 [.ref r, .ref tq, .int td], xA γ r n f, xT γ tq kc (fun t9 => some (ta t9))] ++ xTs γ ta n ks kc)) → va_S A s.heap H locs → lv_has ls 27 [(0, .ref b), (1, .ref q0), (2, .ref s0), (3, .int (nI tm))] → W p l e room_1 s m args below meth c H locs ce sl Q (F0 m 1219 ls [])) : W p l e room_1 s m args below meth c H locs cells slots Q (F0 m 1105 ls []) := by
  have hn0 := hI.1
  have hn1 := hI.2.1
  have hkc := hI.2.2.1
  have hbf := hI.f
  have hbg := hI.g
  refine lv_iload hx hb dL_law_1105 (lv_at hl 4 rfl) ?_
  refine lv_iconst (v := 3) hx hb dL_law_1107 (by decide) ?_
  refine lv_ishr hx hb dL_law_1108 ?_
  refine lv_bipush (v := 101) hx hb dL_law_1109 (by decide) ?_
  refine xSR (As := [.int (x >>> (3 &&& 31)), .int 101]) (rest := []) (stk := [.int (nI (xBl (x >>> (3 &&& 31)) 101))]) ⟨hx, hb, hml, hown, hts⟩ (c_L_below γ l (x >>> (3 &&& 31)) 101 (by omega) (by omega)) (va_cwS 2 hts gL_law_L_below rfl rfl rfl hds_L_below ⟨(Nat.le_of_ble_eq_true rfl), (Nat.le_of_ble_eq_true rfl)⟩) hK hP [] rfl  rfl hl.1 rfl (Nat.le_of_ble_eq_true rfl) dL_law_1111 ⟨(by omega : _ ≤ 600172), (by omega : _ ≤ 7300668)⟩ rfl ?_
  refine lv_bipush (v := 50) hx hb dL_law_1114 (by decide) ?_
  refine lv_isub hx hb dL_law_1116 ?_
  have hu0 := xnum (k := xBl (x >>> (3 &&& 31)) 101) (a := 50) (xBl_lt (by omega)) (by omega)
  obtain ⟨u9, eu, hu1, hu2⟩ : ∃ u9 : Int32, u9 = (nI (xBl (x >>> (3 &&& 31)) 101)) - 50 ∧ ¬ u9 < (-50) ∧ u9 ≤ 50 := ⟨_, rfl, xnum_le hu0.1 hu0.2 (by decide) (by decide)⟩
  refine x_top (y := u9) eu.symm ?_
  have hu3 : -50 ≤ u9.toInt ∧ u9.toInt ≤ 50 := x50 hu1 hu2
  have hT3 : xTot (xTip n f p9 u9) n = xTot f n := xTot_tip hn0 hp9
  have hM3 : xMm n (xTip n f p9 u9) = xMm n f := xMm_tip (B := 1000 + 400 * (J : Int)) (T := 50) hI.2.2.2.2.1 hn0 hn1 hp9 hu3 (by omega) (by decide)
  refine lv_istore (lv' := [(25, .int u9), (0, .ref b), (1, .ref q0), (2, .ref s0), (3, .int (nI tm)), (4, .int x), (5, .long (xDg n kc f0 ks td0)), (7, .int (nI n)), (8, .int (nI kc)), (12, .ref bq), (15, .int (nI p9)), (19, .int sm), (20, .int mo)]) hx hb dL_law_1117 hl (by decide) rfl (fun ls hl => ?_)
  refine lv_aload_n hx hb dL_law_1119 rfl (lv_at hl 3 rfl) ?_
  refine lv_aload_n hx hb dL_law_1120 rfl (lv_at hl 3 rfl) ?_
  refine lv_aload_n hx hb dL_law_1121 rfl (lv_at hl 3 rfl) ?_
  refine va_get (D := γ.1) (ci := 3) (v := .ref r) (C := RX3) (T := TX3) (N := 3) hx hb hts iwL_law_3 hown hK hP 20 rfl rfl 0 (by decide) (hts _ flL_law_9) (fun _ h9 => h9) rfl dL_law_1122 ?_
  refine lv_iload hx hb dL_law_1125 (lv_at hl 10 rfl) ?_
  refine lv_iload hx hb dL_law_1127 (lv_at hl 0 rfl) ?_
  refine xVC (q0 := 20) (ci := 3) (As := [.ref r, .int (nI p9), .int u9]) (rest := [.ref s0]) ⟨hx, hb, hml, hown, hts⟩ (c_X3_tipped γ l s0 r n f p9 u9 (by omega) (by omega) (by omega)) (cwV 3 hts gL_law_X3_tipped rfl rfl rfl hdv_X3_tipped ⟨(Nat.le_of_ble_eq_true rfl), (Nat.le_of_ble_eq_true rfl)⟩) xAz_blind (fun U _ hW => xAz.warm hW hAr) hK hP hD hS hA [21] rfl rfl rfl rfl rfl hl.1 rfl (Nat.le_of_ble_eq_true rfl) dL_law_1129 ⟨(by omega : _ ≤ 600172), (by omega : _ ≤ 7300668)⟩ (fun r9 w9 v9 H locs hw hP hD hS => ?_)
  obtain ⟨b224x, rfl, rfl, rfl⟩ := hw
  have hP : xP γ ((([xO q0 2 [.ref q1, .ref q4, .int (nI kc), .int td, .ref q2, .ref q3], xO q1 0 [.ref a1, .int (nI n)], xA γ a1 12 f, xO q2 0 [.ref a2, .int tn], xA γ a2 12 tf, xO q3 1 [.ref a3, .int wn], xA γ a3 12 wf, xQ γ q4 6 (fun t9 => some (kq t9))] ++ xKp γ kq ka kn ks) ++ ([xO s0 3 [.ref r, .ref tq, .int td], xA γ r n f, xT γ tq kc (fun t9 => some (ta t9)), xBo γ bq kc g] ++ xTs γ ta n ks kc)) ++ [xA γ b224x n (xTip n f p9 u9)]) H := hP
  have hD : va_D A ((([xO q0 2 [.ref q1, .ref q4, .int (nI kc), .int td, .ref q2, .ref q3], xO q1 0 [.ref a1, .int (nI n)], xA γ a1 12 f, xO q2 0 [.ref a2, .int tn], xA γ a2 12 tf, xO q3 1 [.ref a3, .int wn], xA γ a3 12 wf, xQ γ q4 6 (fun t9 => some (kq t9))] ++ xKp γ kq ka kn ks) ++ ([xO s0 3 [.ref r, .ref tq, .int td], xA γ r n f, xT γ tq kc (fun t9 => some (ta t9)), xBo γ bq kc g] ++ xTs γ ta n ks kc)) ++ [xA γ b224x n (xTip n f p9 u9)]) := hD
  have hP := xmvP2 hP
  have hD := xmvD2 hD
  have hP : xP γ (([xO q0 2 [.ref q1, .ref q4, .int (nI kc), .int td, .ref q2, .ref q3], xO q1 0 [.ref a1, .int (nI n)], xA γ a1 12 f, xO q2 0 [.ref a2, .int tn], xA γ a2 12 tf, xO q3 1 [.ref a3, .int wn], xA γ a3 12 wf, xQ γ q4 6 (fun t9 => some (kq t9))] ++ xKp γ kq ka kn ks) ++ ([xO s0 3 [.ref r, .ref tq, .int td], xA γ r n f, xT γ tq kc (fun t9 => some (ta t9)), xBo γ bq kc g, xA γ b224x n (xTip n f p9 u9)] ++ xTs γ ta n ks kc)) H := hP
  have hD : va_D A (([xO q0 2 [.ref q1, .ref q4, .int (nI kc), .int td, .ref q2, .ref q3], xO q1 0 [.ref a1, .int (nI n)], xA γ a1 12 f, xO q2 0 [.ref a2, .int tn], xA γ a2 12 tf, xO q3 1 [.ref a3, .int wn], xA γ a3 12 wf, xQ γ q4 6 (fun t9 => some (kq t9))] ++ xKp γ kq ka kn ks) ++ ([xO s0 3 [.ref r, .ref tq, .int td], xA γ r n f, xT γ tq kc (fun t9 => some (ta t9)), xBo γ bq kc g, xA γ b224x n (xTip n f p9 u9)] ++ xTs γ ta n ks kc)) := hD
  refine W.eq (g2 := F0 m 1132 ls [.ref b224x, .ref s0]) rfl ?_
  refine va_put (D := γ.1) (ci := 3) (v := .ref b224x) (ty := .array .int) (C := RX3) (T := TX3) (N := 3) hx hb hts iwL_law_3 tyX3 tyX3_ok nmX3 hown hK hP hD hS 20 rfl rfl 0 (by decide) (hts _ flL_law_9) (fun _ h9 => h9) rfl (by decide +kernel) rfl rfl (Nat.le_of_ble_eq_true rfl) dL_law_1132 (fun H locs hP hD hS => ?_)
  have hP : xP γ (([xO q0 2 [.ref q1, .ref q4, .int (nI kc), .int td, .ref q2, .ref q3], xO q1 0 [.ref a1, .int (nI n)], xA γ a1 12 f, xO q2 0 [.ref a2, .int tn], xA γ a2 12 tf, xO q3 1 [.ref a3, .int wn], xA γ a3 12 wf, xQ γ q4 6 (fun t9 => some (kq t9))] ++ xKp γ kq ka kn ks) ++ ([xO s0 3 [.ref b224x, .ref tq, .int td], xA γ r n f, xT γ tq kc (fun t9 => some (ta t9)), xBo γ bq kc g, xA γ b224x n (xTip n f p9 u9)] ++ xTs γ ta n ks kc)) H := hP
  have hD : va_D A (([xO q0 2 [.ref q1, .ref q4, .int (nI kc), .int td, .ref q2, .ref q3], xO q1 0 [.ref a1, .int (nI n)], xA γ a1 12 f, xO q2 0 [.ref a2, .int tn], xA γ a2 12 tf, xO q3 1 [.ref a3, .int wn], xA γ a3 12 wf, xQ γ q4 6 (fun t9 => some (kq t9))] ++ xKp γ kq ka kn ks) ++ ([xO s0 3 [.ref b224x, .ref tq, .int td], xA γ r n f, xT γ tq kc (fun t9 => some (ta t9)), xBo γ bq kc g, xA γ b224x n (xTip n f p9 u9)] ++ xTs γ ta n ks kc)) := hD
  refine lv_aload_n hx hb dL_law_1135 rfl (lv_at hl 3 rfl) ?_
  refine lv_dup hx hb dL_law_1136 rfl ?_
  refine va_get (D := γ.1) (ci := 3) (v := .int td) (C := RX3) (T := TX3) (N := 3) hx hb hts iwL_law_3 hown hK hP 20 rfl rfl 2 (by decide) (hts _ flL_law_43) (fun _ h9 => h9) rfl dL_law_1137 ?_
  refine lv_iload hx hb dL_law_1140 (lv_at hl 0 rfl) ?_
  refine va_mabs hx hb (hml.trans hl.1.symm) hown (hts _ wdL_law_m47a) (hts _ wdL_law_m47b) (hts _ wdL_law_m47c) (hts _ wdL_law_m47d) (Nat.le_of_ble_eq_true rfl) (Nat.le_of_ble_eq_true rfl) (by omega : _ ≤ 600172) (by omega : _ ≤ 7300668) dL_law_1142 ?_
  refine lv_iadd hx hb dL_law_1145 ?_
  refine x_top (y := td + xAbs u9) (rfl) ?_
  refine va_put (D := γ.1) (ci := 3) (v := .int (td + xAbs u9)) (ty := .int) (C := RX3) (T := TX3) (N := 3) hx hb hts iwL_law_3 tyX3 tyX3_ok nmX3 hown hK hP hD hS 20 rfl rfl 2 (by decide) (hts _ flL_law_43) (fun _ h9 => h9) rfl (by decide +kernel) rfl rfl (Nat.le_of_ble_eq_true rfl) dL_law_1146 (fun H locs hP hD hS => ?_)
  have hP : xP γ (([xO q0 2 [.ref q1, .ref q4, .int (nI kc), .int td, .ref q2, .ref q3], xO q1 0 [.ref a1, .int (nI n)], xA γ a1 12 f, xO q2 0 [.ref a2, .int tn], xA γ a2 12 tf, xO q3 1 [.ref a3, .int wn], xA γ a3 12 wf, xQ γ q4 6 (fun t9 => some (kq t9))] ++ xKp γ kq ka kn ks) ++ ([xO s0 3 [.ref b224x, .ref tq, .int (td + xAbs u9)], xA γ r n f, xT γ tq kc (fun t9 => some (ta t9)), xBo γ bq kc g, xA γ b224x n (xTip n f p9 u9)] ++ xTs γ ta n ks kc)) H := hP
  have hD : va_D A (([xO q0 2 [.ref q1, .ref q4, .int (nI kc), .int td, .ref q2, .ref q3], xO q1 0 [.ref a1, .int (nI n)], xA γ a1 12 f, xO q2 0 [.ref a2, .int tn], xA γ a2 12 tf, xO q3 1 [.ref a3, .int wn], xA γ a3 12 wf, xQ γ q4 6 (fun t9 => some (kq t9))] ++ xKp γ kq ka kn ks) ++ ([xO s0 3 [.ref b224x, .ref tq, .int (td + xAbs u9)], xA γ r n f, xT γ tq kc (fun t9 => some (ta t9)), xBo γ bq kc g, xA γ b224x n (xTip n f p9 u9)] ++ xTs γ ta n ks kc)) := hD
  refine lv_aload_n hx hb dL_law_1149 rfl (lv_at hl 2 rfl) ?_
  refine lv_iload hx hb dL_law_1150 (lv_at hl 10 rfl) ?_
  refine lv_iload hx hb dL_law_1152 (lv_at hl 0 rfl) ?_
  refine xVM (q0 := 0) (ci := 2) (As := [.int (nI p9), .int u9]) (rest := []) ⟨hx, hb, hml, hown, hts⟩ (c_X2_tip γ l q0 q1 q2 q3 q4 kc td a1 n f p9 u9 (by omega) (by omega) (by omega) hu1 hu2) (cwV 2 hts gL_law_X2_tip rfl rfl rfl hdv_X2_tip ⟨(Nat.le_of_ble_eq_true rfl), (Nat.le_of_ble_eq_true rfl)⟩) hK hP hD hS hA [0, 1, 2] rfl rfl rfl rfl rfl hl.1 rfl (Nat.le_of_ble_eq_true rfl) dL_law_1154 ⟨(by omega : _ ≤ 600172), (by omega : _ ≤ 7300668)⟩ (fun r9 w9 H locs hw hP hD hS => ?_)
  obtain ⟨rfl, rfl⟩ := hw
  have hP : xP γ (([xO q0 2 [.ref q1, .ref q4, .int (nI kc), .int (td + xAbs u9), .ref q2, .ref q3], xO q1 0 [.ref a1, .int (nI n)], xA γ a1 12 (xTip n f p9 u9), xO q2 0 [.ref a2, .int tn], xA γ a2 12 tf, xO q3 1 [.ref a3, .int wn], xA γ a3 12 wf, xQ γ q4 6 (fun t9 => some (kq t9))] ++ xKp γ kq ka kn ks) ++ ([xO s0 3 [.ref b224x, .ref tq, .int (td + xAbs u9)], xA γ r n f, xT γ tq kc (fun t9 => some (ta t9)), xBo γ bq kc g, xA γ b224x n (xTip n f p9 u9)] ++ xTs γ ta n ks kc)) H := hP
  have hD : va_D A (([xO q0 2 [.ref q1, .ref q4, .int (nI kc), .int (td + xAbs u9), .ref q2, .ref q3], xO q1 0 [.ref a1, .int (nI n)], xA γ a1 12 (xTip n f p9 u9), xO q2 0 [.ref a2, .int tn], xA γ a2 12 tf, xO q3 1 [.ref a3, .int wn], xA γ a3 12 wf, xQ γ q4 6 (fun t9 => some (kq t9))] ++ xKp γ kq ka kn ks) ++ ([xO s0 3 [.ref b224x, .ref tq, .int (td + xAbs u9)], xA γ r n f, xT γ tq kc (fun t9 => some (ta t9)), xBo γ bq kc g, xA γ b224x n (xTip n f p9 u9)] ++ xTs γ ta n ks kc)) := hD
  refine W.eq (g2 := F0 m 1157 ls [.int (xTip n f p9 u9 p9)]) rfl ?_
  refine lv_aload_n hx hb dL_law_1157 rfl (lv_at hl 3 rfl) ?_
  refine va_get (D := γ.1) (ci := 3) (v := .ref b224x) (C := RX3) (T := TX3) (N := 3) hx hb hts iwL_law_3 hown hK hP 20 rfl rfl 0 (by decide) (hts _ flL_law_9) (fun _ h9 => h9) rfl dL_law_1158 ?_
  refine lv_iload hx hb dL_law_1161 (lv_at hl 10 rfl) ?_
  refine x_iald (f := xTip n f p9 u9) hx hb hK hP 24 rfl p9 rfl (by omega) (by omega) dL_law_1163 ?_
  refine lv_icmp_ne (tgt := 1185) hx hb dL_law_1164 (by decide) (fun c => absurd (rfl) c) (fun _ => ?_)
  refine lv_aload_n hx hb dL_law_1167 rfl (lv_at hl 2 rfl) ?_
  refine xVR (q0 := 0) (ci := 2) (As := []) (rest := []) (stk := [.int (xTot (xTip n f p9 u9) n)]) ⟨hx, hb, hml, hown, hts⟩ (c_X2_sum γ l q0 q1 q2 q3 q4 kc (td + xAbs u9) a1 n (xTip n f p9 u9) (by omega) (by omega)) (cwV 0 hts gL_law_X2_sum rfl rfl rfl hdv_X2_sum ⟨(Nat.le_of_ble_eq_true rfl), (Nat.le_of_ble_eq_true rfl)⟩) hK hP [0, 1, 2] rfl rfl rfl rfl hl.1 rfl (Nat.le_of_ble_eq_true rfl) dL_law_1168 ⟨(by omega : _ ≤ 600172), (by omega : _ ≤ 7300668)⟩ rfl ?_
  refine lv_iload hx hb dL_law_1171 (lv_at hl 11 rfl) ?_
  refine lv_icmp_ne (tgt := 1185) hx hb dL_law_1173 (by decide) (fun c => absurd (hT3.trans hsm) c) (fun _ => ?_)
  refine lv_aload_n hx hb dL_law_1176 rfl (lv_at hl 2 rfl) ?_
  refine xVR (q0 := 0) (ci := 2) (As := []) (rest := []) (stk := [.int (xMm n (xTip n f p9 u9))]) ⟨hx, hb, hml, hown, hts⟩ (c_X2_moment γ l q0 q1 q2 q3 q4 kc (td + xAbs u9) a1 n (xTip n f p9 u9) (by omega) (by omega)) (cwV 0 hts gL_law_X2_moment rfl rfl rfl hdv_X2_moment ⟨(Nat.le_of_ble_eq_true rfl), (Nat.le_of_ble_eq_true rfl)⟩) hK hP [0, 1, 2] rfl rfl rfl rfl hl.1 rfl (Nat.le_of_ble_eq_true rfl) dL_law_1177 ⟨(by omega : _ ≤ 600172), (by omega : _ ≤ 7300668)⟩ rfl ?_
  refine lv_iload hx hb dL_law_1180 (lv_at hl 12 rfl) ?_
  refine lv_icmp_eq (tgt := 1187) hx hb dL_law_1182 (by decide) (fun _ => ?_) (fun c => absurd (hM3.trans hmo) c)
  refine lv_iconst (v := 0) hx hb dL_law_1187 (by decide) ?_
  refine x_top (y := nI 0) (rfl) ?_
  refine lv_istore (lv' := [(26, .int (nI 0)), (25, .int u9), (0, .ref b), (1, .ref q0), (2, .ref s0), (3, .int (nI tm)), (4, .int x), (5, .long (xDg n kc f0 ks td0)), (7, .int (nI n)), (8, .int (nI kc)), (12, .ref bq), (15, .int (nI p9)), (19, .int sm), (20, .int mo)]) hx hb dL_law_1188 hl (by decide) rfl (fun ls hl => ?_)
  have loop1190 : ∀ j : Nat, ∀ (y9 : Nat), y9 + j = kc → ∀ ls : Array Slot, lv_has ls 27 [(0, .ref b), (1, .ref q0), (2, .ref s0), (3, .int (nI tm)), (8, .int (nI kc)), (12, .ref bq), (26, .int (nI y9))] → W p l e room_1 s m args below meth c H locs (cells + 1) (slots + 12) Q (F0 m 1190 ls []) := by
    intro j
    induction j with
    | zero =>
      intro y9 hj ls hl
      refine lv_iload hx hb dL_law_1190 (lv_at hl 6 rfl) ?_
      refine lv_iload hx hb dL_law_1192 (lv_at hl 4 rfl) ?_
      refine lv_icmp_ge (tgt := 1219) hx hb dL_law_1194 (by decide) (fun _ => ?_) (fun c => absurd (nI_le (a := kc) (b := y9) (by omega) (by omega)) c)
      have hPD := xre (C := [xO q0 2 [.ref q1, .ref q4, .int (nI kc), .int (td + xAbs u9), .ref q2, .ref q3], xO q1 0 [.ref a1, .int (nI n)], xA γ a1 12 (xTip n f p9 u9), xO q2 0 [.ref a2, .int tn], xA γ a2 12 tf, xO q3 1 [.ref a3, .int wn], xA γ a3 12 wf, xQ γ q4 6 (fun t9 => some (kq t9))] ++ xKp γ kq ka kn ks) (E := [xO s0 3 [.ref b224x, .ref tq, .int (td + xAbs u9)], xA γ r n f, xT γ tq kc (fun t9 => some (ta t9)), xBo γ bq kc g, xA γ b224x n (xTip n f p9 u9)]) (E2 := [xO s0 3 [.ref b224x, .ref tq, .int (td + xAbs u9)], xA γ b224x n (xTip n f p9 u9), xT γ tq kc (fun t9 => some (ta t9))]) (T := xTs γ ta n ks kc) [0, 4, 2] rfl rfl hP hD
      have hP := hPD.1
      have hD := hPD.2
      have hP : xP γ (([xO q0 2 [.ref q1, .ref q4, .int (nI kc), .int (td + xAbs u9), .ref q2, .ref q3], xO q1 0 [.ref a1, .int (nI n)], xA γ a1 12 (xTip n f p9 u9), xO q2 0 [.ref a2, .int tn], xA γ a2 12 tf, xO q3 1 [.ref a3, .int wn], xA γ a3 12 wf, xQ γ q4 6 (fun t9 => some (kq t9))] ++ xKp γ kq ka kn ks) ++ ([xO s0 3 [.ref b224x, .ref tq, .int (td + xAbs u9)], xA γ b224x n (xTip n f p9 u9), xT γ tq kc (fun t9 => some (ta t9))] ++ xTs γ ta n ks kc)) H := hP
      have hD : va_D A (([xO q0 2 [.ref q1, .ref q4, .int (nI kc), .int (td + xAbs u9), .ref q2, .ref q3], xO q1 0 [.ref a1, .int (nI n)], xA γ a1 12 (xTip n f p9 u9), xO q2 0 [.ref a2, .int tn], xA γ a2 12 tf, xO q3 1 [.ref a3, .int wn], xA γ a3 12 wf, xQ γ q4 6 (fun t9 => some (kq t9))] ++ xKp γ kq ka kn ks) ++ ([xO s0 3 [.ref b224x, .ref tq, .int (td + xAbs u9)], xA γ b224x n (xTip n f p9 u9), xT γ tq kc (fun t9 => some (ta t9))] ++ xTs γ ta n ks kc)) := hD
      exact K (xTip n f p9 u9) (td + xAbs u9) b224x _ _ _ _ _ (hI.tip (by omega) hp9 hu1 hu2) (by omega) (by omega) hP hD hS (lv_sub hl [0, 1, 2, 3] rfl)
    | succ j ih1190 =>
      intro y9 hj ls hl
      refine lv_iload hx hb dL_law_1190 (lv_at hl 6 rfl) ?_
      refine lv_iload hx hb dL_law_1192 (lv_at hl 4 rfl) ?_
      refine lv_icmp_ge (tgt := 1219) hx hb dL_law_1194 (by decide) (fun c => absurd c (nI_ge (a := y9) (b := kc) (by omega) (by omega))) (fun _ => ?_)
      refine lv_aload_n hx hb dL_law_1197 rfl (lv_at hl 1 rfl) ?_
      refine lv_iload hx hb dL_law_1198 (lv_at hl 6 rfl) ?_
      refine xVR (q0 := 0) (ci := 2) (As := [.int (nI y9)]) (rest := []) (stk := [.int (if xCB n (xTip n f p9 u9) (ks y9) = true then 1 else 0)]) ⟨hx, hb, hml, hown, hts⟩ (c_X2_canReach γ l q0 q1 q2 q3 q4 kc (td + xAbs u9) a1 n (xTip n f p9 u9) kq ka kn ks y9 (by omega) (by omega) (by omega) (by omega)) (cwV 1 hts gL_law_X2_canReach rfl rfl rfl hdv_X2_canReach ⟨(Nat.le_of_ble_eq_true rfl), (Nat.le_of_ble_eq_true rfl)⟩) hK hP [0, 1, 2, 7, 8 + 2 * y9, 8 + 2 * y9 + 1] (xisC rfl (xisC rfl (xisC rfl (xisC rfl (xisC (xKp_o2 (base := [xO q0 2 [.ref q1, .ref q4, .int (nI kc), .int (td + xAbs u9), .ref q2, .ref q3], xO q1 0 [.ref a1, .int (nI n)], xA γ a1 12 (xTip n f p9 u9), xO q2 0 [.ref a2, .int tn], xA γ a2 12 tf, xO q3 1 [.ref a3, .int wn], xA γ a3 12 wf, xQ γ q4 6 (fun t9 => some (kq t9))]) (ks := ks) (nb := 8) (t := y9) (R9 := [xO s0 3 [.ref b224x, .ref tq, .int (td + xAbs u9)], xA γ r n f, xT γ tq kc (fun t9 => some (ta t9)), xBo γ bq kc g, xA γ b224x n (xTip n f p9 u9)] ++ xTs γ ta n ks kc) rfl (by omega) (hkn y9 (by omega))) (xisC (xKp_r2 (base := [xO q0 2 [.ref q1, .ref q4, .int (nI kc), .int (td + xAbs u9), .ref q2, .ref q3], xO q1 0 [.ref a1, .int (nI n)], xA γ a1 12 (xTip n f p9 u9), xO q2 0 [.ref a2, .int tn], xA γ a2 12 tf, xO q3 1 [.ref a3, .int wn], xA γ a3 12 wf, xQ γ q4 6 (fun t9 => some (kq t9))]) (kn := kn) (ks := ks) (nb := 8) (t := y9) (R9 := [xO s0 3 [.ref b224x, .ref tq, .int (td + xAbs u9)], xA γ r n f, xT γ tq kc (fun t9 => some (ta t9)), xBo γ bq kc g, xA γ b224x n (xTip n f p9 u9)] ++ xTs γ ta n ks kc) rfl (by omega)) xisN)))))) rfl rfl rfl hl.1 rfl (Nat.le_of_ble_eq_true rfl) dL_law_1200 ⟨(by omega : _ ≤ 600172), (by omega : _ ≤ 7300668)⟩ rfl ?_
      refine lv_aload hx hb dL_law_1203 (lv_at hl 5 rfl) ?_
      refine lv_iload hx hb dL_law_1205 (lv_at hl 6 rfl) ?_
      refine x_zald (f := g) hx hb hK hP 23 rfl y9 rfl (by omega) (by omega) dL_law_1207 ?_
      refine lv_icmp_eq (tgt := 1213) hx hb dL_law_1208 (by decide) (fun _ => ?_) (fun c => absurd (by rw [hg y9 (by omega), xCB_keep hT3 hM3]) c)
      refine lv_iinc (v := nI (y9 + 1)) (lv' := [(26, .int (nI (y9 + 1))), (0, .ref b), (1, .ref q0), (2, .ref s0), (3, .int (nI tm)), (8, .int (nI kc)), (12, .ref bq)]) hx hb dL_law_1213 hl (k := 6) rfl (nI_add y9 1) (by decide) rfl (fun ls hl => ?_)
      refine lv_goto (tgt := 1190) hx hb dL_law_1216 (by decide) ?_
      exact ih1190 (y9 + 1) (by omega) ls (lv_sub hl [1, 2, 3, 4, 5, 6, 0] rfl)
  exact loop1190 kc 0 (by omega) ls (lv_sub hl [2, 3, 4, 5, 9, 10, 0] rfl)

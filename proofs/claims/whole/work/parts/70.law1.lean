/-! the law, case by case (rows laid by wip/whole/spec_law.py) -/
theorem hds_L_lay : yL_lay.cls ≠ "java/lang/invoke/MethodHandle" ∧ yL_lay.cls ≠ "java/lang/invoke/VarHandle" ∧ (parseMethodDescriptor yL_lay.desc).map (fun d => d.parameters.length) = some 3 := by decide +kernel
theorem hdv_X3_lay : yX3_lay.cls = RX3 ∧ yX3_lay.cls ≠ "java/lang/invoke/MethodHandle" ∧ yX3_lay.cls ≠ "java/lang/invoke/VarHandle" ∧ (parseMethodDescriptor yX3_lay.desc).map (fun d => d.parameters.length) = some 1 := by decide +kernel
theorem hdv_X3_thrown : yX3_thrown.cls = RX3 ∧ yX3_thrown.cls ≠ "java/lang/invoke/MethodHandle" ∧ yX3_thrown.cls ≠ "java/lang/invoke/VarHandle" ∧ (parseMethodDescriptor yX3_thrown.desc).map (fun d => d.parameters.length) = some 0 := by decide +kernel
set_option maxHeartbeats 4000000 in
set_option maxRecDepth 100000 in
theorem xcase_lay {p : Program} {e : Env} {s : State} {m : MethodId} {below : List Frame} {meth : Method} {c : Code} (l : Launch) (hlt : l.stackTraces = false) {b L : Nat} {xs : Nat → Int32} (hL : L ≤ 1536) (C0 : lw_At p s m meth c b L xs) {γ : xG} (hK : xK γ s) (sa : Nat → Nat) (hEv : xEv s) (hEs : xEs sa s) (hEn : xEn s) {A : Nat → Prop} (hA : ∀ q : Nat, s.heap.size ≤ q → A q) (hbA : ¬ A b) (hEh : xEh A s s.heap) (q0 q1 a1 q2 a2 q3 a3 q4 o m0 m1 m2 m3 m4 : Nat) (kq ka : Nat → Nat) (j i : Nat) (hj : j < 512) (hi : i + 2 < L) (K : xK9 p l e s m below meth c b γ A q0 q1 a1 q2 a2 q3 a3 q4 o m0 m1 m2 m3 m4 kq ka (j + 1) i) (n kc : Nat) (td th tn wn : Int32) (f tf wf mt tg tp : xRow) (h : Nat → Int64) (kn : Nat → Int32) (H : Heap) (locs : List Loc) (d0 : Drawn) (cells slots : Nat) (ls : Array Slot) (hd0 : s.drawn.sameBut d0 lw_cs) (hI : xInv j n kc f tg) (hkn : ∀ t, t < kc → kn t = nI n) (hP : xP γ (LW γ q0 q1 a1 q2 a2 q3 a3 q4 o m0 m1 m2 m3 m4 kq ka n kc td th tn wn f tf wf mt tg tp h kn) H) (hD : va_D A (LW γ q0 q1 a1 q2 a2 q3 a3 q4 o m0 m1 m2 m3 m4 kq ka n kc td th tn wn f tf wf mt tg tp h kn)) (hS : va_S A s.heap H locs) (hc : cells ≤ 26 + j) (hs : slots ≤ 257 + 17 * j) (hl : lv_has ls 9 [(0, .ref b), (1, .ref q0), (2, .ref m0), (3, .ref o), (4, .int (nI i))]) : W p l e room_1 (s.setDrawn d0) m #[Value.ref b] below meth c H locs cells slots (lw_Z below #[Value.ref b] s) (F0 m 192 ls []) := by
  obtain ⟨hx, hb, hr, hml, hown, hts0, hX, hbl, hlocks, hgv⟩ := id C0
  have hts : ∀ w ∈ wsL_law, w.before #[Value.ref b] (s.setDrawn d0) = true := fun w h => dr_words hts0 d0 w (wsL_law_in w h)
  have hown : s.vm.findClass RL = some m.cls := hown
  have hX : va_X b L xs (s.setDrawn d0) s.heap := va_X.moved (u := s) (U := s.setDrawn d0) (Vm.Alike.refl s.vm) hX
  have hK : xK γ (s.setDrawn d0) := va_K.moved (u := s) (U := s.setDrawn d0) (Vm.Alike.refl s.vm) hK
  have hn0 := hI.1
  have hn1 := hI.2.1
  have hkc := hI.2.2.1
  have hP : xP γ ([xO q0 2 [.ref q1, .ref q4, .int (nI kc), .int td, .ref q2, .ref q3], xO q1 0 [.ref a1, .int (nI n)], xA γ a1 12 f, xO q2 0 [.ref a2, .int tn], xA γ a2 12 tf, xO q3 1 [.ref a3, .int wn], xA γ a3 12 wf, xQ γ q4 6 (fun t9 => some (kq t9)), xL γ o 1 h, xO m0 3 [.int th, .int (nI n), .int (nI kc), .int td, .ref m1, .ref m2, .ref m3, .ref m4], xA γ m1 12 f, xA γ m2 12 mt, xA γ m3 72 tg, xA γ m4 14 tp] ++ xKp γ kq ka kn (xGt tg)) H := hP
  have hD : va_D A ([xO q0 2 [.ref q1, .ref q4, .int (nI kc), .int td, .ref q2, .ref q3], xO q1 0 [.ref a1, .int (nI n)], xA γ a1 12 f, xO q2 0 [.ref a2, .int tn], xA γ a2 12 tf, xO q3 1 [.ref a3, .int wn], xA γ a3 12 wf, xQ γ q4 6 (fun t9 => some (kq t9)), xL γ o 1 h, xO m0 3 [.int th, .int (nI n), .int (nI kc), .int td, .ref m1, .ref m2, .ref m3, .ref m4], xA γ m1 12 f, xA γ m2 12 mt, xA γ m3 72 tg, xA γ m4 14 tp] ++ xKp γ kq ka kn (xGt tg)) := hD
  by_cases hp : xInB (xs (i + 1)) 3 12 = true
  · obtain ⟨k, h1, h2, e1⟩ := xInB_n (a := 3) (b := 12) (by decide) (by decide) hp
    refine lv_aload_n hx hb dL_law_192 rfl (lv_at hl 1 rfl) ?_
    refine lv_aload_n hx hb dL_law_193 rfl (lv_at hl 0 rfl) ?_
    refine lv_iload hx hb dL_law_194 (lv_at hl 4 rfl) ?_
    refine lv_iconst (v := 1) hx hb dL_law_196 (by decide) ?_
    refine lv_iadd hx hb dL_law_197 ?_
    refine x_top (y := nI (i + 1)) (nI_add i 1) ?_
    refine x_sld hx hb hX hbl hbA hS (i + 1) rfl (by omega) (by omega) dL_law_198 ?_
    refine x_top (y := nI k) (e1) ?_
    refine lv_aload_n hx hb dL_law_199 rfl (lv_at hl 3 rfl) ?_
    refine xSME (Ex := fun _ => True) (As := [.ref q0, .int (nI k), .ref o]) (rest := []) ⟨hx, hb, hml, hown, hts⟩ (c_L_lay γ l q0 q1 q2 q3 q4 kc td a1 n f k hn0 hn1 h1 h2 o h) (vx_cwSW 3 hts gL_law_L_lay rfl rfl rfl hds_L_lay ⟨(Nat.le_of_ble_eq_true rfl), (Nat.le_of_ble_eq_true rfl)⟩) (fun _ _ _ _ h => h) (fun _ _ _ => trivial) hK hP hD hS hA [0, 1, 2, 8] rfl rfl rfl hl.1 rfl (Nat.le_of_ble_eq_true rfl) dL_law_200 ⟨(by omega : _ ≤ 601024), (by omega : _ ≤ 7293034)⟩ (fun r9 w9 H locs hw hP hD hS => ?_)
    obtain ⟨rfl, rfl⟩ := hw
    have hP : xP γ ([xO q0 2 [.ref q1, .ref q4, .int (nI 0), .int td, .ref q2, .ref q3], xO q1 0 [.ref a1, .int (nI k)], xA γ a1 12 (fun _ => 0), xO q2 0 [.ref a2, .int tn], xA γ a2 12 tf, xO q3 1 [.ref a3, .int wn], xA γ a3 12 wf, xQ γ q4 6 (fun t9 => some (kq t9)), xL γ o 1 (vp_updL h 0 (Int32.toInt64 (nI n))), xO m0 3 [.int th, .int (nI n), .int (nI kc), .int td, .ref m1, .ref m2, .ref m3, .ref m4], xA γ m1 12 f, xA γ m2 12 mt, xA γ m3 72 tg, xA γ m4 14 tp] ++ xKp γ kq ka kn (xGt tg)) H := hP
    have hD : va_D A ([xO q0 2 [.ref q1, .ref q4, .int (nI 0), .int td, .ref q2, .ref q3], xO q1 0 [.ref a1, .int (nI k)], xA γ a1 12 (fun _ => 0), xO q2 0 [.ref a2, .int tn], xA γ a2 12 tf, xO q3 1 [.ref a3, .int wn], xA γ a3 12 wf, xQ γ q4 6 (fun t9 => some (kq t9)), xL γ o 1 (vp_updL h 0 (Int32.toInt64 (nI n))), xO m0 3 [.int th, .int (nI n), .int (nI kc), .int td, .ref m1, .ref m2, .ref m3, .ref m4], xA γ m1 12 f, xA γ m2 12 mt, xA γ m3 72 tg, xA γ m4 14 tp] ++ xKp γ kq ka kn (xGt tg)) := hD
    refine W.eq (g2 := F0 m 203 ls [.int 0]) rfl ?_
    refine lv_istore (lv' := [(5, .int 0), (0, .ref b), (1, .ref q0), (2, .ref m0), (3, .ref o), (4, .int (nI i))]) hx hb dL_law_203 hl (by decide) rfl (fun ls hl => ?_)
    refine lv_aload_n hx hb dL_law_205 rfl (lv_at hl 3 rfl) ?_
    refine lv_aload_n hx hb dL_law_206 rfl (lv_at hl 1 rfl) ?_
    refine lv_iload hx hb dL_law_207 (lv_at hl 5 rfl) ?_
    refine lv_iconst (v := 1) hx hb dL_law_209 (by decide) ?_
    refine lv_iadd hx hb dL_law_210 ?_
    refine x_top (y := nI (i + 1)) (nI_add i 1) ?_
    refine x_sld hx hb hX hbl hbA hS (i + 1) rfl (by omega) (by omega) dL_law_211 ?_
    refine x_top (y := nI k) (e1) ?_
    refine xVM (q0 := 9) (ci := 3) (As := [.int (nI k)]) (rest := []) ⟨hx, hb, hml, hown, hts⟩ (c_X3_lay γ l m0 m1 m2 m3 m4 n kc th td f k h1 h2) (cwV 1 hts gL_law_X3_lay rfl rfl rfl hdv_X3_lay ⟨(Nat.le_of_ble_eq_true rfl), (Nat.le_of_ble_eq_true rfl)⟩) hK hP hD hS hA [9, 10] rfl rfl rfl rfl rfl hl.1 rfl (Nat.le_of_ble_eq_true rfl) dL_law_212 ⟨(by omega : _ ≤ 601024), (by omega : _ ≤ 7293034)⟩ (fun r9 w9 H locs hw hP hD hS => ?_)
    obtain ⟨rfl, rfl⟩ := hw
    have hP : xP γ ([xO q0 2 [.ref q1, .ref q4, .int (nI 0), .int td, .ref q2, .ref q3], xO q1 0 [.ref a1, .int (nI k)], xA γ a1 12 (fun _ => 0), xO q2 0 [.ref a2, .int tn], xA γ a2 12 tf, xO q3 1 [.ref a3, .int wn], xA γ a3 12 wf, xQ γ q4 6 (fun t9 => some (kq t9)), xL γ o 1 (vp_updL h 0 (Int32.toInt64 (nI n))), xO m0 3 [.int 0, .int (nI k), .int (nI 0), .int td, .ref m1, .ref m2, .ref m3, .ref m4], xA γ m1 12 (fun _ => 0), xA γ m2 12 mt, xA γ m3 72 tg, xA γ m4 14 tp] ++ xKp γ kq ka kn (xGt tg)) H := hP
    have hD : va_D A ([xO q0 2 [.ref q1, .ref q4, .int (nI 0), .int td, .ref q2, .ref q3], xO q1 0 [.ref a1, .int (nI k)], xA γ a1 12 (fun _ => 0), xO q2 0 [.ref a2, .int tn], xA γ a2 12 tf, xO q3 1 [.ref a3, .int wn], xA γ a3 12 wf, xQ γ q4 6 (fun t9 => some (kq t9)), xL γ o 1 (vp_updL h 0 (Int32.toInt64 (nI n))), xO m0 3 [.int 0, .int (nI k), .int (nI 0), .int td, .ref m1, .ref m2, .ref m3, .ref m4], xA γ m1 12 (fun _ => 0), xA γ m2 12 mt, xA γ m3 72 tg, xA γ m4 14 tp] ++ xKp γ kq ka kn (xGt tg)) := hD
    refine W.eq (g2 := F0 m 215 ls [.int (nI n)]) rfl ?_
    refine lv_istore (lv' := [(6, .int (nI n)), (5, .int 0), (0, .ref b), (1, .ref q0), (2, .ref m0), (3, .ref o), (4, .int (nI i))]) hx hb dL_law_215 hl (by decide) rfl (fun ls hl => ?_)
    refine lv_aload_n hx hb dL_law_217 rfl (lv_at hl 4 rfl) ?_
    refine xVR (q0 := 9) (ci := 3) (As := []) (rest := []) (stk := [.int 0]) ⟨hx, hb, hml, hown, hts⟩ (c_X3_thrown γ l m0 m1 m2 m3 m4 k 0 0 td) (cwV 0 hts gL_law_X3_thrown rfl rfl rfl hdv_X3_thrown ⟨(Nat.le_of_ble_eq_true rfl), (Nat.le_of_ble_eq_true rfl)⟩) hK hP [9] rfl rfl rfl rfl hl.1 rfl (Nat.le_of_ble_eq_true rfl) dL_law_218 ⟨(by omega : _ ≤ 601024), (by omega : _ ≤ 7293034)⟩ rfl ?_
    refine lv_iload hx hb dL_law_221 (lv_at hl 1 rfl) ?_
    refine lv_icmp_eq (tgt := 228) hx hb dL_law_223 (by decide) (fun _ => ?_) (fun c => absurd (rfl) c)
    refine lv_iload hx hb dL_law_228 (lv_at hl 1 rfl) ?_
    refine lv_if_ne (tgt := 245) hx hb dL_law_230 (by decide) (fun c => absurd rfl c) (fun _ => ?_)
    refine lv_aload_n hx hb dL_law_233 rfl (lv_at hl 5 rfl) ?_
    refine lv_iconst (v := 0) hx hb dL_law_234 (by decide) ?_
    refine x_lald (f := vp_updL h 0 (Int32.toInt64 (nI n))) hx hb hK hP 8 rfl 0 rfl (by decide) (by decide) dL_law_235 ?_
    refine x_topl (y := Int32.toInt64 (nI n)) rfl ?_
    refine lv_iload hx hb dL_law_236 (lv_at hl 0 rfl) ?_
    refine lv_i2l (v := Int32.toInt64 (nI n)) hx hb dL_law_238 rfl ?_
    refine x_lcmp (rfl) hx hb dL_law_239 ?_
    refine lv_if_eq (tgt := 245) hx hb dL_law_240 (by decide) (fun _ => ?_) (fun c => absurd rfl c)
    refine lv_goto (tgt := 1426) hx hb dL_law_245 (by decide) ?_
    exact K k 0 td 0 tn wn (fun _ => 0) tf wf mt tg tp (vp_updL h 0 (Int32.toInt64 (nI n))) kn _ _ d0 _ _ ls hd0 (hI.lay hj h1 h2) (fun t h => absurd h (Nat.not_lt_zero t)) hP hD hS (by omega) (by omega) (lv_sub hl [2, 3, 4, 5, 6] rfl)
  · have hxb : xInB (xs (i + 1)) 3 12 = false := by simpa using hp
    refine lv_aload_n hx hb dL_law_192 rfl (lv_at hl 1 rfl) ?_
    refine lv_aload_n hx hb dL_law_193 rfl (lv_at hl 0 rfl) ?_
    refine lv_iload hx hb dL_law_194 (lv_at hl 4 rfl) ?_
    refine lv_iconst (v := 1) hx hb dL_law_196 (by decide) ?_
    refine lv_iadd hx hb dL_law_197 ?_
    refine x_top (y := nI (i + 1)) (nI_add i 1) ?_
    refine x_sld hx hb hX hbl hbA hS (i + 1) rfl (by omega) (by omega) dL_law_198 ?_
    refine lv_aload_n hx hb dL_law_199 rfl (lv_at hl 3 rfl) ?_
    refine xSME (Ex := xW1 sa) (As := [.ref q0, .int (xs (i + 1)), .ref o]) (rest := []) ⟨hx, hb, hml, hown, hts⟩ (c_L_lay_x γ l hlt sa q0 q1 q2 q3 q4 kc td (xs (i + 1)) hxb o h) (vx_cwSW 3 hts gL_law_L_lay rfl rfl rfl hds_L_lay ⟨(Nat.le_of_ble_eq_true rfl), (Nat.le_of_ble_eq_true rfl)⟩) xW1_blind (fun U hU hW => ⟨xE.at hW hU hEv hEs hEh hS, va_Nc.moved hW.alike hEn.1, va_Nc.moved hW.alike hEn.2⟩) hK hP hD hS hA [0, 8] rfl rfl rfl hl.1 rfl (Nat.le_of_ble_eq_true rfl) dL_law_200 ⟨(by omega : _ ≤ 601024), (by omega : _ ≤ 7293034)⟩ (fun r9 w9 H locs hw hP hD hS => ?_)
    obtain ⟨rfl, rfl⟩ := hw
    have hP : xP γ ([xO q0 2 [.ref q1, .ref q4, .int (nI kc), .int td, .ref q2, .ref q3], xO q1 0 [.ref a1, .int (nI n)], xA γ a1 12 f, xO q2 0 [.ref a2, .int tn], xA γ a2 12 tf, xO q3 1 [.ref a3, .int wn], xA γ a3 12 wf, xQ γ q4 6 (fun t9 => some (kq t9)), xL γ o 1 h, xO m0 3 [.int th, .int (nI n), .int (nI kc), .int td, .ref m1, .ref m2, .ref m3, .ref m4], xA γ m1 12 f, xA γ m2 12 mt, xA γ m3 72 tg, xA γ m4 14 tp] ++ xKp γ kq ka kn (xGt tg)) H := hP
    have hD : va_D A ([xO q0 2 [.ref q1, .ref q4, .int (nI kc), .int td, .ref q2, .ref q3], xO q1 0 [.ref a1, .int (nI n)], xA γ a1 12 f, xO q2 0 [.ref a2, .int tn], xA γ a2 12 tf, xO q3 1 [.ref a3, .int wn], xA γ a3 12 wf, xQ γ q4 6 (fun t9 => some (kq t9)), xL γ o 1 h, xO m0 3 [.int th, .int (nI n), .int (nI kc), .int td, .ref m1, .ref m2, .ref m3, .ref m4], xA γ m1 12 f, xA γ m2 12 mt, xA γ m3 72 tg, xA γ m4 14 tp] ++ xKp γ kq ka kn (xGt tg)) := hD
    refine W.eq (g2 := F0 m 203 ls [.int 1]) rfl ?_
    refine lv_istore (lv' := [(5, .int 1), (0, .ref b), (1, .ref q0), (2, .ref m0), (3, .ref o), (4, .int (nI i))]) hx hb dL_law_203 hl (by decide) rfl (fun ls hl => ?_)
    refine lv_aload_n hx hb dL_law_205 rfl (lv_at hl 3 rfl) ?_
    refine lv_aload_n hx hb dL_law_206 rfl (lv_at hl 1 rfl) ?_
    refine lv_iload hx hb dL_law_207 (lv_at hl 5 rfl) ?_
    refine lv_iconst (v := 1) hx hb dL_law_209 (by decide) ?_
    refine lv_iadd hx hb dL_law_210 ?_
    refine x_top (y := nI (i + 1)) (nI_add i 1) ?_
    refine x_sld hx hb hX hbl hbA hS (i + 1) rfl (by omega) (by omega) dL_law_211 ?_
    refine xVM (q0 := 9) (ci := 3) (As := [.int (xs (i + 1))]) (rest := []) ⟨hx, hb, hml, hown, hts⟩ (c_X3_lay_x γ l m0 m1 m2 m3 m4 n kc th td (xs (i + 1)) hxb) (cwV 1 hts gL_law_X3_lay rfl rfl rfl hdv_X3_lay ⟨(Nat.le_of_ble_eq_true rfl), (Nat.le_of_ble_eq_true rfl)⟩) hK hP hD hS hA [9] rfl rfl rfl rfl rfl hl.1 rfl (Nat.le_of_ble_eq_true rfl) dL_law_212 ⟨(by omega : _ ≤ 601024), (by omega : _ ≤ 7293034)⟩ (fun r9 w9 H locs hw hP hD hS => ?_)
    obtain ⟨rfl, rfl⟩ := hw
    have hP : xP γ ([xO q0 2 [.ref q1, .ref q4, .int (nI kc), .int td, .ref q2, .ref q3], xO q1 0 [.ref a1, .int (nI n)], xA γ a1 12 f, xO q2 0 [.ref a2, .int tn], xA γ a2 12 tf, xO q3 1 [.ref a3, .int wn], xA γ a3 12 wf, xQ γ q4 6 (fun t9 => some (kq t9)), xL γ o 1 h, xO m0 3 [.int 1, .int (nI n), .int (nI kc), .int td, .ref m1, .ref m2, .ref m3, .ref m4], xA γ m1 12 f, xA γ m2 12 mt, xA γ m3 72 tg, xA γ m4 14 tp] ++ xKp γ kq ka kn (xGt tg)) H := hP
    have hD : va_D A ([xO q0 2 [.ref q1, .ref q4, .int (nI kc), .int td, .ref q2, .ref q3], xO q1 0 [.ref a1, .int (nI n)], xA γ a1 12 f, xO q2 0 [.ref a2, .int tn], xA γ a2 12 tf, xO q3 1 [.ref a3, .int wn], xA γ a3 12 wf, xQ γ q4 6 (fun t9 => some (kq t9)), xL γ o 1 h, xO m0 3 [.int 1, .int (nI n), .int (nI kc), .int td, .ref m1, .ref m2, .ref m3, .ref m4], xA γ m1 12 f, xA γ m2 12 mt, xA γ m3 72 tg, xA γ m4 14 tp] ++ xKp γ kq ka kn (xGt tg)) := hD
    refine W.eq (g2 := F0 m 215 ls [.int 0]) rfl ?_
    refine lv_istore (lv' := [(6, .int 0), (5, .int 1), (0, .ref b), (1, .ref q0), (2, .ref m0), (3, .ref o), (4, .int (nI i))]) hx hb dL_law_215 hl (by decide) rfl (fun ls hl => ?_)
    refine lv_aload_n hx hb dL_law_217 rfl (lv_at hl 4 rfl) ?_
    refine xVR (q0 := 9) (ci := 3) (As := []) (rest := []) (stk := [.int 1]) ⟨hx, hb, hml, hown, hts⟩ (c_X3_thrown γ l m0 m1 m2 m3 m4 n kc 1 td) (cwV 0 hts gL_law_X3_thrown rfl rfl rfl hdv_X3_thrown ⟨(Nat.le_of_ble_eq_true rfl), (Nat.le_of_ble_eq_true rfl)⟩) hK hP [9] rfl rfl rfl rfl hl.1 rfl (Nat.le_of_ble_eq_true rfl) dL_law_218 ⟨(by omega : _ ≤ 601024), (by omega : _ ≤ 7293034)⟩ rfl ?_
    refine lv_iload hx hb dL_law_221 (lv_at hl 1 rfl) ?_
    refine lv_icmp_eq (tgt := 228) hx hb dL_law_223 (by decide) (fun _ => ?_) (fun c => absurd (rfl) c)
    refine lv_iload hx hb dL_law_228 (lv_at hl 1 rfl) ?_
    refine lv_if_ne (tgt := 245) hx hb dL_law_230 (by decide) (fun _ => ?_) (fun c => absurd c (by decide))
    refine lv_goto (tgt := 1426) hx hb dL_law_245 (by decide) ?_
    exact K n kc td 1 tn wn f tf wf mt tg tp h kn _ _ d0 _ _ ls hd0 (hI.same hj) (hkn) hP hD hS (by omega) (by omega) (lv_sub hl [2, 3, 4, 5, 6] rfl)

theorem hds_L_put : yL_put.cls ≠ "java/lang/invoke/MethodHandle" ∧ yL_put.cls ≠ "java/lang/invoke/VarHandle" ∧ (parseMethodDescriptor yL_put.desc).map (fun d => d.parameters.length) = some 4 := by decide +kernel
theorem hdv_X3_put : yX3_put.cls = RX3 ∧ yX3_put.cls ≠ "java/lang/invoke/MethodHandle" ∧ yX3_put.cls ≠ "java/lang/invoke/VarHandle" ∧ (parseMethodDescriptor yX3_put.desc).map (fun d => d.parameters.length) = some 2 := by decide +kernel
set_option maxHeartbeats 4000000 in
set_option maxRecDepth 100000 in
theorem xcase_put {p : Program} {e : Env} {s : State} {m : MethodId} {below : List Frame} {meth : Method} {c : Code} (l : Launch) (hlt : l.stackTraces = false) {b L : Nat} {xs : Nat → Int32} (hL : L ≤ 1536) (C0 : lw_At p s m meth c b L xs) {γ : xG} (hK : xK γ s) (sa : Nat → Nat) (hEv : xEv s) (hEs : xEs sa s) (hEn : xEn s) {A : Nat → Prop} (hA : ∀ q : Nat, s.heap.size ≤ q → A q) (hbA : ¬ A b) (hEh : xEh A s s.heap) (q0 q1 a1 q2 a2 q3 a3 q4 o m0 m1 m2 m3 m4 : Nat) (kq ka : Nat → Nat) (j i : Nat) (hj : j < 512) (hi : i + 2 < L) (K : xK9 p l e s m below meth c b γ A q0 q1 a1 q2 a2 q3 a3 q4 o m0 m1 m2 m3 m4 kq ka (j + 1) i) (n kc : Nat) (td th tn wn : Int32) (f tf wf mt tg tp : xRow) (h : Nat → Int64) (kn : Nat → Int32) (H : Heap) (locs : List Loc) (d0 : Drawn) (cells slots : Nat) (ls : Array Slot) (hd0 : s.drawn.sameBut d0 lw_cs) (hI : xInv j n kc f tg) (hkn : ∀ t, t < kc → kn t = nI n) (hP : xP γ (LW γ q0 q1 a1 q2 a2 q3 a3 q4 o m0 m1 m2 m3 m4 kq ka n kc td th tn wn f tf wf mt tg tp h kn) H) (hD : va_D A (LW γ q0 q1 a1 q2 a2 q3 a3 q4 o m0 m1 m2 m3 m4 kq ka n kc td th tn wn f tf wf mt tg tp h kn)) (hS : va_S A s.heap H locs) (hc : cells ≤ 26 + j) (hs : slots ≤ 257 + 17 * j) (hl : lv_has ls 9 [(0, .ref b), (1, .ref q0), (2, .ref m0), (3, .ref o), (4, .int (nI i))]) : W p l e room_1 (s.setDrawn d0) m #[Value.ref b] below meth c H locs cells slots (lw_Z below #[Value.ref b] s) (F0 m 248 ls []) := by
  obtain ⟨hx, hb, hr, hml, hown, hts0, hX, hbl, hlocks, hgv⟩ := id C0
  have hts : ∀ w ∈ wsL_law, w.before #[Value.ref b] (s.setDrawn d0) = true := fun w h => dr_words hts0 d0 w (wsL_law_in w h)
  have hown : s.vm.findClass RL = some m.cls := hown
  have hX : va_X b L xs (s.setDrawn d0) s.heap := va_X.moved (u := s) (U := s.setDrawn d0) (Vm.Alike.refl s.vm) hX
  have hK : xK γ (s.setDrawn d0) := va_K.moved (u := s) (U := s.setDrawn d0) (Vm.Alike.refl s.vm) hK
  have hn0 := hI.1
  have hn1 := hI.2.1
  have hkc := hI.2.2.1
  have hP : xP γ ([xO q0 2 [.ref q1, .ref q4, .int (nI kc), .int td, .ref q2, .ref q3], xO q1 0 [.ref a1, .int (nI n)], xA γ a1 12 f, xO q2 0 [.ref a2, .int tn], xA γ a2 12 tf, xO q3 1 [.ref a3, .int wn], xA γ a3 12 wf, xQ γ q4 6 (fun t9 => some (kq t9)), xL γ o 1 h, xO m0 3 [.int th, .int (nI n), .int (nI kc), .int td, .ref m1, .ref m2, .ref m3, .ref m4], xA γ m1 12 f, xA γ m2 12 mt, xA γ m3 72 tg, xA γ m4 14 tp] ++ xKp γ kq ka kn (xGt tg)) H := hP
  have hD : va_D A ([xO q0 2 [.ref q1, .ref q4, .int (nI kc), .int td, .ref q2, .ref q3], xO q1 0 [.ref a1, .int (nI n)], xA γ a1 12 f, xO q2 0 [.ref a2, .int tn], xA γ a2 12 tf, xO q3 1 [.ref a3, .int wn], xA γ a3 12 wf, xQ γ q4 6 (fun t9 => some (kq t9)), xL γ o 1 h, xO m0 3 [.int th, .int (nI n), .int (nI kc), .int td, .ref m1, .ref m2, .ref m3, .ref m4], xA γ m1 12 f, xA γ m2 12 mt, xA γ m3 72 tg, xA γ m4 14 tp] ++ xKp γ kq ka kn (xGt tg)) := hD
  by_cases hp : xInB (xs (i + 1)) 0 (nI n - 1) = true
  · obtain ⟨k, hk, e1⟩ := xInB_pl hn1 hp
    by_cases hq : xInB (xs (i + 2)) (-999) 999 = true
    · obtain ⟨h1, h2⟩ := xInB_t hq
      refine lv_aload_n hx hb dL_law_248 rfl (lv_at hl 1 rfl) ?_
      refine lv_aload_n hx hb dL_law_249 rfl (lv_at hl 0 rfl) ?_
      refine lv_iload hx hb dL_law_250 (lv_at hl 4 rfl) ?_
      refine lv_iconst (v := 1) hx hb dL_law_252 (by decide) ?_
      refine lv_iadd hx hb dL_law_253 ?_
      refine x_top (y := nI (i + 1)) (nI_add i 1) ?_
      refine x_sld hx hb hX hbl hbA hS (i + 1) rfl (by omega) (by omega) dL_law_254 ?_
      refine x_top (y := nI k) (e1) ?_
      refine lv_aload_n hx hb dL_law_255 rfl (lv_at hl 0 rfl) ?_
      refine lv_iload hx hb dL_law_256 (lv_at hl 4 rfl) ?_
      refine lv_iconst (v := 2) hx hb dL_law_258 (by decide) ?_
      refine lv_iadd hx hb dL_law_259 ?_
      refine x_top (y := nI (i + 2)) (nI_add i 2) ?_
      refine x_sld hx hb hX hbl hbA hS (i + 2) rfl (by omega) (by omega) dL_law_260 ?_
      refine lv_aload_n hx hb dL_law_261 rfl (lv_at hl 3 rfl) ?_
      refine xSME (Ex := fun _ => True) (As := [.ref q0, .int (nI k), .int (xs (i + 2)), .ref o]) (rest := []) ⟨hx, hb, hml, hown, hts⟩ (c_L_put γ l q0 q1 q2 q3 q4 kc td a1 n f k (xs (i + 2)) hn0 hn1 hk h1 h2 o h) (vx_cwSW 4 hts gL_law_L_put rfl rfl rfl hds_L_put ⟨(Nat.le_of_ble_eq_true rfl), (Nat.le_of_ble_eq_true rfl)⟩) (fun _ _ _ _ h => h) (fun _ _ _ => trivial) hK hP hD hS hA [0, 1, 2, 8] rfl rfl rfl hl.1 rfl (Nat.le_of_ble_eq_true rfl) dL_law_262 ⟨(by omega : _ ≤ 601024), (by omega : _ ≤ 7293034)⟩ (fun r9 w9 H locs hw hP hD hS => ?_)
      obtain ⟨rfl, rfl⟩ := hw
      have hP : xP γ ([xO q0 2 [.ref q1, .ref q4, .int (nI kc), .int td, .ref q2, .ref q3], xO q1 0 [.ref a1, .int (nI n)], xA γ a1 12 (upd f k (xs (i + 2))), xO q2 0 [.ref a2, .int tn], xA γ a2 12 tf, xO q3 1 [.ref a3, .int wn], xA γ a3 12 wf, xQ γ q4 6 (fun t9 => some (kq t9)), xL γ o 1 (vp_updL h 0 (Int32.toInt64 (f k))), xO m0 3 [.int th, .int (nI n), .int (nI kc), .int td, .ref m1, .ref m2, .ref m3, .ref m4], xA γ m1 12 f, xA γ m2 12 mt, xA γ m3 72 tg, xA γ m4 14 tp] ++ xKp γ kq ka kn (xGt tg)) H := hP
      have hD : va_D A ([xO q0 2 [.ref q1, .ref q4, .int (nI kc), .int td, .ref q2, .ref q3], xO q1 0 [.ref a1, .int (nI n)], xA γ a1 12 (upd f k (xs (i + 2))), xO q2 0 [.ref a2, .int tn], xA γ a2 12 tf, xO q3 1 [.ref a3, .int wn], xA γ a3 12 wf, xQ γ q4 6 (fun t9 => some (kq t9)), xL γ o 1 (vp_updL h 0 (Int32.toInt64 (f k))), xO m0 3 [.int th, .int (nI n), .int (nI kc), .int td, .ref m1, .ref m2, .ref m3, .ref m4], xA γ m1 12 f, xA γ m2 12 mt, xA γ m3 72 tg, xA γ m4 14 tp] ++ xKp γ kq ka kn (xGt tg)) := hD
      refine W.eq (g2 := F0 m 265 ls [.int 0]) rfl ?_
      refine lv_istore (lv' := [(5, .int 0), (0, .ref b), (1, .ref q0), (2, .ref m0), (3, .ref o), (4, .int (nI i))]) hx hb dL_law_265 hl (by decide) rfl (fun ls hl => ?_)
      refine lv_aload_n hx hb dL_law_267 rfl (lv_at hl 3 rfl) ?_
      refine lv_aload_n hx hb dL_law_268 rfl (lv_at hl 1 rfl) ?_
      refine lv_iload hx hb dL_law_269 (lv_at hl 5 rfl) ?_
      refine lv_iconst (v := 1) hx hb dL_law_271 (by decide) ?_
      refine lv_iadd hx hb dL_law_272 ?_
      refine x_top (y := nI (i + 1)) (nI_add i 1) ?_
      refine x_sld hx hb hX hbl hbA hS (i + 1) rfl (by omega) (by omega) dL_law_273 ?_
      refine x_top (y := nI k) (e1) ?_
      refine lv_aload_n hx hb dL_law_274 rfl (lv_at hl 1 rfl) ?_
      refine lv_iload hx hb dL_law_275 (lv_at hl 5 rfl) ?_
      refine lv_iconst (v := 2) hx hb dL_law_277 (by decide) ?_
      refine lv_iadd hx hb dL_law_278 ?_
      refine x_top (y := nI (i + 2)) (nI_add i 2) ?_
      refine x_sld hx hb hX hbl hbA hS (i + 2) rfl (by omega) (by omega) dL_law_279 ?_
      refine xVM (q0 := 9) (ci := 3) (As := [.int (nI k), .int (xs (i + 2))]) (rest := []) ⟨hx, hb, hml, hown, hts⟩ (c_X3_put γ l m0 m1 m2 m3 m4 n kc th td f k (xs (i + 2)) hn0 hn1 hk h1 h2) (cwV 2 hts gL_law_X3_put rfl rfl rfl hdv_X3_put ⟨(Nat.le_of_ble_eq_true rfl), (Nat.le_of_ble_eq_true rfl)⟩) hK hP hD hS hA [9, 10] rfl rfl rfl rfl rfl hl.1 rfl (Nat.le_of_ble_eq_true rfl) dL_law_280 ⟨(by omega : _ ≤ 601024), (by omega : _ ≤ 7293034)⟩ (fun r9 w9 H locs hw hP hD hS => ?_)
      obtain ⟨rfl, rfl⟩ := hw
      have hP : xP γ ([xO q0 2 [.ref q1, .ref q4, .int (nI kc), .int td, .ref q2, .ref q3], xO q1 0 [.ref a1, .int (nI n)], xA γ a1 12 (upd f k (xs (i + 2))), xO q2 0 [.ref a2, .int tn], xA γ a2 12 tf, xO q3 1 [.ref a3, .int wn], xA γ a3 12 wf, xQ γ q4 6 (fun t9 => some (kq t9)), xL γ o 1 (vp_updL h 0 (Int32.toInt64 (f k))), xO m0 3 [.int 0, .int (nI n), .int (nI kc), .int td, .ref m1, .ref m2, .ref m3, .ref m4], xA γ m1 12 (upd f k (xs (i + 2))), xA γ m2 12 mt, xA γ m3 72 tg, xA γ m4 14 tp] ++ xKp γ kq ka kn (xGt tg)) H := hP
      have hD : va_D A ([xO q0 2 [.ref q1, .ref q4, .int (nI kc), .int td, .ref q2, .ref q3], xO q1 0 [.ref a1, .int (nI n)], xA γ a1 12 (upd f k (xs (i + 2))), xO q2 0 [.ref a2, .int tn], xA γ a2 12 tf, xO q3 1 [.ref a3, .int wn], xA γ a3 12 wf, xQ γ q4 6 (fun t9 => some (kq t9)), xL γ o 1 (vp_updL h 0 (Int32.toInt64 (f k))), xO m0 3 [.int 0, .int (nI n), .int (nI kc), .int td, .ref m1, .ref m2, .ref m3, .ref m4], xA γ m1 12 (upd f k (xs (i + 2))), xA γ m2 12 mt, xA γ m3 72 tg, xA γ m4 14 tp] ++ xKp γ kq ka kn (xGt tg)) := hD
      refine W.eq (g2 := F0 m 283 ls [.int (f k)]) rfl ?_
      refine lv_istore (lv' := [(6, .int (f k)), (5, .int 0), (0, .ref b), (1, .ref q0), (2, .ref m0), (3, .ref o), (4, .int (nI i))]) hx hb dL_law_283 hl (by decide) rfl (fun ls hl => ?_)
      refine lv_aload_n hx hb dL_law_285 rfl (lv_at hl 4 rfl) ?_
      refine xVR (q0 := 9) (ci := 3) (As := []) (rest := []) (stk := [.int 0]) ⟨hx, hb, hml, hown, hts⟩ (c_X3_thrown γ l m0 m1 m2 m3 m4 n kc 0 td) (cwV 0 hts gL_law_X3_thrown rfl rfl rfl hdv_X3_thrown ⟨(Nat.le_of_ble_eq_true rfl), (Nat.le_of_ble_eq_true rfl)⟩) hK hP [9] rfl rfl rfl rfl hl.1 rfl (Nat.le_of_ble_eq_true rfl) dL_law_286 ⟨(by omega : _ ≤ 601024), (by omega : _ ≤ 7293034)⟩ rfl ?_
      refine lv_iload hx hb dL_law_289 (lv_at hl 1 rfl) ?_
      refine lv_icmp_eq (tgt := 296) hx hb dL_law_291 (by decide) (fun _ => ?_) (fun c => absurd (rfl) c)
      refine lv_iload hx hb dL_law_296 (lv_at hl 1 rfl) ?_
      refine lv_if_ne (tgt := 313) hx hb dL_law_298 (by decide) (fun c => absurd rfl c) (fun _ => ?_)
      refine lv_aload_n hx hb dL_law_301 rfl (lv_at hl 5 rfl) ?_
      refine lv_iconst (v := 0) hx hb dL_law_302 (by decide) ?_
      refine x_lald (f := vp_updL h 0 (Int32.toInt64 (f k))) hx hb hK hP 8 rfl 0 rfl (by decide) (by decide) dL_law_303 ?_
      refine x_topl (y := Int32.toInt64 (f k)) rfl ?_
      refine lv_iload hx hb dL_law_304 (lv_at hl 0 rfl) ?_
      refine lv_i2l (v := Int32.toInt64 (f k)) hx hb dL_law_306 rfl ?_
      refine x_lcmp (rfl) hx hb dL_law_307 ?_
      refine lv_if_eq (tgt := 313) hx hb dL_law_308 (by decide) (fun _ => ?_) (fun c => absurd rfl c)
      refine lv_goto (tgt := 1426) hx hb dL_law_313 (by decide) ?_
      exact K n kc td 0 tn wn (upd f k (xs (i + 2))) tf wf mt tg tp (vp_updL h 0 (Int32.toInt64 (f k))) kn _ _ d0 _ _ ls hd0 (hI.put hj hk h1 h2) (hkn) hP hD hS (by omega) (by omega) (lv_sub hl [2, 3, 4, 5, 6] rfl)
    · have hxb : xInB (xs (i + 2)) (-999) 999 = false := by simpa using hq
      refine lv_aload_n hx hb dL_law_248 rfl (lv_at hl 1 rfl) ?_
      refine lv_aload_n hx hb dL_law_249 rfl (lv_at hl 0 rfl) ?_
      refine lv_iload hx hb dL_law_250 (lv_at hl 4 rfl) ?_
      refine lv_iconst (v := 1) hx hb dL_law_252 (by decide) ?_
      refine lv_iadd hx hb dL_law_253 ?_
      refine x_top (y := nI (i + 1)) (nI_add i 1) ?_
      refine x_sld hx hb hX hbl hbA hS (i + 1) rfl (by omega) (by omega) dL_law_254 ?_
      refine x_top (y := nI k) (e1) ?_
      refine lv_aload_n hx hb dL_law_255 rfl (lv_at hl 0 rfl) ?_
      refine lv_iload hx hb dL_law_256 (lv_at hl 4 rfl) ?_
      refine lv_iconst (v := 2) hx hb dL_law_258 (by decide) ?_
      refine lv_iadd hx hb dL_law_259 ?_
      refine x_top (y := nI (i + 2)) (nI_add i 2) ?_
      refine x_sld hx hb hX hbl hbA hS (i + 2) rfl (by omega) (by omega) dL_law_260 ?_
      refine lv_aload_n hx hb dL_law_261 rfl (lv_at hl 3 rfl) ?_
      refine xSME (Ex := xW1 sa) (As := [.ref q0, .int (nI k), .int (xs (i + 2)), .ref o]) (rest := []) ⟨hx, hb, hml, hown, hts⟩ (c_L_put_x2 γ l hlt sa q0 q1 q2 q3 q4 kc td a1 n f k (xs (i + 2)) hn0 hn1 hk hxb o h) (vx_cwSW 4 hts gL_law_L_put rfl rfl rfl hds_L_put ⟨(Nat.le_of_ble_eq_true rfl), (Nat.le_of_ble_eq_true rfl)⟩) xW1_blind (fun U hU hW => ⟨xE.at hW hU hEv hEs hEh hS, va_Nc.moved hW.alike hEn.1, va_Nc.moved hW.alike hEn.2⟩) hK hP hD hS hA [0, 1, 2, 8] rfl rfl rfl hl.1 rfl (Nat.le_of_ble_eq_true rfl) dL_law_262 ⟨(by omega : _ ≤ 601024), (by omega : _ ≤ 7293034)⟩ (fun r9 w9 H locs hw hP hD hS => ?_)
      obtain ⟨rfl, rfl⟩ := hw
      have hP : xP γ ([xO q0 2 [.ref q1, .ref q4, .int (nI kc), .int td, .ref q2, .ref q3], xO q1 0 [.ref a1, .int (nI n)], xA γ a1 12 f, xO q2 0 [.ref a2, .int tn], xA γ a2 12 tf, xO q3 1 [.ref a3, .int wn], xA γ a3 12 wf, xQ γ q4 6 (fun t9 => some (kq t9)), xL γ o 1 h, xO m0 3 [.int th, .int (nI n), .int (nI kc), .int td, .ref m1, .ref m2, .ref m3, .ref m4], xA γ m1 12 f, xA γ m2 12 mt, xA γ m3 72 tg, xA γ m4 14 tp] ++ xKp γ kq ka kn (xGt tg)) H := hP
      have hD : va_D A ([xO q0 2 [.ref q1, .ref q4, .int (nI kc), .int td, .ref q2, .ref q3], xO q1 0 [.ref a1, .int (nI n)], xA γ a1 12 f, xO q2 0 [.ref a2, .int tn], xA γ a2 12 tf, xO q3 1 [.ref a3, .int wn], xA γ a3 12 wf, xQ γ q4 6 (fun t9 => some (kq t9)), xL γ o 1 h, xO m0 3 [.int th, .int (nI n), .int (nI kc), .int td, .ref m1, .ref m2, .ref m3, .ref m4], xA γ m1 12 f, xA γ m2 12 mt, xA γ m3 72 tg, xA γ m4 14 tp] ++ xKp γ kq ka kn (xGt tg)) := hD
      refine W.eq (g2 := F0 m 265 ls [.int 2]) rfl ?_
      refine lv_istore (lv' := [(5, .int 2), (0, .ref b), (1, .ref q0), (2, .ref m0), (3, .ref o), (4, .int (nI i))]) hx hb dL_law_265 hl (by decide) rfl (fun ls hl => ?_)
      refine lv_aload_n hx hb dL_law_267 rfl (lv_at hl 3 rfl) ?_
      refine lv_aload_n hx hb dL_law_268 rfl (lv_at hl 1 rfl) ?_
      refine lv_iload hx hb dL_law_269 (lv_at hl 5 rfl) ?_
      refine lv_iconst (v := 1) hx hb dL_law_271 (by decide) ?_
      refine lv_iadd hx hb dL_law_272 ?_
      refine x_top (y := nI (i + 1)) (nI_add i 1) ?_
      refine x_sld hx hb hX hbl hbA hS (i + 1) rfl (by omega) (by omega) dL_law_273 ?_
      refine x_top (y := nI k) (e1) ?_
      refine lv_aload_n hx hb dL_law_274 rfl (lv_at hl 1 rfl) ?_
      refine lv_iload hx hb dL_law_275 (lv_at hl 5 rfl) ?_
      refine lv_iconst (v := 2) hx hb dL_law_277 (by decide) ?_
      refine lv_iadd hx hb dL_law_278 ?_
      refine x_top (y := nI (i + 2)) (nI_add i 2) ?_
      refine x_sld hx hb hX hbl hbA hS (i + 2) rfl (by omega) (by omega) dL_law_279 ?_
      refine xVM (q0 := 9) (ci := 3) (As := [.int (nI k), .int (xs (i + 2))]) (rest := []) ⟨hx, hb, hml, hown, hts⟩ (c_X3_put_x2 γ l m0 m1 m2 m3 m4 n kc th td k (xs (i + 2)) hn0 hn1 hk hxb) (cwV 2 hts gL_law_X3_put rfl rfl rfl hdv_X3_put ⟨(Nat.le_of_ble_eq_true rfl), (Nat.le_of_ble_eq_true rfl)⟩) hK hP hD hS hA [9] rfl rfl rfl rfl rfl hl.1 rfl (Nat.le_of_ble_eq_true rfl) dL_law_280 ⟨(by omega : _ ≤ 601024), (by omega : _ ≤ 7293034)⟩ (fun r9 w9 H locs hw hP hD hS => ?_)
      obtain ⟨rfl, rfl⟩ := hw
      have hP : xP γ ([xO q0 2 [.ref q1, .ref q4, .int (nI kc), .int td, .ref q2, .ref q3], xO q1 0 [.ref a1, .int (nI n)], xA γ a1 12 f, xO q2 0 [.ref a2, .int tn], xA γ a2 12 tf, xO q3 1 [.ref a3, .int wn], xA γ a3 12 wf, xQ γ q4 6 (fun t9 => some (kq t9)), xL γ o 1 h, xO m0 3 [.int 2, .int (nI n), .int (nI kc), .int td, .ref m1, .ref m2, .ref m3, .ref m4], xA γ m1 12 f, xA γ m2 12 mt, xA γ m3 72 tg, xA γ m4 14 tp] ++ xKp γ kq ka kn (xGt tg)) H := hP
      have hD : va_D A ([xO q0 2 [.ref q1, .ref q4, .int (nI kc), .int td, .ref q2, .ref q3], xO q1 0 [.ref a1, .int (nI n)], xA γ a1 12 f, xO q2 0 [.ref a2, .int tn], xA γ a2 12 tf, xO q3 1 [.ref a3, .int wn], xA γ a3 12 wf, xQ γ q4 6 (fun t9 => some (kq t9)), xL γ o 1 h, xO m0 3 [.int 2, .int (nI n), .int (nI kc), .int td, .ref m1, .ref m2, .ref m3, .ref m4], xA γ m1 12 f, xA γ m2 12 mt, xA γ m3 72 tg, xA γ m4 14 tp] ++ xKp γ kq ka kn (xGt tg)) := hD
      refine W.eq (g2 := F0 m 283 ls [.int 0]) rfl ?_
      refine lv_istore (lv' := [(6, .int 0), (5, .int 2), (0, .ref b), (1, .ref q0), (2, .ref m0), (3, .ref o), (4, .int (nI i))]) hx hb dL_law_283 hl (by decide) rfl (fun ls hl => ?_)
      refine lv_aload_n hx hb dL_law_285 rfl (lv_at hl 4 rfl) ?_
      refine xVR (q0 := 9) (ci := 3) (As := []) (rest := []) (stk := [.int 2]) ⟨hx, hb, hml, hown, hts⟩ (c_X3_thrown γ l m0 m1 m2 m3 m4 n kc 2 td) (cwV 0 hts gL_law_X3_thrown rfl rfl rfl hdv_X3_thrown ⟨(Nat.le_of_ble_eq_true rfl), (Nat.le_of_ble_eq_true rfl)⟩) hK hP [9] rfl rfl rfl rfl hl.1 rfl (Nat.le_of_ble_eq_true rfl) dL_law_286 ⟨(by omega : _ ≤ 601024), (by omega : _ ≤ 7293034)⟩ rfl ?_
      refine lv_iload hx hb dL_law_289 (lv_at hl 1 rfl) ?_
      refine lv_icmp_eq (tgt := 296) hx hb dL_law_291 (by decide) (fun _ => ?_) (fun c => absurd (rfl) c)
      refine lv_iload hx hb dL_law_296 (lv_at hl 1 rfl) ?_
      refine lv_if_ne (tgt := 313) hx hb dL_law_298 (by decide) (fun _ => ?_) (fun c => absurd c (by decide))
      refine lv_goto (tgt := 1426) hx hb dL_law_313 (by decide) ?_
      exact K n kc td 2 tn wn f tf wf mt tg tp h kn _ _ d0 _ _ ls hd0 (hI.same hj) (hkn) hP hD hS (by omega) (by omega) (lv_sub hl [2, 3, 4, 5, 6] rfl)
  · have hxb : xInB (xs (i + 1)) 0 (nI n - 1) = false := by simpa using hp
    refine lv_aload_n hx hb dL_law_248 rfl (lv_at hl 1 rfl) ?_
    refine lv_aload_n hx hb dL_law_249 rfl (lv_at hl 0 rfl) ?_
    refine lv_iload hx hb dL_law_250 (lv_at hl 4 rfl) ?_
    refine lv_iconst (v := 1) hx hb dL_law_252 (by decide) ?_
    refine lv_iadd hx hb dL_law_253 ?_
    refine x_top (y := nI (i + 1)) (nI_add i 1) ?_
    refine x_sld hx hb hX hbl hbA hS (i + 1) rfl (by omega) (by omega) dL_law_254 ?_
    refine lv_aload_n hx hb dL_law_255 rfl (lv_at hl 0 rfl) ?_
    refine lv_iload hx hb dL_law_256 (lv_at hl 4 rfl) ?_
    refine lv_iconst (v := 2) hx hb dL_law_258 (by decide) ?_
    refine lv_iadd hx hb dL_law_259 ?_
    refine x_top (y := nI (i + 2)) (nI_add i 2) ?_
    refine x_sld hx hb hX hbl hbA hS (i + 2) rfl (by omega) (by omega) dL_law_260 ?_
    refine lv_aload_n hx hb dL_law_261 rfl (lv_at hl 3 rfl) ?_
    refine xSME (Ex := xW1 sa) (As := [.ref q0, .int (xs (i + 1)), .int (xs (i + 2)), .ref o]) (rest := []) ⟨hx, hb, hml, hown, hts⟩ (c_L_put_x1 γ l hlt sa q0 q1 q2 q3 q4 kc td a1 n f (xs (i + 1)) (xs (i + 2)) hn0 hn1 hxb o h) (vx_cwSW 4 hts gL_law_L_put rfl rfl rfl hds_L_put ⟨(Nat.le_of_ble_eq_true rfl), (Nat.le_of_ble_eq_true rfl)⟩) xW1_blind (fun U hU hW => ⟨xE.at hW hU hEv hEs hEh hS, va_Nc.moved hW.alike hEn.1, va_Nc.moved hW.alike hEn.2⟩) hK hP hD hS hA [0, 1, 2, 8] rfl rfl rfl hl.1 rfl (Nat.le_of_ble_eq_true rfl) dL_law_262 ⟨(by omega : _ ≤ 601024), (by omega : _ ≤ 7293034)⟩ (fun r9 w9 H locs hw hP hD hS => ?_)
    obtain ⟨rfl, rfl⟩ := hw
    have hP : xP γ ([xO q0 2 [.ref q1, .ref q4, .int (nI kc), .int td, .ref q2, .ref q3], xO q1 0 [.ref a1, .int (nI n)], xA γ a1 12 f, xO q2 0 [.ref a2, .int tn], xA γ a2 12 tf, xO q3 1 [.ref a3, .int wn], xA γ a3 12 wf, xQ γ q4 6 (fun t9 => some (kq t9)), xL γ o 1 h, xO m0 3 [.int th, .int (nI n), .int (nI kc), .int td, .ref m1, .ref m2, .ref m3, .ref m4], xA γ m1 12 f, xA γ m2 12 mt, xA γ m3 72 tg, xA γ m4 14 tp] ++ xKp γ kq ka kn (xGt tg)) H := hP
    have hD : va_D A ([xO q0 2 [.ref q1, .ref q4, .int (nI kc), .int td, .ref q2, .ref q3], xO q1 0 [.ref a1, .int (nI n)], xA γ a1 12 f, xO q2 0 [.ref a2, .int tn], xA γ a2 12 tf, xO q3 1 [.ref a3, .int wn], xA γ a3 12 wf, xQ γ q4 6 (fun t9 => some (kq t9)), xL γ o 1 h, xO m0 3 [.int th, .int (nI n), .int (nI kc), .int td, .ref m1, .ref m2, .ref m3, .ref m4], xA γ m1 12 f, xA γ m2 12 mt, xA γ m3 72 tg, xA γ m4 14 tp] ++ xKp γ kq ka kn (xGt tg)) := hD
    refine W.eq (g2 := F0 m 265 ls [.int 1]) rfl ?_
    refine lv_istore (lv' := [(5, .int 1), (0, .ref b), (1, .ref q0), (2, .ref m0), (3, .ref o), (4, .int (nI i))]) hx hb dL_law_265 hl (by decide) rfl (fun ls hl => ?_)
    refine lv_aload_n hx hb dL_law_267 rfl (lv_at hl 3 rfl) ?_
    refine lv_aload_n hx hb dL_law_268 rfl (lv_at hl 1 rfl) ?_
    refine lv_iload hx hb dL_law_269 (lv_at hl 5 rfl) ?_
    refine lv_iconst (v := 1) hx hb dL_law_271 (by decide) ?_
    refine lv_iadd hx hb dL_law_272 ?_
    refine x_top (y := nI (i + 1)) (nI_add i 1) ?_
    refine x_sld hx hb hX hbl hbA hS (i + 1) rfl (by omega) (by omega) dL_law_273 ?_
    refine lv_aload_n hx hb dL_law_274 rfl (lv_at hl 1 rfl) ?_
    refine lv_iload hx hb dL_law_275 (lv_at hl 5 rfl) ?_
    refine lv_iconst (v := 2) hx hb dL_law_277 (by decide) ?_
    refine lv_iadd hx hb dL_law_278 ?_
    refine x_top (y := nI (i + 2)) (nI_add i 2) ?_
    refine x_sld hx hb hX hbl hbA hS (i + 2) rfl (by omega) (by omega) dL_law_279 ?_
    refine xVM (q0 := 9) (ci := 3) (As := [.int (xs (i + 1)), .int (xs (i + 2))]) (rest := []) ⟨hx, hb, hml, hown, hts⟩ (c_X3_put_x1 γ l m0 m1 m2 m3 m4 n kc th td (xs (i + 1)) (xs (i + 2)) hxb) (cwV 2 hts gL_law_X3_put rfl rfl rfl hdv_X3_put ⟨(Nat.le_of_ble_eq_true rfl), (Nat.le_of_ble_eq_true rfl)⟩) hK hP hD hS hA [9] rfl rfl rfl rfl rfl hl.1 rfl (Nat.le_of_ble_eq_true rfl) dL_law_280 ⟨(by omega : _ ≤ 601024), (by omega : _ ≤ 7293034)⟩ (fun r9 w9 H locs hw hP hD hS => ?_)
    obtain ⟨rfl, rfl⟩ := hw
    have hP : xP γ ([xO q0 2 [.ref q1, .ref q4, .int (nI kc), .int td, .ref q2, .ref q3], xO q1 0 [.ref a1, .int (nI n)], xA γ a1 12 f, xO q2 0 [.ref a2, .int tn], xA γ a2 12 tf, xO q3 1 [.ref a3, .int wn], xA γ a3 12 wf, xQ γ q4 6 (fun t9 => some (kq t9)), xL γ o 1 h, xO m0 3 [.int 1, .int (nI n), .int (nI kc), .int td, .ref m1, .ref m2, .ref m3, .ref m4], xA γ m1 12 f, xA γ m2 12 mt, xA γ m3 72 tg, xA γ m4 14 tp] ++ xKp γ kq ka kn (xGt tg)) H := hP
    have hD : va_D A ([xO q0 2 [.ref q1, .ref q4, .int (nI kc), .int td, .ref q2, .ref q3], xO q1 0 [.ref a1, .int (nI n)], xA γ a1 12 f, xO q2 0 [.ref a2, .int tn], xA γ a2 12 tf, xO q3 1 [.ref a3, .int wn], xA γ a3 12 wf, xQ γ q4 6 (fun t9 => some (kq t9)), xL γ o 1 h, xO m0 3 [.int 1, .int (nI n), .int (nI kc), .int td, .ref m1, .ref m2, .ref m3, .ref m4], xA γ m1 12 f, xA γ m2 12 mt, xA γ m3 72 tg, xA γ m4 14 tp] ++ xKp γ kq ka kn (xGt tg)) := hD
    refine W.eq (g2 := F0 m 283 ls [.int 0]) rfl ?_
    refine lv_istore (lv' := [(6, .int 0), (5, .int 1), (0, .ref b), (1, .ref q0), (2, .ref m0), (3, .ref o), (4, .int (nI i))]) hx hb dL_law_283 hl (by decide) rfl (fun ls hl => ?_)
    refine lv_aload_n hx hb dL_law_285 rfl (lv_at hl 4 rfl) ?_
    refine xVR (q0 := 9) (ci := 3) (As := []) (rest := []) (stk := [.int 1]) ⟨hx, hb, hml, hown, hts⟩ (c_X3_thrown γ l m0 m1 m2 m3 m4 n kc 1 td) (cwV 0 hts gL_law_X3_thrown rfl rfl rfl hdv_X3_thrown ⟨(Nat.le_of_ble_eq_true rfl), (Nat.le_of_ble_eq_true rfl)⟩) hK hP [9] rfl rfl rfl rfl hl.1 rfl (Nat.le_of_ble_eq_true rfl) dL_law_286 ⟨(by omega : _ ≤ 601024), (by omega : _ ≤ 7293034)⟩ rfl ?_
    refine lv_iload hx hb dL_law_289 (lv_at hl 1 rfl) ?_
    refine lv_icmp_eq (tgt := 296) hx hb dL_law_291 (by decide) (fun _ => ?_) (fun c => absurd (rfl) c)
    refine lv_iload hx hb dL_law_296 (lv_at hl 1 rfl) ?_
    refine lv_if_ne (tgt := 313) hx hb dL_law_298 (by decide) (fun _ => ?_) (fun c => absurd c (by decide))
    refine lv_goto (tgt := 1426) hx hb dL_law_313 (by decide) ?_
    exact K n kc td 1 tn wn f tf wf mt tg tp h kn _ _ d0 _ _ ls hd0 (hI.same hj) (hkn) hP hD hS (by omega) (by omega) (lv_sub hl [2, 3, 4, 5, 6] rfl)

theorem hds_L_tip : yL_tip.cls ≠ "java/lang/invoke/MethodHandle" ∧ yL_tip.cls ≠ "java/lang/invoke/VarHandle" ∧ (parseMethodDescriptor yL_tip.desc).map (fun d => d.parameters.length) = some 4 := by decide +kernel
theorem hdv_X3_tip : yX3_tip.cls = RX3 ∧ yX3_tip.cls ≠ "java/lang/invoke/MethodHandle" ∧ yX3_tip.cls ≠ "java/lang/invoke/VarHandle" ∧ (parseMethodDescriptor yX3_tip.desc).map (fun d => d.parameters.length) = some 2 := by decide +kernel
set_option maxHeartbeats 4000000 in
set_option maxRecDepth 100000 in
theorem xcase_tip {p : Program} {e : Env} {s : State} {m : MethodId} {below : List Frame} {meth : Method} {c : Code} (l : Launch) (hlt : l.stackTraces = false) {b L : Nat} {xs : Nat → Int32} (hL : L ≤ 1536) (C0 : lw_At p s m meth c b L xs) {γ : xG} (hK : xK γ s) (sa : Nat → Nat) (hEv : xEv s) (hEs : xEs sa s) (hEn : xEn s) {A : Nat → Prop} (hA : ∀ q : Nat, s.heap.size ≤ q → A q) (hbA : ¬ A b) (hEh : xEh A s s.heap) (q0 q1 a1 q2 a2 q3 a3 q4 o m0 m1 m2 m3 m4 : Nat) (kq ka : Nat → Nat) (j i : Nat) (hj : j < 512) (hi : i + 2 < L) (K : xK9 p l e s m below meth c b γ A q0 q1 a1 q2 a2 q3 a3 q4 o m0 m1 m2 m3 m4 kq ka (j + 1) i) (n kc : Nat) (td th tn wn : Int32) (f tf wf mt tg tp : xRow) (h : Nat → Int64) (kn : Nat → Int32) (H : Heap) (locs : List Loc) (d0 : Drawn) (cells slots : Nat) (ls : Array Slot) (hd0 : s.drawn.sameBut d0 lw_cs) (hI : xInv j n kc f tg) (hkn : ∀ t, t < kc → kn t = nI n) (hP : xP γ (LW γ q0 q1 a1 q2 a2 q3 a3 q4 o m0 m1 m2 m3 m4 kq ka n kc td th tn wn f tf wf mt tg tp h kn) H) (hD : va_D A (LW γ q0 q1 a1 q2 a2 q3 a3 q4 o m0 m1 m2 m3 m4 kq ka n kc td th tn wn f tf wf mt tg tp h kn)) (hS : va_S A s.heap H locs) (hc : cells ≤ 26 + j) (hs : slots ≤ 257 + 17 * j) (hl : lv_has ls 9 [(0, .ref b), (1, .ref q0), (2, .ref m0), (3, .ref o), (4, .int (nI i))]) : W p l e room_1 (s.setDrawn d0) m #[Value.ref b] below meth c H locs cells slots (lw_Z below #[Value.ref b] s) (F0 m 316 ls []) := by
  obtain ⟨hx, hb, hr, hml, hown, hts0, hX, hbl, hlocks, hgv⟩ := id C0
  have hts : ∀ w ∈ wsL_law, w.before #[Value.ref b] (s.setDrawn d0) = true := fun w h => dr_words hts0 d0 w (wsL_law_in w h)
  have hown : s.vm.findClass RL = some m.cls := hown
  have hX : va_X b L xs (s.setDrawn d0) s.heap := va_X.moved (u := s) (U := s.setDrawn d0) (Vm.Alike.refl s.vm) hX
  have hK : xK γ (s.setDrawn d0) := va_K.moved (u := s) (U := s.setDrawn d0) (Vm.Alike.refl s.vm) hK
  have hn0 := hI.1
  have hn1 := hI.2.1
  have hkc := hI.2.2.1
  have hP : xP γ ([xO q0 2 [.ref q1, .ref q4, .int (nI kc), .int td, .ref q2, .ref q3], xO q1 0 [.ref a1, .int (nI n)], xA γ a1 12 f, xO q2 0 [.ref a2, .int tn], xA γ a2 12 tf, xO q3 1 [.ref a3, .int wn], xA γ a3 12 wf, xQ γ q4 6 (fun t9 => some (kq t9)), xL γ o 1 h, xO m0 3 [.int th, .int (nI n), .int (nI kc), .int td, .ref m1, .ref m2, .ref m3, .ref m4], xA γ m1 12 f, xA γ m2 12 mt, xA γ m3 72 tg, xA γ m4 14 tp] ++ xKp γ kq ka kn (xGt tg)) H := hP
  have hD : va_D A ([xO q0 2 [.ref q1, .ref q4, .int (nI kc), .int td, .ref q2, .ref q3], xO q1 0 [.ref a1, .int (nI n)], xA γ a1 12 f, xO q2 0 [.ref a2, .int tn], xA γ a2 12 tf, xO q3 1 [.ref a3, .int wn], xA γ a3 12 wf, xQ γ q4 6 (fun t9 => some (kq t9)), xL γ o 1 h, xO m0 3 [.int th, .int (nI n), .int (nI kc), .int td, .ref m1, .ref m2, .ref m3, .ref m4], xA γ m1 12 f, xA γ m2 12 mt, xA γ m3 72 tg, xA γ m4 14 tp] ++ xKp γ kq ka kn (xGt tg)) := hD
  by_cases hp : xInB (xs (i + 1)) 0 (nI n - 1) = true
  · obtain ⟨k, hk, e1⟩ := xInB_pl hn1 hp
    by_cases hq : xInB (xs (i + 2)) (-50) 50 = true
    · obtain ⟨h1, h2⟩ := xInB_t hq
      refine lv_aload_n hx hb dL_law_316 rfl (lv_at hl 1 rfl) ?_
      refine lv_aload_n hx hb dL_law_317 rfl (lv_at hl 0 rfl) ?_
      refine lv_iload hx hb dL_law_318 (lv_at hl 4 rfl) ?_
      refine lv_iconst (v := 1) hx hb dL_law_320 (by decide) ?_
      refine lv_iadd hx hb dL_law_321 ?_
      refine x_top (y := nI (i + 1)) (nI_add i 1) ?_
      refine x_sld hx hb hX hbl hbA hS (i + 1) rfl (by omega) (by omega) dL_law_322 ?_
      refine x_top (y := nI k) (e1) ?_
      refine lv_aload_n hx hb dL_law_323 rfl (lv_at hl 0 rfl) ?_
      refine lv_iload hx hb dL_law_324 (lv_at hl 4 rfl) ?_
      refine lv_iconst (v := 2) hx hb dL_law_326 (by decide) ?_
      refine lv_iadd hx hb dL_law_327 ?_
      refine x_top (y := nI (i + 2)) (nI_add i 2) ?_
      refine x_sld hx hb hX hbl hbA hS (i + 2) rfl (by omega) (by omega) dL_law_328 ?_
      refine lv_aload_n hx hb dL_law_329 rfl (lv_at hl 3 rfl) ?_
      refine xSME (Ex := fun _ => True) (As := [.ref q0, .int (nI k), .int (xs (i + 2)), .ref o]) (rest := []) ⟨hx, hb, hml, hown, hts⟩ (c_L_tip γ l q0 q1 q2 q3 q4 kc td a1 n f k (xs (i + 2)) hn0 hn1 hk h1 h2 o h) (vx_cwSW 4 hts gL_law_L_tip rfl rfl rfl hds_L_tip ⟨(Nat.le_of_ble_eq_true rfl), (Nat.le_of_ble_eq_true rfl)⟩) (fun _ _ _ _ h => h) (fun _ _ _ => trivial) hK hP hD hS hA [0, 1, 2, 8] rfl rfl rfl hl.1 rfl (Nat.le_of_ble_eq_true rfl) dL_law_330 ⟨(by omega : _ ≤ 601024), (by omega : _ ≤ 7293034)⟩ (fun r9 w9 H locs hw hP hD hS => ?_)
      obtain ⟨rfl, rfl⟩ := hw
      have hP : xP γ ([xO q0 2 [.ref q1, .ref q4, .int (nI kc), .int (td + xAbs (xs (i + 2))), .ref q2, .ref q3], xO q1 0 [.ref a1, .int (nI n)], xA γ a1 12 (xTip n f k (xs (i + 2))), xO q2 0 [.ref a2, .int tn], xA γ a2 12 tf, xO q3 1 [.ref a3, .int wn], xA γ a3 12 wf, xQ γ q4 6 (fun t9 => some (kq t9)), xL γ o 1 (vp_updL h 0 (Int32.toInt64 (xTip n f k (xs (i + 2)) k))), xO m0 3 [.int th, .int (nI n), .int (nI kc), .int td, .ref m1, .ref m2, .ref m3, .ref m4], xA γ m1 12 f, xA γ m2 12 mt, xA γ m3 72 tg, xA γ m4 14 tp] ++ xKp γ kq ka kn (xGt tg)) H := hP
      have hD : va_D A ([xO q0 2 [.ref q1, .ref q4, .int (nI kc), .int (td + xAbs (xs (i + 2))), .ref q2, .ref q3], xO q1 0 [.ref a1, .int (nI n)], xA γ a1 12 (xTip n f k (xs (i + 2))), xO q2 0 [.ref a2, .int tn], xA γ a2 12 tf, xO q3 1 [.ref a3, .int wn], xA γ a3 12 wf, xQ γ q4 6 (fun t9 => some (kq t9)), xL γ o 1 (vp_updL h 0 (Int32.toInt64 (xTip n f k (xs (i + 2)) k))), xO m0 3 [.int th, .int (nI n), .int (nI kc), .int td, .ref m1, .ref m2, .ref m3, .ref m4], xA γ m1 12 f, xA γ m2 12 mt, xA γ m3 72 tg, xA γ m4 14 tp] ++ xKp γ kq ka kn (xGt tg)) := hD
      refine W.eq (g2 := F0 m 333 ls [.int 0]) rfl ?_
      refine lv_istore (lv' := [(5, .int 0), (0, .ref b), (1, .ref q0), (2, .ref m0), (3, .ref o), (4, .int (nI i))]) hx hb dL_law_333 hl (by decide) rfl (fun ls hl => ?_)
      refine lv_aload_n hx hb dL_law_335 rfl (lv_at hl 3 rfl) ?_
      refine lv_aload_n hx hb dL_law_336 rfl (lv_at hl 1 rfl) ?_
      refine lv_iload hx hb dL_law_337 (lv_at hl 5 rfl) ?_
      refine lv_iconst (v := 1) hx hb dL_law_339 (by decide) ?_
      refine lv_iadd hx hb dL_law_340 ?_
      refine x_top (y := nI (i + 1)) (nI_add i 1) ?_
      refine x_sld hx hb hX hbl hbA hS (i + 1) rfl (by omega) (by omega) dL_law_341 ?_
      refine x_top (y := nI k) (e1) ?_
      refine lv_aload_n hx hb dL_law_342 rfl (lv_at hl 1 rfl) ?_
      refine lv_iload hx hb dL_law_343 (lv_at hl 5 rfl) ?_
      refine lv_iconst (v := 2) hx hb dL_law_345 (by decide) ?_
      refine lv_iadd hx hb dL_law_346 ?_
      refine x_top (y := nI (i + 2)) (nI_add i 2) ?_
      refine x_sld hx hb hX hbl hbA hS (i + 2) rfl (by omega) (by omega) dL_law_347 ?_
      refine xVM (q0 := 9) (ci := 3) (As := [.int (nI k), .int (xs (i + 2))]) (rest := []) ⟨hx, hb, hml, hown, hts⟩ (c_X3_tip γ l m0 m1 m2 m3 m4 n kc th td f k (xs (i + 2)) hn0 hn1 hk h1 h2) (cwV 2 hts gL_law_X3_tip rfl rfl rfl hdv_X3_tip ⟨(Nat.le_of_ble_eq_true rfl), (Nat.le_of_ble_eq_true rfl)⟩) hK hP hD hS hA [9, 10] rfl rfl rfl rfl rfl hl.1 rfl (Nat.le_of_ble_eq_true rfl) dL_law_348 ⟨(by omega : _ ≤ 601024), (by omega : _ ≤ 7293034)⟩ (fun r9 w9 H locs hw hP hD hS => ?_)
      obtain ⟨rfl, rfl⟩ := hw
      have hP : xP γ ([xO q0 2 [.ref q1, .ref q4, .int (nI kc), .int (td + xAbs (xs (i + 2))), .ref q2, .ref q3], xO q1 0 [.ref a1, .int (nI n)], xA γ a1 12 (xTip n f k (xs (i + 2))), xO q2 0 [.ref a2, .int tn], xA γ a2 12 tf, xO q3 1 [.ref a3, .int wn], xA γ a3 12 wf, xQ γ q4 6 (fun t9 => some (kq t9)), xL γ o 1 (vp_updL h 0 (Int32.toInt64 (xTip n f k (xs (i + 2)) k))), xO m0 3 [.int 0, .int (nI n), .int (nI kc), .int (td + xAbs (xs (i + 2))), .ref m1, .ref m2, .ref m3, .ref m4], xA γ m1 12 (xTip n f k (xs (i + 2))), xA γ m2 12 mt, xA γ m3 72 tg, xA γ m4 14 tp] ++ xKp γ kq ka kn (xGt tg)) H := hP
      have hD : va_D A ([xO q0 2 [.ref q1, .ref q4, .int (nI kc), .int (td + xAbs (xs (i + 2))), .ref q2, .ref q3], xO q1 0 [.ref a1, .int (nI n)], xA γ a1 12 (xTip n f k (xs (i + 2))), xO q2 0 [.ref a2, .int tn], xA γ a2 12 tf, xO q3 1 [.ref a3, .int wn], xA γ a3 12 wf, xQ γ q4 6 (fun t9 => some (kq t9)), xL γ o 1 (vp_updL h 0 (Int32.toInt64 (xTip n f k (xs (i + 2)) k))), xO m0 3 [.int 0, .int (nI n), .int (nI kc), .int (td + xAbs (xs (i + 2))), .ref m1, .ref m2, .ref m3, .ref m4], xA γ m1 12 (xTip n f k (xs (i + 2))), xA γ m2 12 mt, xA γ m3 72 tg, xA γ m4 14 tp] ++ xKp γ kq ka kn (xGt tg)) := hD
      refine W.eq (g2 := F0 m 351 ls [.int (xTip n f k (xs (i + 2)) k)]) rfl ?_
      refine lv_istore (lv' := [(6, .int (xTip n f k (xs (i + 2)) k)), (5, .int 0), (0, .ref b), (1, .ref q0), (2, .ref m0), (3, .ref o), (4, .int (nI i))]) hx hb dL_law_351 hl (by decide) rfl (fun ls hl => ?_)
      refine lv_aload_n hx hb dL_law_353 rfl (lv_at hl 4 rfl) ?_
      refine xVR (q0 := 9) (ci := 3) (As := []) (rest := []) (stk := [.int 0]) ⟨hx, hb, hml, hown, hts⟩ (c_X3_thrown γ l m0 m1 m2 m3 m4 n kc 0 (td + xAbs (xs (i + 2)))) (cwV 0 hts gL_law_X3_thrown rfl rfl rfl hdv_X3_thrown ⟨(Nat.le_of_ble_eq_true rfl), (Nat.le_of_ble_eq_true rfl)⟩) hK hP [9] rfl rfl rfl rfl hl.1 rfl (Nat.le_of_ble_eq_true rfl) dL_law_354 ⟨(by omega : _ ≤ 601024), (by omega : _ ≤ 7293034)⟩ rfl ?_
      refine lv_iload hx hb dL_law_357 (lv_at hl 1 rfl) ?_
      refine lv_icmp_eq (tgt := 364) hx hb dL_law_359 (by decide) (fun _ => ?_) (fun c => absurd (rfl) c)
      refine lv_iload hx hb dL_law_364 (lv_at hl 1 rfl) ?_
      refine lv_if_ne (tgt := 381) hx hb dL_law_366 (by decide) (fun c => absurd rfl c) (fun _ => ?_)
      refine lv_aload_n hx hb dL_law_369 rfl (lv_at hl 5 rfl) ?_
      refine lv_iconst (v := 0) hx hb dL_law_370 (by decide) ?_
      refine x_lald (f := vp_updL h 0 (Int32.toInt64 (xTip n f k (xs (i + 2)) k))) hx hb hK hP 8 rfl 0 rfl (by decide) (by decide) dL_law_371 ?_
      refine x_topl (y := Int32.toInt64 (xTip n f k (xs (i + 2)) k)) rfl ?_
      refine lv_iload hx hb dL_law_372 (lv_at hl 0 rfl) ?_
      refine lv_i2l (v := Int32.toInt64 (xTip n f k (xs (i + 2)) k)) hx hb dL_law_374 rfl ?_
      refine x_lcmp (rfl) hx hb dL_law_375 ?_
      refine lv_if_eq (tgt := 381) hx hb dL_law_376 (by decide) (fun _ => ?_) (fun c => absurd rfl c)
      refine lv_goto (tgt := 1426) hx hb dL_law_381 (by decide) ?_
      exact K n kc (td + xAbs (xs (i + 2))) 0 tn wn (xTip n f k (xs (i + 2))) tf wf mt tg tp (vp_updL h 0 (Int32.toInt64 (xTip n f k (xs (i + 2)) k))) kn _ _ d0 _ _ ls hd0 (hI.tip hj hk h1 h2) (hkn) hP hD hS (by omega) (by omega) (lv_sub hl [2, 3, 4, 5, 6] rfl)
    · have hxb : xInB (xs (i + 2)) (-50) 50 = false := by simpa using hq
      refine lv_aload_n hx hb dL_law_316 rfl (lv_at hl 1 rfl) ?_
      refine lv_aload_n hx hb dL_law_317 rfl (lv_at hl 0 rfl) ?_
      refine lv_iload hx hb dL_law_318 (lv_at hl 4 rfl) ?_
      refine lv_iconst (v := 1) hx hb dL_law_320 (by decide) ?_
      refine lv_iadd hx hb dL_law_321 ?_
      refine x_top (y := nI (i + 1)) (nI_add i 1) ?_
      refine x_sld hx hb hX hbl hbA hS (i + 1) rfl (by omega) (by omega) dL_law_322 ?_
      refine x_top (y := nI k) (e1) ?_
      refine lv_aload_n hx hb dL_law_323 rfl (lv_at hl 0 rfl) ?_
      refine lv_iload hx hb dL_law_324 (lv_at hl 4 rfl) ?_
      refine lv_iconst (v := 2) hx hb dL_law_326 (by decide) ?_
      refine lv_iadd hx hb dL_law_327 ?_
      refine x_top (y := nI (i + 2)) (nI_add i 2) ?_
      refine x_sld hx hb hX hbl hbA hS (i + 2) rfl (by omega) (by omega) dL_law_328 ?_
      refine lv_aload_n hx hb dL_law_329 rfl (lv_at hl 3 rfl) ?_
      refine xSME (Ex := xW1 sa) (As := [.ref q0, .int (nI k), .int (xs (i + 2)), .ref o]) (rest := []) ⟨hx, hb, hml, hown, hts⟩ (c_L_tip_x2 γ l hlt sa q0 q1 q2 q3 q4 kc td a1 n f k (xs (i + 2)) hn0 hn1 hk hxb o h) (vx_cwSW 4 hts gL_law_L_tip rfl rfl rfl hds_L_tip ⟨(Nat.le_of_ble_eq_true rfl), (Nat.le_of_ble_eq_true rfl)⟩) xW1_blind (fun U hU hW => ⟨xE.at hW hU hEv hEs hEh hS, va_Nc.moved hW.alike hEn.1, va_Nc.moved hW.alike hEn.2⟩) hK hP hD hS hA [0, 1, 2, 8] rfl rfl rfl hl.1 rfl (Nat.le_of_ble_eq_true rfl) dL_law_330 ⟨(by omega : _ ≤ 601024), (by omega : _ ≤ 7293034)⟩ (fun r9 w9 H locs hw hP hD hS => ?_)
      obtain ⟨rfl, rfl⟩ := hw
      have hP : xP γ ([xO q0 2 [.ref q1, .ref q4, .int (nI kc), .int td, .ref q2, .ref q3], xO q1 0 [.ref a1, .int (nI n)], xA γ a1 12 f, xO q2 0 [.ref a2, .int tn], xA γ a2 12 tf, xO q3 1 [.ref a3, .int wn], xA γ a3 12 wf, xQ γ q4 6 (fun t9 => some (kq t9)), xL γ o 1 h, xO m0 3 [.int th, .int (nI n), .int (nI kc), .int td, .ref m1, .ref m2, .ref m3, .ref m4], xA γ m1 12 f, xA γ m2 12 mt, xA γ m3 72 tg, xA γ m4 14 tp] ++ xKp γ kq ka kn (xGt tg)) H := hP
      have hD : va_D A ([xO q0 2 [.ref q1, .ref q4, .int (nI kc), .int td, .ref q2, .ref q3], xO q1 0 [.ref a1, .int (nI n)], xA γ a1 12 f, xO q2 0 [.ref a2, .int tn], xA γ a2 12 tf, xO q3 1 [.ref a3, .int wn], xA γ a3 12 wf, xQ γ q4 6 (fun t9 => some (kq t9)), xL γ o 1 h, xO m0 3 [.int th, .int (nI n), .int (nI kc), .int td, .ref m1, .ref m2, .ref m3, .ref m4], xA γ m1 12 f, xA γ m2 12 mt, xA γ m3 72 tg, xA γ m4 14 tp] ++ xKp γ kq ka kn (xGt tg)) := hD
      refine W.eq (g2 := F0 m 333 ls [.int 2]) rfl ?_
      refine lv_istore (lv' := [(5, .int 2), (0, .ref b), (1, .ref q0), (2, .ref m0), (3, .ref o), (4, .int (nI i))]) hx hb dL_law_333 hl (by decide) rfl (fun ls hl => ?_)
      refine lv_aload_n hx hb dL_law_335 rfl (lv_at hl 3 rfl) ?_
      refine lv_aload_n hx hb dL_law_336 rfl (lv_at hl 1 rfl) ?_
      refine lv_iload hx hb dL_law_337 (lv_at hl 5 rfl) ?_
      refine lv_iconst (v := 1) hx hb dL_law_339 (by decide) ?_
      refine lv_iadd hx hb dL_law_340 ?_
      refine x_top (y := nI (i + 1)) (nI_add i 1) ?_
      refine x_sld hx hb hX hbl hbA hS (i + 1) rfl (by omega) (by omega) dL_law_341 ?_
      refine x_top (y := nI k) (e1) ?_
      refine lv_aload_n hx hb dL_law_342 rfl (lv_at hl 1 rfl) ?_
      refine lv_iload hx hb dL_law_343 (lv_at hl 5 rfl) ?_
      refine lv_iconst (v := 2) hx hb dL_law_345 (by decide) ?_
      refine lv_iadd hx hb dL_law_346 ?_
      refine x_top (y := nI (i + 2)) (nI_add i 2) ?_
      refine x_sld hx hb hX hbl hbA hS (i + 2) rfl (by omega) (by omega) dL_law_347 ?_
      refine xVM (q0 := 9) (ci := 3) (As := [.int (nI k), .int (xs (i + 2))]) (rest := []) ⟨hx, hb, hml, hown, hts⟩ (c_X3_tip_x2 γ l m0 m1 m2 m3 m4 n kc th td k (xs (i + 2)) hn0 hn1 hk hxb) (cwV 2 hts gL_law_X3_tip rfl rfl rfl hdv_X3_tip ⟨(Nat.le_of_ble_eq_true rfl), (Nat.le_of_ble_eq_true rfl)⟩) hK hP hD hS hA [9] rfl rfl rfl rfl rfl hl.1 rfl (Nat.le_of_ble_eq_true rfl) dL_law_348 ⟨(by omega : _ ≤ 601024), (by omega : _ ≤ 7293034)⟩ (fun r9 w9 H locs hw hP hD hS => ?_)
      obtain ⟨rfl, rfl⟩ := hw
      have hP : xP γ ([xO q0 2 [.ref q1, .ref q4, .int (nI kc), .int td, .ref q2, .ref q3], xO q1 0 [.ref a1, .int (nI n)], xA γ a1 12 f, xO q2 0 [.ref a2, .int tn], xA γ a2 12 tf, xO q3 1 [.ref a3, .int wn], xA γ a3 12 wf, xQ γ q4 6 (fun t9 => some (kq t9)), xL γ o 1 h, xO m0 3 [.int 2, .int (nI n), .int (nI kc), .int td, .ref m1, .ref m2, .ref m3, .ref m4], xA γ m1 12 f, xA γ m2 12 mt, xA γ m3 72 tg, xA γ m4 14 tp] ++ xKp γ kq ka kn (xGt tg)) H := hP
      have hD : va_D A ([xO q0 2 [.ref q1, .ref q4, .int (nI kc), .int td, .ref q2, .ref q3], xO q1 0 [.ref a1, .int (nI n)], xA γ a1 12 f, xO q2 0 [.ref a2, .int tn], xA γ a2 12 tf, xO q3 1 [.ref a3, .int wn], xA γ a3 12 wf, xQ γ q4 6 (fun t9 => some (kq t9)), xL γ o 1 h, xO m0 3 [.int 2, .int (nI n), .int (nI kc), .int td, .ref m1, .ref m2, .ref m3, .ref m4], xA γ m1 12 f, xA γ m2 12 mt, xA γ m3 72 tg, xA γ m4 14 tp] ++ xKp γ kq ka kn (xGt tg)) := hD
      refine W.eq (g2 := F0 m 351 ls [.int 0]) rfl ?_
      refine lv_istore (lv' := [(6, .int 0), (5, .int 2), (0, .ref b), (1, .ref q0), (2, .ref m0), (3, .ref o), (4, .int (nI i))]) hx hb dL_law_351 hl (by decide) rfl (fun ls hl => ?_)
      refine lv_aload_n hx hb dL_law_353 rfl (lv_at hl 4 rfl) ?_
      refine xVR (q0 := 9) (ci := 3) (As := []) (rest := []) (stk := [.int 2]) ⟨hx, hb, hml, hown, hts⟩ (c_X3_thrown γ l m0 m1 m2 m3 m4 n kc 2 td) (cwV 0 hts gL_law_X3_thrown rfl rfl rfl hdv_X3_thrown ⟨(Nat.le_of_ble_eq_true rfl), (Nat.le_of_ble_eq_true rfl)⟩) hK hP [9] rfl rfl rfl rfl hl.1 rfl (Nat.le_of_ble_eq_true rfl) dL_law_354 ⟨(by omega : _ ≤ 601024), (by omega : _ ≤ 7293034)⟩ rfl ?_
      refine lv_iload hx hb dL_law_357 (lv_at hl 1 rfl) ?_
      refine lv_icmp_eq (tgt := 364) hx hb dL_law_359 (by decide) (fun _ => ?_) (fun c => absurd (rfl) c)
      refine lv_iload hx hb dL_law_364 (lv_at hl 1 rfl) ?_
      refine lv_if_ne (tgt := 381) hx hb dL_law_366 (by decide) (fun _ => ?_) (fun c => absurd c (by decide))
      refine lv_goto (tgt := 1426) hx hb dL_law_381 (by decide) ?_
      exact K n kc td 2 tn wn f tf wf mt tg tp h kn _ _ d0 _ _ ls hd0 (hI.same hj) (hkn) hP hD hS (by omega) (by omega) (lv_sub hl [2, 3, 4, 5, 6] rfl)
  · have hxb : xInB (xs (i + 1)) 0 (nI n - 1) = false := by simpa using hp
    refine lv_aload_n hx hb dL_law_316 rfl (lv_at hl 1 rfl) ?_
    refine lv_aload_n hx hb dL_law_317 rfl (lv_at hl 0 rfl) ?_
    refine lv_iload hx hb dL_law_318 (lv_at hl 4 rfl) ?_
    refine lv_iconst (v := 1) hx hb dL_law_320 (by decide) ?_
    refine lv_iadd hx hb dL_law_321 ?_
    refine x_top (y := nI (i + 1)) (nI_add i 1) ?_
    refine x_sld hx hb hX hbl hbA hS (i + 1) rfl (by omega) (by omega) dL_law_322 ?_
    refine lv_aload_n hx hb dL_law_323 rfl (lv_at hl 0 rfl) ?_
    refine lv_iload hx hb dL_law_324 (lv_at hl 4 rfl) ?_
    refine lv_iconst (v := 2) hx hb dL_law_326 (by decide) ?_
    refine lv_iadd hx hb dL_law_327 ?_
    refine x_top (y := nI (i + 2)) (nI_add i 2) ?_
    refine x_sld hx hb hX hbl hbA hS (i + 2) rfl (by omega) (by omega) dL_law_328 ?_
    refine lv_aload_n hx hb dL_law_329 rfl (lv_at hl 3 rfl) ?_
    refine xSME (Ex := xW1 sa) (As := [.ref q0, .int (xs (i + 1)), .int (xs (i + 2)), .ref o]) (rest := []) ⟨hx, hb, hml, hown, hts⟩ (c_L_tip_x1 γ l hlt sa q0 q1 q2 q3 q4 kc td a1 n f (xs (i + 1)) (xs (i + 2)) hn0 hn1 hxb o h) (vx_cwSW 4 hts gL_law_L_tip rfl rfl rfl hds_L_tip ⟨(Nat.le_of_ble_eq_true rfl), (Nat.le_of_ble_eq_true rfl)⟩) xW1_blind (fun U hU hW => ⟨xE.at hW hU hEv hEs hEh hS, va_Nc.moved hW.alike hEn.1, va_Nc.moved hW.alike hEn.2⟩) hK hP hD hS hA [0, 1, 2, 8] rfl rfl rfl hl.1 rfl (Nat.le_of_ble_eq_true rfl) dL_law_330 ⟨(by omega : _ ≤ 601024), (by omega : _ ≤ 7293034)⟩ (fun r9 w9 H locs hw hP hD hS => ?_)
    obtain ⟨rfl, rfl⟩ := hw
    have hP : xP γ ([xO q0 2 [.ref q1, .ref q4, .int (nI kc), .int td, .ref q2, .ref q3], xO q1 0 [.ref a1, .int (nI n)], xA γ a1 12 f, xO q2 0 [.ref a2, .int tn], xA γ a2 12 tf, xO q3 1 [.ref a3, .int wn], xA γ a3 12 wf, xQ γ q4 6 (fun t9 => some (kq t9)), xL γ o 1 h, xO m0 3 [.int th, .int (nI n), .int (nI kc), .int td, .ref m1, .ref m2, .ref m3, .ref m4], xA γ m1 12 f, xA γ m2 12 mt, xA γ m3 72 tg, xA γ m4 14 tp] ++ xKp γ kq ka kn (xGt tg)) H := hP
    have hD : va_D A ([xO q0 2 [.ref q1, .ref q4, .int (nI kc), .int td, .ref q2, .ref q3], xO q1 0 [.ref a1, .int (nI n)], xA γ a1 12 f, xO q2 0 [.ref a2, .int tn], xA γ a2 12 tf, xO q3 1 [.ref a3, .int wn], xA γ a3 12 wf, xQ γ q4 6 (fun t9 => some (kq t9)), xL γ o 1 h, xO m0 3 [.int th, .int (nI n), .int (nI kc), .int td, .ref m1, .ref m2, .ref m3, .ref m4], xA γ m1 12 f, xA γ m2 12 mt, xA γ m3 72 tg, xA γ m4 14 tp] ++ xKp γ kq ka kn (xGt tg)) := hD
    refine W.eq (g2 := F0 m 333 ls [.int 1]) rfl ?_
    refine lv_istore (lv' := [(5, .int 1), (0, .ref b), (1, .ref q0), (2, .ref m0), (3, .ref o), (4, .int (nI i))]) hx hb dL_law_333 hl (by decide) rfl (fun ls hl => ?_)
    refine lv_aload_n hx hb dL_law_335 rfl (lv_at hl 3 rfl) ?_
    refine lv_aload_n hx hb dL_law_336 rfl (lv_at hl 1 rfl) ?_
    refine lv_iload hx hb dL_law_337 (lv_at hl 5 rfl) ?_
    refine lv_iconst (v := 1) hx hb dL_law_339 (by decide) ?_
    refine lv_iadd hx hb dL_law_340 ?_
    refine x_top (y := nI (i + 1)) (nI_add i 1) ?_
    refine x_sld hx hb hX hbl hbA hS (i + 1) rfl (by omega) (by omega) dL_law_341 ?_
    refine lv_aload_n hx hb dL_law_342 rfl (lv_at hl 1 rfl) ?_
    refine lv_iload hx hb dL_law_343 (lv_at hl 5 rfl) ?_
    refine lv_iconst (v := 2) hx hb dL_law_345 (by decide) ?_
    refine lv_iadd hx hb dL_law_346 ?_
    refine x_top (y := nI (i + 2)) (nI_add i 2) ?_
    refine x_sld hx hb hX hbl hbA hS (i + 2) rfl (by omega) (by omega) dL_law_347 ?_
    refine xVM (q0 := 9) (ci := 3) (As := [.int (xs (i + 1)), .int (xs (i + 2))]) (rest := []) ⟨hx, hb, hml, hown, hts⟩ (c_X3_tip_x1 γ l m0 m1 m2 m3 m4 n kc th td (xs (i + 1)) (xs (i + 2)) hxb) (cwV 2 hts gL_law_X3_tip rfl rfl rfl hdv_X3_tip ⟨(Nat.le_of_ble_eq_true rfl), (Nat.le_of_ble_eq_true rfl)⟩) hK hP hD hS hA [9] rfl rfl rfl rfl rfl hl.1 rfl (Nat.le_of_ble_eq_true rfl) dL_law_348 ⟨(by omega : _ ≤ 601024), (by omega : _ ≤ 7293034)⟩ (fun r9 w9 H locs hw hP hD hS => ?_)
    obtain ⟨rfl, rfl⟩ := hw
    have hP : xP γ ([xO q0 2 [.ref q1, .ref q4, .int (nI kc), .int td, .ref q2, .ref q3], xO q1 0 [.ref a1, .int (nI n)], xA γ a1 12 f, xO q2 0 [.ref a2, .int tn], xA γ a2 12 tf, xO q3 1 [.ref a3, .int wn], xA γ a3 12 wf, xQ γ q4 6 (fun t9 => some (kq t9)), xL γ o 1 h, xO m0 3 [.int 1, .int (nI n), .int (nI kc), .int td, .ref m1, .ref m2, .ref m3, .ref m4], xA γ m1 12 f, xA γ m2 12 mt, xA γ m3 72 tg, xA γ m4 14 tp] ++ xKp γ kq ka kn (xGt tg)) H := hP
    have hD : va_D A ([xO q0 2 [.ref q1, .ref q4, .int (nI kc), .int td, .ref q2, .ref q3], xO q1 0 [.ref a1, .int (nI n)], xA γ a1 12 f, xO q2 0 [.ref a2, .int tn], xA γ a2 12 tf, xO q3 1 [.ref a3, .int wn], xA γ a3 12 wf, xQ γ q4 6 (fun t9 => some (kq t9)), xL γ o 1 h, xO m0 3 [.int 1, .int (nI n), .int (nI kc), .int td, .ref m1, .ref m2, .ref m3, .ref m4], xA γ m1 12 f, xA γ m2 12 mt, xA γ m3 72 tg, xA γ m4 14 tp] ++ xKp γ kq ka kn (xGt tg)) := hD
    refine W.eq (g2 := F0 m 351 ls [.int 0]) rfl ?_
    refine lv_istore (lv' := [(6, .int 0), (5, .int 1), (0, .ref b), (1, .ref q0), (2, .ref m0), (3, .ref o), (4, .int (nI i))]) hx hb dL_law_351 hl (by decide) rfl (fun ls hl => ?_)
    refine lv_aload_n hx hb dL_law_353 rfl (lv_at hl 4 rfl) ?_
    refine xVR (q0 := 9) (ci := 3) (As := []) (rest := []) (stk := [.int 1]) ⟨hx, hb, hml, hown, hts⟩ (c_X3_thrown γ l m0 m1 m2 m3 m4 n kc 1 td) (cwV 0 hts gL_law_X3_thrown rfl rfl rfl hdv_X3_thrown ⟨(Nat.le_of_ble_eq_true rfl), (Nat.le_of_ble_eq_true rfl)⟩) hK hP [9] rfl rfl rfl rfl hl.1 rfl (Nat.le_of_ble_eq_true rfl) dL_law_354 ⟨(by omega : _ ≤ 601024), (by omega : _ ≤ 7293034)⟩ rfl ?_
    refine lv_iload hx hb dL_law_357 (lv_at hl 1 rfl) ?_
    refine lv_icmp_eq (tgt := 364) hx hb dL_law_359 (by decide) (fun _ => ?_) (fun c => absurd (rfl) c)
    refine lv_iload hx hb dL_law_364 (lv_at hl 1 rfl) ?_
    refine lv_if_ne (tgt := 381) hx hb dL_law_366 (by decide) (fun _ => ?_) (fun c => absurd c (by decide))
    refine lv_goto (tgt := 1426) hx hb dL_law_381 (by decide) ?_
    exact K n kc td 1 tn wn f tf wf mt tg tp h kn _ _ d0 _ _ ls hd0 (hI.same hj) (hkn) hP hD hS (by omega) (by omega) (lv_sub hl [2, 3, 4, 5, 6] rfl)

theorem hdv_X2_turn : yX2_turn.cls = RX2 ∧ yX2_turn.cls ≠ "java/lang/invoke/MethodHandle" ∧ yX2_turn.cls ≠ "java/lang/invoke/VarHandle" ∧ (parseMethodDescriptor yX2_turn.desc).map (fun d => d.parameters.length) = some 0 := by decide +kernel
theorem hdv_X3_turn : yX3_turn.cls = RX3 ∧ yX3_turn.cls ≠ "java/lang/invoke/MethodHandle" ∧ yX3_turn.cls ≠ "java/lang/invoke/VarHandle" ∧ (parseMethodDescriptor yX3_turn.desc).map (fun d => d.parameters.length) = some 0 := by decide +kernel
set_option maxHeartbeats 4000000 in
set_option maxRecDepth 100000 in
theorem xcase_turn {p : Program} {e : Env} {s : State} {m : MethodId} {below : List Frame} {meth : Method} {c : Code} (l : Launch) (hlt : l.stackTraces = false) {b L : Nat} {xs : Nat → Int32} (hL : L ≤ 1536) (C0 : lw_At p s m meth c b L xs) {γ : xG} (hK : xK γ s) (sa : Nat → Nat) (hEv : xEv s) (hEs : xEs sa s) (hEn : xEn s) {A : Nat → Prop} (hA : ∀ q : Nat, s.heap.size ≤ q → A q) (hbA : ¬ A b) (hEh : xEh A s s.heap) (q0 q1 a1 q2 a2 q3 a3 q4 o m0 m1 m2 m3 m4 : Nat) (kq ka : Nat → Nat) (j i : Nat) (hj : j < 512) (hi : i + 2 < L) (K : xK9 p l e s m below meth c b γ A q0 q1 a1 q2 a2 q3 a3 q4 o m0 m1 m2 m3 m4 kq ka (j + 1) i) (n kc : Nat) (td th tn wn : Int32) (f tf wf mt tg tp : xRow) (h : Nat → Int64) (kn : Nat → Int32) (H : Heap) (locs : List Loc) (d0 : Drawn) (cells slots : Nat) (ls : Array Slot) (hd0 : s.drawn.sameBut d0 lw_cs) (hI : xInv j n kc f tg) (hkn : ∀ t, t < kc → kn t = nI n) (hP : xP γ (LW γ q0 q1 a1 q2 a2 q3 a3 q4 o m0 m1 m2 m3 m4 kq ka n kc td th tn wn f tf wf mt tg tp h kn) H) (hD : va_D A (LW γ q0 q1 a1 q2 a2 q3 a3 q4 o m0 m1 m2 m3 m4 kq ka n kc td th tn wn f tf wf mt tg tp h kn)) (hS : va_S A s.heap H locs) (hc : cells ≤ 26 + j) (hs : slots ≤ 257 + 17 * j) (hl : lv_has ls 9 [(0, .ref b), (1, .ref q0), (2, .ref m0), (3, .ref o), (4, .int (nI i))]) : W p l e room_1 (s.setDrawn d0) m #[Value.ref b] below meth c H locs cells slots (lw_Z below #[Value.ref b] s) (F0 m 384 ls []) := by
  obtain ⟨hx, hb, hr, hml, hown, hts0, hX, hbl, hlocks, hgv⟩ := id C0
  have hts : ∀ w ∈ wsL_law, w.before #[Value.ref b] (s.setDrawn d0) = true := fun w h => dr_words hts0 d0 w (wsL_law_in w h)
  have hown : s.vm.findClass RL = some m.cls := hown
  have hX : va_X b L xs (s.setDrawn d0) s.heap := va_X.moved (u := s) (U := s.setDrawn d0) (Vm.Alike.refl s.vm) hX
  have hK : xK γ (s.setDrawn d0) := va_K.moved (u := s) (U := s.setDrawn d0) (Vm.Alike.refl s.vm) hK
  have hn0 := hI.1
  have hn1 := hI.2.1
  have hkc := hI.2.2.1
  have hP : xP γ ([xO q0 2 [.ref q1, .ref q4, .int (nI kc), .int td, .ref q2, .ref q3], xO q1 0 [.ref a1, .int (nI n)], xA γ a1 12 f, xO q2 0 [.ref a2, .int tn], xA γ a2 12 tf, xO q3 1 [.ref a3, .int wn], xA γ a3 12 wf, xQ γ q4 6 (fun t9 => some (kq t9)), xL γ o 1 h, xO m0 3 [.int th, .int (nI n), .int (nI kc), .int td, .ref m1, .ref m2, .ref m3, .ref m4], xA γ m1 12 f, xA γ m2 12 mt, xA γ m3 72 tg, xA γ m4 14 tp] ++ xKp γ kq ka kn (xGt tg)) H := hP
  have hD : va_D A ([xO q0 2 [.ref q1, .ref q4, .int (nI kc), .int td, .ref q2, .ref q3], xO q1 0 [.ref a1, .int (nI n)], xA γ a1 12 f, xO q2 0 [.ref a2, .int tn], xA γ a2 12 tf, xO q3 1 [.ref a3, .int wn], xA γ a3 12 wf, xQ γ q4 6 (fun t9 => some (kq t9)), xL γ o 1 h, xO m0 3 [.int th, .int (nI n), .int (nI kc), .int td, .ref m1, .ref m2, .ref m3, .ref m4], xA γ m1 12 f, xA γ m2 12 mt, xA γ m3 72 tg, xA γ m4 14 tp] ++ xKp γ kq ka kn (xGt tg)) := hD
  refine lv_aload_n hx hb dL_law_384 rfl (lv_at hl 1 rfl) ?_
  refine xVM (q0 := 0) (ci := 2) (As := []) (rest := []) ⟨hx, hb, hml, hown, hts⟩ (c_X2_turn γ l q0 q1 q2 q3 q4 kc td a1 n f hn0 hn1) (cwV 0 hts gL_law_X2_turn rfl rfl rfl hdv_X2_turn ⟨(Nat.le_of_ble_eq_true rfl), (Nat.le_of_ble_eq_true rfl)⟩) hK hP hD hS hA [0, 1, 2] rfl rfl rfl rfl rfl hl.1 rfl (Nat.le_of_ble_eq_true rfl) dL_law_385 ⟨(by omega : _ ≤ 601024), (by omega : _ ≤ 7293034)⟩ (fun r9 w9 H locs hw hP hD hS => ?_)
  obtain ⟨rfl, rfl⟩ := hw
  have hP : xP γ ([xO q0 2 [.ref q1, .ref q4, .int (nI kc), .int td, .ref q2, .ref q3], xO q1 0 [.ref a1, .int (nI n)], xA γ a1 12 (xRot n f), xO q2 0 [.ref a2, .int tn], xA γ a2 12 tf, xO q3 1 [.ref a3, .int wn], xA γ a3 12 wf, xQ γ q4 6 (fun t9 => some (kq t9)), xL γ o 1 h, xO m0 3 [.int th, .int (nI n), .int (nI kc), .int td, .ref m1, .ref m2, .ref m3, .ref m4], xA γ m1 12 f, xA γ m2 12 mt, xA γ m3 72 tg, xA γ m4 14 tp] ++ xKp γ kq ka kn (xGt tg)) H := hP
  have hD : va_D A ([xO q0 2 [.ref q1, .ref q4, .int (nI kc), .int td, .ref q2, .ref q3], xO q1 0 [.ref a1, .int (nI n)], xA γ a1 12 (xRot n f), xO q2 0 [.ref a2, .int tn], xA γ a2 12 tf, xO q3 1 [.ref a3, .int wn], xA γ a3 12 wf, xQ γ q4 6 (fun t9 => some (kq t9)), xL γ o 1 h, xO m0 3 [.int th, .int (nI n), .int (nI kc), .int td, .ref m1, .ref m2, .ref m3, .ref m4], xA γ m1 12 f, xA γ m2 12 mt, xA γ m3 72 tg, xA γ m4 14 tp] ++ xKp γ kq ka kn (xGt tg)) := hD
  refine W.eq (g2 := F0 m 388 ls [.int (f (n - 1))]) rfl ?_
  refine lv_aload_n hx hb dL_law_388 rfl (lv_at hl 2 rfl) ?_
  refine xVM (q0 := 9) (ci := 3) (As := []) (rest := [.int (f (n - 1))]) ⟨hx, hb, hml, hown, hts⟩ (c_X3_turn γ l m0 m1 m2 m3 m4 n kc th td f hn0 hn1) (cwV 0 hts gL_law_X3_turn rfl rfl rfl hdv_X3_turn ⟨(Nat.le_of_ble_eq_true rfl), (Nat.le_of_ble_eq_true rfl)⟩) hK hP hD hS hA [9, 10] rfl rfl rfl rfl rfl hl.1 rfl (Nat.le_of_ble_eq_true rfl) dL_law_389 ⟨(by omega : _ ≤ 601024), (by omega : _ ≤ 7293034)⟩ (fun r9 w9 H locs hw hP hD hS => ?_)
  obtain ⟨rfl, rfl⟩ := hw
  have hP : xP γ ([xO q0 2 [.ref q1, .ref q4, .int (nI kc), .int td, .ref q2, .ref q3], xO q1 0 [.ref a1, .int (nI n)], xA γ a1 12 (xRot n f), xO q2 0 [.ref a2, .int tn], xA γ a2 12 tf, xO q3 1 [.ref a3, .int wn], xA γ a3 12 wf, xQ γ q4 6 (fun t9 => some (kq t9)), xL γ o 1 h, xO m0 3 [.int 0, .int (nI n), .int (nI kc), .int td, .ref m1, .ref m2, .ref m3, .ref m4], xA γ m1 12 (xRot n f), xA γ m2 12 mt, xA γ m3 72 tg, xA γ m4 14 tp] ++ xKp γ kq ka kn (xGt tg)) H := hP
  have hD : va_D A ([xO q0 2 [.ref q1, .ref q4, .int (nI kc), .int td, .ref q2, .ref q3], xO q1 0 [.ref a1, .int (nI n)], xA γ a1 12 (xRot n f), xO q2 0 [.ref a2, .int tn], xA γ a2 12 tf, xO q3 1 [.ref a3, .int wn], xA γ a3 12 wf, xQ γ q4 6 (fun t9 => some (kq t9)), xL γ o 1 h, xO m0 3 [.int 0, .int (nI n), .int (nI kc), .int td, .ref m1, .ref m2, .ref m3, .ref m4], xA γ m1 12 (xRot n f), xA γ m2 12 mt, xA γ m3 72 tg, xA γ m4 14 tp] ++ xKp γ kq ka kn (xGt tg)) := hD
  refine W.eq (g2 := F0 m 392 ls [.int (f (n - 1)), .int (f (n - 1))]) rfl ?_
  refine lv_icmp_eq (tgt := 1426) hx hb dL_law_392 (by decide) (fun _ => ?_) (fun c => absurd (rfl) c)
  exact K n kc td 0 tn wn (xRot n f) tf wf mt tg tp h kn _ _ d0 _ _ ls hd0 (hI.rot hj) (hkn) hP hD hS (by omega) (by omega) (lv_sub hl [0, 1, 2, 3, 4] rfl)

theorem hds_L_keep : yL_keep.cls ≠ "java/lang/invoke/MethodHandle" ∧ yL_keep.cls ≠ "java/lang/invoke/VarHandle" ∧ (parseMethodDescriptor yL_keep.desc).map (fun d => d.parameters.length) = some 2 := by decide +kernel
theorem hdv_X3_keep : yX3_keep.cls = RX3 ∧ yX3_keep.cls ≠ "java/lang/invoke/MethodHandle" ∧ yX3_keep.cls ≠ "java/lang/invoke/VarHandle" ∧ (parseMethodDescriptor yX3_keep.desc).map (fun d => d.parameters.length) = some 0 := by decide +kernel
set_option maxHeartbeats 4000000 in
set_option maxRecDepth 100000 in
theorem xcase_keep {p : Program} {e : Env} {s : State} {m : MethodId} {below : List Frame} {meth : Method} {c : Code} (l : Launch) (hlt : l.stackTraces = false) {b L : Nat} {xs : Nat → Int32} (hL : L ≤ 1536) (C0 : lw_At p s m meth c b L xs) {γ : xG} (hK : xK γ s) (sa : Nat → Nat) (hEv : xEv s) (hEs : xEs sa s) (hEn : xEn s) {A : Nat → Prop} (hA : ∀ q : Nat, s.heap.size ≤ q → A q) (hbA : ¬ A b) (hEh : xEh A s s.heap) (q0 q1 a1 q2 a2 q3 a3 q4 o m0 m1 m2 m3 m4 : Nat) (kq ka : Nat → Nat) (j i : Nat) (hj : j < 512) (hi : i + 2 < L) (K : xK9 p l e s m below meth c b γ A q0 q1 a1 q2 a2 q3 a3 q4 o m0 m1 m2 m3 m4 kq ka (j + 1) i) (n kc : Nat) (td th tn wn : Int32) (f tf wf mt tg tp : xRow) (h : Nat → Int64) (kn : Nat → Int32) (H : Heap) (locs : List Loc) (d0 : Drawn) (cells slots : Nat) (ls : Array Slot) (hd0 : s.drawn.sameBut d0 lw_cs) (hI : xInv j n kc f tg) (hkn : ∀ t, t < kc → kn t = nI n) (hP : xP γ (LW γ q0 q1 a1 q2 a2 q3 a3 q4 o m0 m1 m2 m3 m4 kq ka n kc td th tn wn f tf wf mt tg tp h kn) H) (hD : va_D A (LW γ q0 q1 a1 q2 a2 q3 a3 q4 o m0 m1 m2 m3 m4 kq ka n kc td th tn wn f tf wf mt tg tp h kn)) (hS : va_S A s.heap H locs) (hc : cells ≤ 26 + j) (hs : slots ≤ 257 + 17 * j) (hl : lv_has ls 9 [(0, .ref b), (1, .ref q0), (2, .ref m0), (3, .ref o), (4, .int (nI i))]) : W p l e room_1 (s.setDrawn d0) m #[Value.ref b] below meth c H locs cells slots (lw_Z below #[Value.ref b] s) (F0 m 397 ls []) := by
  obtain ⟨hx, hb, hr, hml, hown, hts0, hX, hbl, hlocks, hgv⟩ := id C0
  have hts : ∀ w ∈ wsL_law, w.before #[Value.ref b] (s.setDrawn d0) = true := fun w h => dr_words hts0 d0 w (wsL_law_in w h)
  have hown : s.vm.findClass RL = some m.cls := hown
  have hX : va_X b L xs (s.setDrawn d0) s.heap := va_X.moved (u := s) (U := s.setDrawn d0) (Vm.Alike.refl s.vm) hX
  have hK : xK γ (s.setDrawn d0) := va_K.moved (u := s) (U := s.setDrawn d0) (Vm.Alike.refl s.vm) hK
  have hn0 := hI.1
  have hn1 := hI.2.1
  have hkc := hI.2.2.1
  have hP : xP γ ([xO q0 2 [.ref q1, .ref q4, .int (nI kc), .int td, .ref q2, .ref q3], xO q1 0 [.ref a1, .int (nI n)], xA γ a1 12 f, xO q2 0 [.ref a2, .int tn], xA γ a2 12 tf, xO q3 1 [.ref a3, .int wn], xA γ a3 12 wf, xQ γ q4 6 (fun t9 => some (kq t9)), xL γ o 1 h, xO m0 3 [.int th, .int (nI n), .int (nI kc), .int td, .ref m1, .ref m2, .ref m3, .ref m4], xA γ m1 12 f, xA γ m2 12 mt, xA γ m3 72 tg, xA γ m4 14 tp] ++ xKp γ kq ka kn (xGt tg)) H := hP
  have hD : va_D A ([xO q0 2 [.ref q1, .ref q4, .int (nI kc), .int td, .ref q2, .ref q3], xO q1 0 [.ref a1, .int (nI n)], xA γ a1 12 f, xO q2 0 [.ref a2, .int tn], xA γ a2 12 tf, xO q3 1 [.ref a3, .int wn], xA γ a3 12 wf, xQ γ q4 6 (fun t9 => some (kq t9)), xL γ o 1 h, xO m0 3 [.int th, .int (nI n), .int (nI kc), .int td, .ref m1, .ref m2, .ref m3, .ref m4], xA γ m1 12 f, xA γ m2 12 mt, xA γ m3 72 tg, xA γ m4 14 tp] ++ xKp γ kq ka kn (xGt tg)) := hD
  by_cases hk : kc < 6
  · have hk6 := hk
    refine lv_aload_n hx hb dL_law_397 rfl (lv_at hl 1 rfl) ?_
    refine lv_aload_n hx hb dL_law_398 rfl (lv_at hl 3 rfl) ?_
    refine xSME (Ex := fun _ => True) (As := [.ref q0, .ref o]) (rest := []) ⟨hx, hb, hml, hown, hts⟩ (c_L_keep γ l q0 q1 q2 q3 q4 kc td a1 n f kq ka kn (xGt tg) hn0 hn1 hk o h) (vx_cwSW 2 hts gL_law_L_keep rfl rfl rfl hds_L_keep ⟨(Nat.le_of_ble_eq_true rfl), (Nat.le_of_ble_eq_true rfl)⟩) (fun _ _ _ _ h => h) (fun _ _ _ => trivial) hK hP hD hS hA ([0, 1, 2, 7, 8] ++ List.range' 14 12) rfl (xsuf_M (base := [xO q0 2 [.ref q1, .ref q4, .int (nI kc), .int td, .ref q2, .ref q3], xO q1 0 [.ref a1, .int (nI n)], xA γ a1 12 f, xO q2 0 [.ref a2, .int tn], xA γ a2 12 tf, xO q3 1 [.ref a3, .int wn], xA γ a3 12 wf, xQ γ q4 6 (fun t9 => some (kq t9)), xL γ o 1 h, xO m0 3 [.int th, .int (nI n), .int (nI kc), .int td, .ref m1, .ref m2, .ref m3, .ref m4], xA γ m1 12 f, xA γ m2 12 mt, xA γ m3 72 tg, xA γ m4 14 tp]) rfl rfl rfl (by decide)) rfl hl.1 rfl (Nat.le_of_ble_eq_true rfl) dL_law_399 ⟨(by omega : _ ≤ 601024), (by omega : _ ≤ 7293034)⟩ (fun r9 w9 H locs hw hP hD hS => ?_)
    obtain ⟨rfl, rfl⟩ := hw
    rw [xup_suf2 (base := [xO q0 2 [.ref q1, .ref q4, .int (nI kc), .int td, .ref q2, .ref q3], xO q1 0 [.ref a1, .int (nI n)], xA γ a1 12 f, xO q2 0 [.ref a2, .int tn], xA γ a2 12 tf, xO q3 1 [.ref a3, .int wn], xA γ a3 12 wf, xQ γ q4 6 (fun t9 => some (kq t9)), xL γ o 1 h, xO m0 3 [.int th, .int (nI n), .int (nI kc), .int td, .ref m1, .ref m2, .ref m3, .ref m4], xA γ m1 12 f, xA γ m2 12 mt, xA γ m3 72 tg, xA γ m4 14 tp]) (K := xKp γ kq ka kn (xGt tg)) (K' := xKp γ kq ka (fun i => if i = kc then nI n else kn i) (fun i => if i = kc then f else (xGt tg) i)) (is1 := [0, 1, 2, 7, 8]) (w1 := [xO q0 2 [.ref q1, .ref q4, .int (nI (kc + 1)), .int td, .ref q2, .ref q3], xO q1 0 [.ref a1, .int (nI n)], xA γ a1 12 f, xQ γ q4 6 (fun t9 => some (kq t9)), xL γ o 1 (vp_updL h 0 (Int32.toInt64 (nI kc)))]) (nb := 14) rfl rfl rfl rfl (by decide)] at hP hD
    have hP : xP γ ([xO q0 2 [.ref q1, .ref q4, .int (nI (kc + 1)), .int td, .ref q2, .ref q3], xO q1 0 [.ref a1, .int (nI n)], xA γ a1 12 f, xO q2 0 [.ref a2, .int tn], xA γ a2 12 tf, xO q3 1 [.ref a3, .int wn], xA γ a3 12 wf, xQ γ q4 6 (fun t9 => some (kq t9)), xL γ o 1 (vp_updL h 0 (Int32.toInt64 (nI kc))), xO m0 3 [.int th, .int (nI n), .int (nI kc), .int td, .ref m1, .ref m2, .ref m3, .ref m4], xA γ m1 12 f, xA γ m2 12 mt, xA γ m3 72 tg, xA γ m4 14 tp] ++ xKp γ kq ka (fun i => if i = kc then nI n else kn i) (fun i => if i = kc then f else (xGt tg) i)) H := hP
    have hD : va_D A ([xO q0 2 [.ref q1, .ref q4, .int (nI (kc + 1)), .int td, .ref q2, .ref q3], xO q1 0 [.ref a1, .int (nI n)], xA γ a1 12 f, xO q2 0 [.ref a2, .int tn], xA γ a2 12 tf, xO q3 1 [.ref a3, .int wn], xA γ a3 12 wf, xQ γ q4 6 (fun t9 => some (kq t9)), xL γ o 1 (vp_updL h 0 (Int32.toInt64 (nI kc))), xO m0 3 [.int th, .int (nI n), .int (nI kc), .int td, .ref m1, .ref m2, .ref m3, .ref m4], xA γ m1 12 f, xA γ m2 12 mt, xA γ m3 72 tg, xA γ m4 14 tp] ++ xKp γ kq ka (fun i => if i = kc then nI n else kn i) (fun i => if i = kc then f else (xGt tg) i)) := hD
    refine W.eq (g2 := F0 m 402 ls [.int 0]) rfl ?_
    refine lv_istore (lv' := [(5, .int 0), (0, .ref b), (1, .ref q0), (2, .ref m0), (3, .ref o), (4, .int (nI i))]) hx hb dL_law_402 hl (by decide) rfl (fun ls hl => ?_)
    refine lv_aload_n hx hb dL_law_404 rfl (lv_at hl 3 rfl) ?_
    refine xVM (q0 := 9) (ci := 3) (As := []) (rest := []) ⟨hx, hb, hml, hown, hts⟩ (c_X3_keep γ l m0 m1 m2 m3 m4 n kc th td f tg hk) (cwV 0 hts gL_law_X3_keep rfl rfl rfl hdv_X3_keep ⟨(Nat.le_of_ble_eq_true rfl), (Nat.le_of_ble_eq_true rfl)⟩) hK hP hD hS hA [9, 10, 12] rfl rfl rfl rfl rfl hl.1 rfl (Nat.le_of_ble_eq_true rfl) dL_law_405 ⟨(by omega : _ ≤ 601024), (by omega : _ ≤ 7293034)⟩ (fun r9 w9 H locs hw hP hD hS => ?_)
    obtain ⟨rfl, rfl⟩ := hw
    have hP : xP γ ([xO q0 2 [.ref q1, .ref q4, .int (nI (kc + 1)), .int td, .ref q2, .ref q3], xO q1 0 [.ref a1, .int (nI n)], xA γ a1 12 f, xO q2 0 [.ref a2, .int tn], xA γ a2 12 tf, xO q3 1 [.ref a3, .int wn], xA γ a3 12 wf, xQ γ q4 6 (fun t9 => some (kq t9)), xL γ o 1 (vp_updL h 0 (Int32.toInt64 (nI kc))), xO m0 3 [.int 0, .int (nI n), .int (nI (kc + 1)), .int td, .ref m1, .ref m2, .ref m3, .ref m4], xA γ m1 12 f, xA γ m2 12 mt, xA γ m3 72 (xKeep tg kc f), xA γ m4 14 tp] ++ xKp γ kq ka (fun i => if i = kc then nI n else kn i) (fun i => if i = kc then f else (xGt tg) i)) H := hP
    have hD : va_D A ([xO q0 2 [.ref q1, .ref q4, .int (nI (kc + 1)), .int td, .ref q2, .ref q3], xO q1 0 [.ref a1, .int (nI n)], xA γ a1 12 f, xO q2 0 [.ref a2, .int tn], xA γ a2 12 tf, xO q3 1 [.ref a3, .int wn], xA γ a3 12 wf, xQ γ q4 6 (fun t9 => some (kq t9)), xL γ o 1 (vp_updL h 0 (Int32.toInt64 (nI kc))), xO m0 3 [.int 0, .int (nI n), .int (nI (kc + 1)), .int td, .ref m1, .ref m2, .ref m3, .ref m4], xA γ m1 12 f, xA γ m2 12 mt, xA γ m3 72 (xKeep tg kc f), xA γ m4 14 tp] ++ xKp γ kq ka (fun i => if i = kc then nI n else kn i) (fun i => if i = kc then f else (xGt tg) i)) := hD
    refine W.eq (g2 := F0 m 408 ls [.int (nI kc)]) rfl ?_
    refine lv_istore (lv' := [(6, .int (nI kc)), (5, .int 0), (0, .ref b), (1, .ref q0), (2, .ref m0), (3, .ref o), (4, .int (nI i))]) hx hb dL_law_408 hl (by decide) rfl (fun ls hl => ?_)
    refine lv_aload_n hx hb dL_law_410 rfl (lv_at hl 4 rfl) ?_
    refine xVR (q0 := 9) (ci := 3) (As := []) (rest := []) (stk := [.int 0]) ⟨hx, hb, hml, hown, hts⟩ (c_X3_thrown γ l m0 m1 m2 m3 m4 n (kc + 1) 0 td) (cwV 0 hts gL_law_X3_thrown rfl rfl rfl hdv_X3_thrown ⟨(Nat.le_of_ble_eq_true rfl), (Nat.le_of_ble_eq_true rfl)⟩) hK hP [9] rfl rfl rfl rfl hl.1 rfl (Nat.le_of_ble_eq_true rfl) dL_law_411 ⟨(by omega : _ ≤ 601024), (by omega : _ ≤ 7293034)⟩ rfl ?_
    refine lv_iload hx hb dL_law_414 (lv_at hl 1 rfl) ?_
    refine lv_icmp_eq (tgt := 421) hx hb dL_law_416 (by decide) (fun _ => ?_) (fun c => absurd (rfl) c)
    refine lv_iload hx hb dL_law_421 (lv_at hl 1 rfl) ?_
    refine lv_if_ne (tgt := 438) hx hb dL_law_423 (by decide) (fun c => absurd rfl c) (fun _ => ?_)
    refine lv_aload_n hx hb dL_law_426 rfl (lv_at hl 5 rfl) ?_
    refine lv_iconst (v := 0) hx hb dL_law_427 (by decide) ?_
    refine x_lald (f := vp_updL h 0 (Int32.toInt64 (nI kc))) hx hb hK hP 8 rfl 0 rfl (by decide) (by decide) dL_law_428 ?_
    refine x_topl (y := Int32.toInt64 (nI kc)) rfl ?_
    refine lv_iload hx hb dL_law_429 (lv_at hl 0 rfl) ?_
    refine lv_i2l (v := Int32.toInt64 (nI kc)) hx hb dL_law_431 rfl ?_
    refine x_lcmp (rfl) hx hb dL_law_432 ?_
    refine lv_if_eq (tgt := 438) hx hb dL_law_433 (by decide) (fun _ => ?_) (fun c => absurd rfl c)
    refine lv_goto (tgt := 1426) hx hb dL_law_438 (by decide) ?_
    have hP := xKp_rows (ks2 := xGt (xKeep tg kc f)) (fun t _ z hz => by rw [xGt_keep hz]; by_cases q9 : t = kc <;> simp [q9]) hP
    have hD : va_D A ([xO q0 2 [.ref q1, .ref q4, .int (nI (kc + 1)), .int td, .ref q2, .ref q3], xO q1 0 [.ref a1, .int (nI n)], xA γ a1 12 f, xO q2 0 [.ref a2, .int tn], xA γ a2 12 tf, xO q3 1 [.ref a3, .int wn], xA γ a3 12 wf, xQ γ q4 6 (fun t9 => some (kq t9)), xL γ o 1 (vp_updL h 0 (Int32.toInt64 (nI kc))), xO m0 3 [.int 0, .int (nI n), .int (nI (kc + 1)), .int td, .ref m1, .ref m2, .ref m3, .ref m4], xA γ m1 12 f, xA γ m2 12 mt, xA γ m3 72 (xKeep tg kc f), xA γ m4 14 tp] ++ xKp γ kq ka (fun i => if i = kc then nI n else kn i) (xGt (xKeep tg kc f))) := xDk hD
    exact K n (kc + 1) td 0 tn wn f tf wf mt (xKeep tg kc f) tp (vp_updL h 0 (Int32.toInt64 (nI kc))) (fun i => if i = kc then nI n else kn i) _ _ d0 _ _ ls hd0 (hI.keep hj hk) (fun t ht => by by_cases q9 : t = kc; (simp [q9]); (simp only [if_neg q9]; exact hkn t (by omega))) hP hD hS (by omega) (by omega) (lv_sub hl [2, 3, 4, 5, 6] rfl)
  · have hk6 : kc = 6 := by omega
    refine lv_aload_n hx hb dL_law_397 rfl (lv_at hl 1 rfl) ?_
    refine lv_aload_n hx hb dL_law_398 rfl (lv_at hl 3 rfl) ?_
    refine xSME (Ex := xW1 sa) (As := [.ref q0, .ref o]) (rest := []) ⟨hx, hb, hml, hown, hts⟩ (c_L_keep_x γ l hlt sa q0 q1 q2 q3 q4 kc td hk6 o h) (vx_cwSW 2 hts gL_law_L_keep rfl rfl rfl hds_L_keep ⟨(Nat.le_of_ble_eq_true rfl), (Nat.le_of_ble_eq_true rfl)⟩) xW1_blind (fun U hU hW => ⟨xE.at hW hU hEv hEs hEh hS, va_Nc.moved hW.alike hEn.1, va_Nc.moved hW.alike hEn.2⟩) hK hP hD hS hA [0, 8] rfl rfl rfl hl.1 rfl (Nat.le_of_ble_eq_true rfl) dL_law_399 ⟨(by omega : _ ≤ 601024), (by omega : _ ≤ 7293034)⟩ (fun r9 w9 H locs hw hP hD hS => ?_)
    obtain ⟨rfl, rfl⟩ := hw
    have hP : xP γ ([xO q0 2 [.ref q1, .ref q4, .int (nI kc), .int td, .ref q2, .ref q3], xO q1 0 [.ref a1, .int (nI n)], xA γ a1 12 f, xO q2 0 [.ref a2, .int tn], xA γ a2 12 tf, xO q3 1 [.ref a3, .int wn], xA γ a3 12 wf, xQ γ q4 6 (fun t9 => some (kq t9)), xL γ o 1 h, xO m0 3 [.int th, .int (nI n), .int (nI kc), .int td, .ref m1, .ref m2, .ref m3, .ref m4], xA γ m1 12 f, xA γ m2 12 mt, xA γ m3 72 tg, xA γ m4 14 tp] ++ xKp γ kq ka kn (xGt tg)) H := hP
    have hD : va_D A ([xO q0 2 [.ref q1, .ref q4, .int (nI kc), .int td, .ref q2, .ref q3], xO q1 0 [.ref a1, .int (nI n)], xA γ a1 12 f, xO q2 0 [.ref a2, .int tn], xA γ a2 12 tf, xO q3 1 [.ref a3, .int wn], xA γ a3 12 wf, xQ γ q4 6 (fun t9 => some (kq t9)), xL γ o 1 h, xO m0 3 [.int th, .int (nI n), .int (nI kc), .int td, .ref m1, .ref m2, .ref m3, .ref m4], xA γ m1 12 f, xA γ m2 12 mt, xA γ m3 72 tg, xA γ m4 14 tp] ++ xKp γ kq ka kn (xGt tg)) := hD
    refine W.eq (g2 := F0 m 402 ls [.int 1]) rfl ?_
    refine lv_istore (lv' := [(5, .int 1), (0, .ref b), (1, .ref q0), (2, .ref m0), (3, .ref o), (4, .int (nI i))]) hx hb dL_law_402 hl (by decide) rfl (fun ls hl => ?_)
    refine lv_aload_n hx hb dL_law_404 rfl (lv_at hl 3 rfl) ?_
    refine xVM (q0 := 9) (ci := 3) (As := []) (rest := []) ⟨hx, hb, hml, hown, hts⟩ (c_X3_keep_x γ l m0 m1 m2 m3 m4 n kc th td hk6) (cwV 0 hts gL_law_X3_keep rfl rfl rfl hdv_X3_keep ⟨(Nat.le_of_ble_eq_true rfl), (Nat.le_of_ble_eq_true rfl)⟩) hK hP hD hS hA [9] rfl rfl rfl rfl rfl hl.1 rfl (Nat.le_of_ble_eq_true rfl) dL_law_405 ⟨(by omega : _ ≤ 601024), (by omega : _ ≤ 7293034)⟩ (fun r9 w9 H locs hw hP hD hS => ?_)
    obtain ⟨rfl, rfl⟩ := hw
    have hP : xP γ ([xO q0 2 [.ref q1, .ref q4, .int (nI kc), .int td, .ref q2, .ref q3], xO q1 0 [.ref a1, .int (nI n)], xA γ a1 12 f, xO q2 0 [.ref a2, .int tn], xA γ a2 12 tf, xO q3 1 [.ref a3, .int wn], xA γ a3 12 wf, xQ γ q4 6 (fun t9 => some (kq t9)), xL γ o 1 h, xO m0 3 [.int 1, .int (nI n), .int (nI kc), .int td, .ref m1, .ref m2, .ref m3, .ref m4], xA γ m1 12 f, xA γ m2 12 mt, xA γ m3 72 tg, xA γ m4 14 tp] ++ xKp γ kq ka kn (xGt tg)) H := hP
    have hD : va_D A ([xO q0 2 [.ref q1, .ref q4, .int (nI kc), .int td, .ref q2, .ref q3], xO q1 0 [.ref a1, .int (nI n)], xA γ a1 12 f, xO q2 0 [.ref a2, .int tn], xA γ a2 12 tf, xO q3 1 [.ref a3, .int wn], xA γ a3 12 wf, xQ γ q4 6 (fun t9 => some (kq t9)), xL γ o 1 h, xO m0 3 [.int 1, .int (nI n), .int (nI kc), .int td, .ref m1, .ref m2, .ref m3, .ref m4], xA γ m1 12 f, xA γ m2 12 mt, xA γ m3 72 tg, xA γ m4 14 tp] ++ xKp γ kq ka kn (xGt tg)) := hD
    refine W.eq (g2 := F0 m 408 ls [.int 0]) rfl ?_
    refine lv_istore (lv' := [(6, .int 0), (5, .int 1), (0, .ref b), (1, .ref q0), (2, .ref m0), (3, .ref o), (4, .int (nI i))]) hx hb dL_law_408 hl (by decide) rfl (fun ls hl => ?_)
    refine lv_aload_n hx hb dL_law_410 rfl (lv_at hl 4 rfl) ?_
    refine xVR (q0 := 9) (ci := 3) (As := []) (rest := []) (stk := [.int 1]) ⟨hx, hb, hml, hown, hts⟩ (c_X3_thrown γ l m0 m1 m2 m3 m4 n kc 1 td) (cwV 0 hts gL_law_X3_thrown rfl rfl rfl hdv_X3_thrown ⟨(Nat.le_of_ble_eq_true rfl), (Nat.le_of_ble_eq_true rfl)⟩) hK hP [9] rfl rfl rfl rfl hl.1 rfl (Nat.le_of_ble_eq_true rfl) dL_law_411 ⟨(by omega : _ ≤ 601024), (by omega : _ ≤ 7293034)⟩ rfl ?_
    refine lv_iload hx hb dL_law_414 (lv_at hl 1 rfl) ?_
    refine lv_icmp_eq (tgt := 421) hx hb dL_law_416 (by decide) (fun _ => ?_) (fun c => absurd (rfl) c)
    refine lv_iload hx hb dL_law_421 (lv_at hl 1 rfl) ?_
    refine lv_if_ne (tgt := 438) hx hb dL_law_423 (by decide) (fun _ => ?_) (fun c => absurd c (by decide))
    refine lv_goto (tgt := 1426) hx hb dL_law_438 (by decide) ?_
    exact K n kc td 1 tn wn f tf wf mt tg tp h kn _ _ d0 _ _ ls hd0 (hI.same hj) (hkn) hP hD hS (by omega) (by omega) (lv_sub hl [2, 3, 4, 5, 6] rfl)

theorem hds_L_settle : yL_settle.cls ≠ "java/lang/invoke/MethodHandle" ∧ yL_settle.cls ≠ "java/lang/invoke/VarHandle" ∧ (parseMethodDescriptor yL_settle.desc).map (fun d => d.parameters.length) = some 3 := by decide +kernel
theorem hdv_X3_settle : yX3_settle.cls = RX3 ∧ yX3_settle.cls ≠ "java/lang/invoke/MethodHandle" ∧ yX3_settle.cls ≠ "java/lang/invoke/VarHandle" ∧ (parseMethodDescriptor yX3_settle.desc).map (fun d => d.parameters.length) = some 1 := by decide +kernel
set_option maxHeartbeats 4000000 in
set_option maxRecDepth 100000 in
theorem xcase_settle {p : Program} {e : Env} {s : State} {m : MethodId} {below : List Frame} {meth : Method} {c : Code} (l : Launch) (hlt : l.stackTraces = false) {b L : Nat} {xs : Nat → Int32} (hL : L ≤ 1536) (C0 : lw_At p s m meth c b L xs) {γ : xG} (hK : xK γ s) (sa : Nat → Nat) (hEv : xEv s) (hEs : xEs sa s) (hEn : xEn s) {A : Nat → Prop} (hA : ∀ q : Nat, s.heap.size ≤ q → A q) (hbA : ¬ A b) (hEh : xEh A s s.heap) (q0 q1 a1 q2 a2 q3 a3 q4 o m0 m1 m2 m3 m4 : Nat) (kq ka : Nat → Nat) (j i : Nat) (hj : j < 512) (hi : i + 2 < L) (K : xK9 p l e s m below meth c b γ A q0 q1 a1 q2 a2 q3 a3 q4 o m0 m1 m2 m3 m4 kq ka (j + 1) i) (n kc : Nat) (td th tn wn : Int32) (f tf wf mt tg tp : xRow) (h : Nat → Int64) (kn : Nat → Int32) (H : Heap) (locs : List Loc) (d0 : Drawn) (cells slots : Nat) (ls : Array Slot) (hd0 : s.drawn.sameBut d0 lw_cs) (hI : xInv j n kc f tg) (hkn : ∀ t, t < kc → kn t = nI n) (hP : xP γ (LW γ q0 q1 a1 q2 a2 q3 a3 q4 o m0 m1 m2 m3 m4 kq ka n kc td th tn wn f tf wf mt tg tp h kn) H) (hD : va_D A (LW γ q0 q1 a1 q2 a2 q3 a3 q4 o m0 m1 m2 m3 m4 kq ka n kc td th tn wn f tf wf mt tg tp h kn)) (hS : va_S A s.heap H locs) (hc : cells ≤ 26 + j) (hs : slots ≤ 257 + 17 * j) (hl : lv_has ls 9 [(0, .ref b), (1, .ref q0), (2, .ref m0), (3, .ref o), (4, .int (nI i))]) : W p l e room_1 (s.setDrawn d0) m #[Value.ref b] below meth c H locs cells slots (lw_Z below #[Value.ref b] s) (F0 m 441 ls []) := by
  obtain ⟨hx, hb, hr, hml, hown, hts0, hX, hbl, hlocks, hgv⟩ := id C0
  have hts : ∀ w ∈ wsL_law, w.before #[Value.ref b] (s.setDrawn d0) = true := fun w h => dr_words hts0 d0 w (wsL_law_in w h)
  have hown : s.vm.findClass RL = some m.cls := hown
  have hX : va_X b L xs (s.setDrawn d0) s.heap := va_X.moved (u := s) (U := s.setDrawn d0) (Vm.Alike.refl s.vm) hX
  have hK : xK γ (s.setDrawn d0) := va_K.moved (u := s) (U := s.setDrawn d0) (Vm.Alike.refl s.vm) hK
  have hn0 := hI.1
  have hn1 := hI.2.1
  have hkc := hI.2.2.1
  have hP : xP γ ([xO q0 2 [.ref q1, .ref q4, .int (nI kc), .int td, .ref q2, .ref q3], xO q1 0 [.ref a1, .int (nI n)], xA γ a1 12 f, xO q2 0 [.ref a2, .int tn], xA γ a2 12 tf, xO q3 1 [.ref a3, .int wn], xA γ a3 12 wf, xQ γ q4 6 (fun t9 => some (kq t9)), xL γ o 1 h, xO m0 3 [.int th, .int (nI n), .int (nI kc), .int td, .ref m1, .ref m2, .ref m3, .ref m4], xA γ m1 12 f, xA γ m2 12 mt, xA γ m3 72 tg, xA γ m4 14 tp] ++ xKp γ kq ka kn (xGt tg)) H := hP
  have hD : va_D A ([xO q0 2 [.ref q1, .ref q4, .int (nI kc), .int td, .ref q2, .ref q3], xO q1 0 [.ref a1, .int (nI n)], xA γ a1 12 f, xO q2 0 [.ref a2, .int tn], xA γ a2 12 tf, xO q3 1 [.ref a3, .int wn], xA γ a3 12 wf, xQ γ q4 6 (fun t9 => some (kq t9)), xL γ o 1 h, xO m0 3 [.int th, .int (nI n), .int (nI kc), .int td, .ref m1, .ref m2, .ref m3, .ref m4], xA γ m1 12 f, xA γ m2 12 mt, xA γ m3 72 tg, xA γ m4 14 tp] ++ xKp γ kq ka kn (xGt tg)) := hD
  by_cases hp : xInB (xs (i + 1)) 1 200 = true
  · obtain ⟨k, h1, h2, e1⟩ := xInB_n (a := 1) (b := 200) (by decide) (by decide) hp
    refine lv_aload_n hx hb dL_law_441 rfl (lv_at hl 1 rfl) ?_
    refine lv_aload_n hx hb dL_law_442 rfl (lv_at hl 0 rfl) ?_
    refine lv_iload hx hb dL_law_443 (lv_at hl 4 rfl) ?_
    refine lv_iconst (v := 1) hx hb dL_law_445 (by decide) ?_
    refine lv_iadd hx hb dL_law_446 ?_
    refine x_top (y := nI (i + 1)) (nI_add i 1) ?_
    refine x_sld hx hb hX hbl hbA hS (i + 1) rfl (by omega) (by omega) dL_law_447 ?_
    refine x_top (y := nI k) (e1) ?_
    refine lv_aload_n hx hb dL_law_448 rfl (lv_at hl 3 rfl) ?_
    refine xSME (Ex := fun _ => True) (As := [.ref q0, .int (nI k), .ref o]) (rest := []) ⟨hx, hb, hml, hown, hts⟩ (c_L_settle γ l q0 q1 q2 q3 q4 kc td a1 n f k hn0 hn1 h1 h2 o h) (vx_cwSW 3 hts gL_law_L_settle rfl rfl rfl hds_L_settle ⟨(Nat.le_of_ble_eq_true rfl), (Nat.le_of_ble_eq_true rfl)⟩) (fun _ _ _ _ h => h) (fun _ _ _ => trivial) hK hP hD hS hA [0, 1, 2, 8] rfl rfl rfl hl.1 rfl (Nat.le_of_ble_eq_true rfl) dL_law_449 ⟨(by omega : _ ≤ 601024), (by omega : _ ≤ 7293034)⟩ (fun r9 w9 H locs hw hP hD hS => ?_)
    obtain ⟨rfl, rfl⟩ := hw
    have hP : xP γ ([xO q0 2 [.ref q1, .ref q4, .int (nI kc), .int (td + nI (xStl n k f).1), .ref q2, .ref q3], xO q1 0 [.ref a1, .int (nI n)], xA γ a1 12 ((xStl n k f).2), xO q2 0 [.ref a2, .int tn], xA γ a2 12 tf, xO q3 1 [.ref a3, .int wn], xA γ a3 12 wf, xQ γ q4 6 (fun t9 => some (kq t9)), xL γ o 1 (vp_updL h 0 (Int32.toInt64 (nI (xStl n k f).1))), xO m0 3 [.int th, .int (nI n), .int (nI kc), .int td, .ref m1, .ref m2, .ref m3, .ref m4], xA γ m1 12 f, xA γ m2 12 mt, xA γ m3 72 tg, xA γ m4 14 tp] ++ xKp γ kq ka kn (xGt tg)) H := hP
    have hD : va_D A ([xO q0 2 [.ref q1, .ref q4, .int (nI kc), .int (td + nI (xStl n k f).1), .ref q2, .ref q3], xO q1 0 [.ref a1, .int (nI n)], xA γ a1 12 ((xStl n k f).2), xO q2 0 [.ref a2, .int tn], xA γ a2 12 tf, xO q3 1 [.ref a3, .int wn], xA γ a3 12 wf, xQ γ q4 6 (fun t9 => some (kq t9)), xL γ o 1 (vp_updL h 0 (Int32.toInt64 (nI (xStl n k f).1))), xO m0 3 [.int th, .int (nI n), .int (nI kc), .int td, .ref m1, .ref m2, .ref m3, .ref m4], xA γ m1 12 f, xA γ m2 12 mt, xA γ m3 72 tg, xA γ m4 14 tp] ++ xKp γ kq ka kn (xGt tg)) := hD
    refine W.eq (g2 := F0 m 452 ls [.int 0]) rfl ?_
    refine lv_istore (lv' := [(5, .int 0), (0, .ref b), (1, .ref q0), (2, .ref m0), (3, .ref o), (4, .int (nI i))]) hx hb dL_law_452 hl (by decide) rfl (fun ls hl => ?_)
    refine lv_aload_n hx hb dL_law_454 rfl (lv_at hl 3 rfl) ?_
    refine lv_aload_n hx hb dL_law_455 rfl (lv_at hl 1 rfl) ?_
    refine lv_iload hx hb dL_law_456 (lv_at hl 5 rfl) ?_
    refine lv_iconst (v := 1) hx hb dL_law_458 (by decide) ?_
    refine lv_iadd hx hb dL_law_459 ?_
    refine x_top (y := nI (i + 1)) (nI_add i 1) ?_
    refine x_sld hx hb hX hbl hbA hS (i + 1) rfl (by omega) (by omega) dL_law_460 ?_
    refine x_top (y := nI k) (e1) ?_
    refine xVM (q0 := 9) (ci := 3) (As := [.int (nI k)]) (rest := []) ⟨hx, hb, hml, hown, hts⟩ (c_X3_settle γ l m0 m1 m2 m3 m4 n kc th td f k hn0 hn1 h1 h2) (cwV 1 hts gL_law_X3_settle rfl rfl rfl hdv_X3_settle ⟨(Nat.le_of_ble_eq_true rfl), (Nat.le_of_ble_eq_true rfl)⟩) hK hP hD hS hA [9, 10] rfl rfl rfl rfl rfl hl.1 rfl (Nat.le_of_ble_eq_true rfl) dL_law_461 ⟨(by omega : _ ≤ 601024), (by omega : _ ≤ 7293034)⟩ (fun r9 w9 H locs hw hP hD hS => ?_)
    obtain ⟨rfl, rfl⟩ := hw
    have hP : xP γ ([xO q0 2 [.ref q1, .ref q4, .int (nI kc), .int (td + nI (xStl n k f).1), .ref q2, .ref q3], xO q1 0 [.ref a1, .int (nI n)], xA γ a1 12 ((xStl n k f).2), xO q2 0 [.ref a2, .int tn], xA γ a2 12 tf, xO q3 1 [.ref a3, .int wn], xA γ a3 12 wf, xQ γ q4 6 (fun t9 => some (kq t9)), xL γ o 1 (vp_updL h 0 (Int32.toInt64 (nI (xStl n k f).1))), xO m0 3 [.int 0, .int (nI n), .int (nI kc), .int (td + nI (xStl n k f).1), .ref m1, .ref m2, .ref m3, .ref m4], xA γ m1 12 ((xStl n k f).2), xA γ m2 12 mt, xA γ m3 72 tg, xA γ m4 14 tp] ++ xKp γ kq ka kn (xGt tg)) H := hP
    have hD : va_D A ([xO q0 2 [.ref q1, .ref q4, .int (nI kc), .int (td + nI (xStl n k f).1), .ref q2, .ref q3], xO q1 0 [.ref a1, .int (nI n)], xA γ a1 12 ((xStl n k f).2), xO q2 0 [.ref a2, .int tn], xA γ a2 12 tf, xO q3 1 [.ref a3, .int wn], xA γ a3 12 wf, xQ γ q4 6 (fun t9 => some (kq t9)), xL γ o 1 (vp_updL h 0 (Int32.toInt64 (nI (xStl n k f).1))), xO m0 3 [.int 0, .int (nI n), .int (nI kc), .int (td + nI (xStl n k f).1), .ref m1, .ref m2, .ref m3, .ref m4], xA γ m1 12 ((xStl n k f).2), xA γ m2 12 mt, xA γ m3 72 tg, xA γ m4 14 tp] ++ xKp γ kq ka kn (xGt tg)) := hD
    refine W.eq (g2 := F0 m 464 ls [.int (nI ((xStl n k f).1))]) rfl ?_
    refine lv_istore (lv' := [(6, .int (nI ((xStl n k f).1))), (5, .int 0), (0, .ref b), (1, .ref q0), (2, .ref m0), (3, .ref o), (4, .int (nI i))]) hx hb dL_law_464 hl (by decide) rfl (fun ls hl => ?_)
    refine lv_aload_n hx hb dL_law_466 rfl (lv_at hl 4 rfl) ?_
    refine xVR (q0 := 9) (ci := 3) (As := []) (rest := []) (stk := [.int 0]) ⟨hx, hb, hml, hown, hts⟩ (c_X3_thrown γ l m0 m1 m2 m3 m4 n kc 0 (td + nI (xStl n k f).1)) (cwV 0 hts gL_law_X3_thrown rfl rfl rfl hdv_X3_thrown ⟨(Nat.le_of_ble_eq_true rfl), (Nat.le_of_ble_eq_true rfl)⟩) hK hP [9] rfl rfl rfl rfl hl.1 rfl (Nat.le_of_ble_eq_true rfl) dL_law_467 ⟨(by omega : _ ≤ 601024), (by omega : _ ≤ 7293034)⟩ rfl ?_
    refine lv_iload hx hb dL_law_470 (lv_at hl 1 rfl) ?_
    refine lv_icmp_eq (tgt := 477) hx hb dL_law_472 (by decide) (fun _ => ?_) (fun c => absurd (rfl) c)
    refine lv_iload hx hb dL_law_477 (lv_at hl 1 rfl) ?_
    refine lv_if_ne (tgt := 494) hx hb dL_law_479 (by decide) (fun c => absurd rfl c) (fun _ => ?_)
    refine lv_aload_n hx hb dL_law_482 rfl (lv_at hl 5 rfl) ?_
    refine lv_iconst (v := 0) hx hb dL_law_483 (by decide) ?_
    refine x_lald (f := vp_updL h 0 (Int32.toInt64 (nI (xStl n k f).1))) hx hb hK hP 8 rfl 0 rfl (by decide) (by decide) dL_law_484 ?_
    refine x_topl (y := Int32.toInt64 (nI (xStl n k f).1)) rfl ?_
    refine lv_iload hx hb dL_law_485 (lv_at hl 0 rfl) ?_
    refine lv_i2l (v := Int32.toInt64 (nI ((xStl n k f).1))) hx hb dL_law_487 rfl ?_
    refine x_lcmp (rfl) hx hb dL_law_488 ?_
    refine lv_if_eq (tgt := 494) hx hb dL_law_489 (by decide) (fun _ => ?_) (fun c => absurd rfl c)
    refine lv_goto (tgt := 1426) hx hb dL_law_494 (by decide) ?_
    exact K n kc (td + nI (xStl n k f).1) 0 tn wn ((xStl n k f).2) tf wf mt tg tp (vp_updL h 0 (Int32.toInt64 (nI (xStl n k f).1))) kn _ _ d0 _ _ ls hd0 (hI.stl hj h2) (hkn) hP hD hS (by omega) (by omega) (lv_sub hl [2, 3, 4, 5, 6] rfl)
  · have hxb : xInB (xs (i + 1)) 1 200 = false := by simpa using hp
    refine lv_aload_n hx hb dL_law_441 rfl (lv_at hl 1 rfl) ?_
    refine lv_aload_n hx hb dL_law_442 rfl (lv_at hl 0 rfl) ?_
    refine lv_iload hx hb dL_law_443 (lv_at hl 4 rfl) ?_
    refine lv_iconst (v := 1) hx hb dL_law_445 (by decide) ?_
    refine lv_iadd hx hb dL_law_446 ?_
    refine x_top (y := nI (i + 1)) (nI_add i 1) ?_
    refine x_sld hx hb hX hbl hbA hS (i + 1) rfl (by omega) (by omega) dL_law_447 ?_
    refine lv_aload_n hx hb dL_law_448 rfl (lv_at hl 3 rfl) ?_
    refine xSME (Ex := xW1 sa) (As := [.ref q0, .int (xs (i + 1)), .ref o]) (rest := []) ⟨hx, hb, hml, hown, hts⟩ (c_L_settle_x γ l hlt sa q0 q1 q2 q3 q4 kc td (xs (i + 1)) hxb o h) (vx_cwSW 3 hts gL_law_L_settle rfl rfl rfl hds_L_settle ⟨(Nat.le_of_ble_eq_true rfl), (Nat.le_of_ble_eq_true rfl)⟩) xW1_blind (fun U hU hW => ⟨xE.at hW hU hEv hEs hEh hS, va_Nc.moved hW.alike hEn.1, va_Nc.moved hW.alike hEn.2⟩) hK hP hD hS hA [0, 8] rfl rfl rfl hl.1 rfl (Nat.le_of_ble_eq_true rfl) dL_law_449 ⟨(by omega : _ ≤ 601024), (by omega : _ ≤ 7293034)⟩ (fun r9 w9 H locs hw hP hD hS => ?_)
    obtain ⟨rfl, rfl⟩ := hw
    have hP : xP γ ([xO q0 2 [.ref q1, .ref q4, .int (nI kc), .int td, .ref q2, .ref q3], xO q1 0 [.ref a1, .int (nI n)], xA γ a1 12 f, xO q2 0 [.ref a2, .int tn], xA γ a2 12 tf, xO q3 1 [.ref a3, .int wn], xA γ a3 12 wf, xQ γ q4 6 (fun t9 => some (kq t9)), xL γ o 1 h, xO m0 3 [.int th, .int (nI n), .int (nI kc), .int td, .ref m1, .ref m2, .ref m3, .ref m4], xA γ m1 12 f, xA γ m2 12 mt, xA γ m3 72 tg, xA γ m4 14 tp] ++ xKp γ kq ka kn (xGt tg)) H := hP
    have hD : va_D A ([xO q0 2 [.ref q1, .ref q4, .int (nI kc), .int td, .ref q2, .ref q3], xO q1 0 [.ref a1, .int (nI n)], xA γ a1 12 f, xO q2 0 [.ref a2, .int tn], xA γ a2 12 tf, xO q3 1 [.ref a3, .int wn], xA γ a3 12 wf, xQ γ q4 6 (fun t9 => some (kq t9)), xL γ o 1 h, xO m0 3 [.int th, .int (nI n), .int (nI kc), .int td, .ref m1, .ref m2, .ref m3, .ref m4], xA γ m1 12 f, xA γ m2 12 mt, xA γ m3 72 tg, xA γ m4 14 tp] ++ xKp γ kq ka kn (xGt tg)) := hD
    refine W.eq (g2 := F0 m 452 ls [.int 1]) rfl ?_
    refine lv_istore (lv' := [(5, .int 1), (0, .ref b), (1, .ref q0), (2, .ref m0), (3, .ref o), (4, .int (nI i))]) hx hb dL_law_452 hl (by decide) rfl (fun ls hl => ?_)
    refine lv_aload_n hx hb dL_law_454 rfl (lv_at hl 3 rfl) ?_
    refine lv_aload_n hx hb dL_law_455 rfl (lv_at hl 1 rfl) ?_
    refine lv_iload hx hb dL_law_456 (lv_at hl 5 rfl) ?_
    refine lv_iconst (v := 1) hx hb dL_law_458 (by decide) ?_
    refine lv_iadd hx hb dL_law_459 ?_
    refine x_top (y := nI (i + 1)) (nI_add i 1) ?_
    refine x_sld hx hb hX hbl hbA hS (i + 1) rfl (by omega) (by omega) dL_law_460 ?_
    refine xVM (q0 := 9) (ci := 3) (As := [.int (xs (i + 1))]) (rest := []) ⟨hx, hb, hml, hown, hts⟩ (c_X3_settle_x γ l m0 m1 m2 m3 m4 n kc th td (xs (i + 1)) hxb) (cwV 1 hts gL_law_X3_settle rfl rfl rfl hdv_X3_settle ⟨(Nat.le_of_ble_eq_true rfl), (Nat.le_of_ble_eq_true rfl)⟩) hK hP hD hS hA [9] rfl rfl rfl rfl rfl hl.1 rfl (Nat.le_of_ble_eq_true rfl) dL_law_461 ⟨(by omega : _ ≤ 601024), (by omega : _ ≤ 7293034)⟩ (fun r9 w9 H locs hw hP hD hS => ?_)
    obtain ⟨rfl, rfl⟩ := hw
    have hP : xP γ ([xO q0 2 [.ref q1, .ref q4, .int (nI kc), .int td, .ref q2, .ref q3], xO q1 0 [.ref a1, .int (nI n)], xA γ a1 12 f, xO q2 0 [.ref a2, .int tn], xA γ a2 12 tf, xO q3 1 [.ref a3, .int wn], xA γ a3 12 wf, xQ γ q4 6 (fun t9 => some (kq t9)), xL γ o 1 h, xO m0 3 [.int 1, .int (nI n), .int (nI kc), .int td, .ref m1, .ref m2, .ref m3, .ref m4], xA γ m1 12 f, xA γ m2 12 mt, xA γ m3 72 tg, xA γ m4 14 tp] ++ xKp γ kq ka kn (xGt tg)) H := hP
    have hD : va_D A ([xO q0 2 [.ref q1, .ref q4, .int (nI kc), .int td, .ref q2, .ref q3], xO q1 0 [.ref a1, .int (nI n)], xA γ a1 12 f, xO q2 0 [.ref a2, .int tn], xA γ a2 12 tf, xO q3 1 [.ref a3, .int wn], xA γ a3 12 wf, xQ γ q4 6 (fun t9 => some (kq t9)), xL γ o 1 h, xO m0 3 [.int 1, .int (nI n), .int (nI kc), .int td, .ref m1, .ref m2, .ref m3, .ref m4], xA γ m1 12 f, xA γ m2 12 mt, xA γ m3 72 tg, xA γ m4 14 tp] ++ xKp γ kq ka kn (xGt tg)) := hD
    refine W.eq (g2 := F0 m 464 ls [.int 0]) rfl ?_
    refine lv_istore (lv' := [(6, .int 0), (5, .int 1), (0, .ref b), (1, .ref q0), (2, .ref m0), (3, .ref o), (4, .int (nI i))]) hx hb dL_law_464 hl (by decide) rfl (fun ls hl => ?_)
    refine lv_aload_n hx hb dL_law_466 rfl (lv_at hl 4 rfl) ?_
    refine xVR (q0 := 9) (ci := 3) (As := []) (rest := []) (stk := [.int 1]) ⟨hx, hb, hml, hown, hts⟩ (c_X3_thrown γ l m0 m1 m2 m3 m4 n kc 1 td) (cwV 0 hts gL_law_X3_thrown rfl rfl rfl hdv_X3_thrown ⟨(Nat.le_of_ble_eq_true rfl), (Nat.le_of_ble_eq_true rfl)⟩) hK hP [9] rfl rfl rfl rfl hl.1 rfl (Nat.le_of_ble_eq_true rfl) dL_law_467 ⟨(by omega : _ ≤ 601024), (by omega : _ ≤ 7293034)⟩ rfl ?_
    refine lv_iload hx hb dL_law_470 (lv_at hl 1 rfl) ?_
    refine lv_icmp_eq (tgt := 477) hx hb dL_law_472 (by decide) (fun _ => ?_) (fun c => absurd (rfl) c)
    refine lv_iload hx hb dL_law_477 (lv_at hl 1 rfl) ?_
    refine lv_if_ne (tgt := 494) hx hb dL_law_479 (by decide) (fun _ => ?_) (fun c => absurd c (by decide))
    refine lv_goto (tgt := 1426) hx hb dL_law_494 (by decide) ?_
    exact K n kc td 1 tn wn f tf wf mt tg tp h kn _ _ d0 _ _ ls hd0 (hI.same hj) (hkn) hP hD hS (by omega) (by omega) (lv_sub hl [2, 3, 4, 5, 6] rfl)

theorem hds_L_reach : yL_reach.cls ≠ "java/lang/invoke/MethodHandle" ∧ yL_reach.cls ≠ "java/lang/invoke/VarHandle" ∧ (parseMethodDescriptor yL_reach.desc).map (fun d => d.parameters.length) = some 3 := by decide +kernel
theorem hdv_X3_reach : yX3_reach.cls = RX3 ∧ yX3_reach.cls ≠ "java/lang/invoke/MethodHandle" ∧ yX3_reach.cls ≠ "java/lang/invoke/VarHandle" ∧ (parseMethodDescriptor yX3_reach.desc).map (fun d => d.parameters.length) = some 1 := by decide +kernel
set_option maxHeartbeats 4000000 in
set_option maxRecDepth 100000 in
theorem xcase_reach {p : Program} {e : Env} {s : State} {m : MethodId} {below : List Frame} {meth : Method} {c : Code} (l : Launch) (hlt : l.stackTraces = false) {b L : Nat} {xs : Nat → Int32} (hL : L ≤ 1536) (C0 : lw_At p s m meth c b L xs) {γ : xG} (hK : xK γ s) (sa : Nat → Nat) (hEv : xEv s) (hEs : xEs sa s) (hEn : xEn s) {A : Nat → Prop} (hA : ∀ q : Nat, s.heap.size ≤ q → A q) (hbA : ¬ A b) (hEh : xEh A s s.heap) (q0 q1 a1 q2 a2 q3 a3 q4 o m0 m1 m2 m3 m4 : Nat) (kq ka : Nat → Nat) (j i : Nat) (hj : j < 512) (hi : i + 2 < L) (K : xK9 p l e s m below meth c b γ A q0 q1 a1 q2 a2 q3 a3 q4 o m0 m1 m2 m3 m4 kq ka (j + 1) i) (n kc : Nat) (td th tn wn : Int32) (f tf wf mt tg tp : xRow) (h : Nat → Int64) (kn : Nat → Int32) (H : Heap) (locs : List Loc) (d0 : Drawn) (cells slots : Nat) (ls : Array Slot) (hd0 : s.drawn.sameBut d0 lw_cs) (hI : xInv j n kc f tg) (hkn : ∀ t, t < kc → kn t = nI n) (hP : xP γ (LW γ q0 q1 a1 q2 a2 q3 a3 q4 o m0 m1 m2 m3 m4 kq ka n kc td th tn wn f tf wf mt tg tp h kn) H) (hD : va_D A (LW γ q0 q1 a1 q2 a2 q3 a3 q4 o m0 m1 m2 m3 m4 kq ka n kc td th tn wn f tf wf mt tg tp h kn)) (hS : va_S A s.heap H locs) (hc : cells ≤ 26 + j) (hs : slots ≤ 257 + 17 * j) (hl : lv_has ls 9 [(0, .ref b), (1, .ref q0), (2, .ref m0), (3, .ref o), (4, .int (nI i))]) : W p l e room_1 (s.setDrawn d0) m #[Value.ref b] below meth c H locs cells slots (lw_Z below #[Value.ref b] s) (F0 m 497 ls []) := by
  obtain ⟨hx, hb, hr, hml, hown, hts0, hX, hbl, hlocks, hgv⟩ := id C0
  have hts : ∀ w ∈ wsL_law, w.before #[Value.ref b] (s.setDrawn d0) = true := fun w h => dr_words hts0 d0 w (wsL_law_in w h)
  have hown : s.vm.findClass RL = some m.cls := hown
  have hX : va_X b L xs (s.setDrawn d0) s.heap := va_X.moved (u := s) (U := s.setDrawn d0) (Vm.Alike.refl s.vm) hX
  have hK : xK γ (s.setDrawn d0) := va_K.moved (u := s) (U := s.setDrawn d0) (Vm.Alike.refl s.vm) hK
  have hn0 := hI.1
  have hn1 := hI.2.1
  have hkc := hI.2.2.1
  have hP : xP γ ([xO q0 2 [.ref q1, .ref q4, .int (nI kc), .int td, .ref q2, .ref q3], xO q1 0 [.ref a1, .int (nI n)], xA γ a1 12 f, xO q2 0 [.ref a2, .int tn], xA γ a2 12 tf, xO q3 1 [.ref a3, .int wn], xA γ a3 12 wf, xQ γ q4 6 (fun t9 => some (kq t9)), xL γ o 1 h, xO m0 3 [.int th, .int (nI n), .int (nI kc), .int td, .ref m1, .ref m2, .ref m3, .ref m4], xA γ m1 12 f, xA γ m2 12 mt, xA γ m3 72 tg, xA γ m4 14 tp] ++ xKp γ kq ka kn (xGt tg)) H := hP
  have hD : va_D A ([xO q0 2 [.ref q1, .ref q4, .int (nI kc), .int td, .ref q2, .ref q3], xO q1 0 [.ref a1, .int (nI n)], xA γ a1 12 f, xO q2 0 [.ref a2, .int tn], xA γ a2 12 tf, xO q3 1 [.ref a3, .int wn], xA γ a3 12 wf, xQ γ q4 6 (fun t9 => some (kq t9)), xL γ o 1 h, xO m0 3 [.int th, .int (nI n), .int (nI kc), .int td, .ref m1, .ref m2, .ref m3, .ref m4], xA γ m1 12 f, xA γ m2 12 mt, xA γ m3 72 tg, xA γ m4 14 tp] ++ xKp γ kq ka kn (xGt tg)) := hD
  by_cases hp : xInB (xs (i + 1)) 0 (nI kc - 1) = true
  · obtain ⟨k, hk, e1⟩ := xInB_pl (n := kc) (by omega) hp
    by_cases hcb : xCB n f (xGt tg k) = true
    · have hcb9 := hcb
      have hfm : ¬ xFewM n f (xGt tg k) = -1 := by rw [xFew_eq hn0 hn1 hI.f (hI.g k hk)]; exact xFew_ne hn0 hn1 hI.f (hI.g k hk) hcb
      refine lv_aload_n hx hb dL_law_497 rfl (lv_at hl 1 rfl) ?_
      refine lv_aload_n hx hb dL_law_498 rfl (lv_at hl 0 rfl) ?_
      refine lv_iload hx hb dL_law_499 (lv_at hl 4 rfl) ?_
      refine lv_iconst (v := 1) hx hb dL_law_501 (by decide) ?_
      refine lv_iadd hx hb dL_law_502 ?_
      refine x_top (y := nI (i + 1)) (nI_add i 1) ?_
      refine x_sld hx hb hX hbl hbA hS (i + 1) rfl (by omega) (by omega) dL_law_503 ?_
      refine x_top (y := nI k) (e1) ?_
      refine lv_aload_n hx hb dL_law_504 rfl (lv_at hl 3 rfl) ?_
      refine xSME (Ex := fun _ => True) (As := [.ref q0, .int (nI k), .ref o]) (rest := []) ⟨hx, hb, hml, hown, hts⟩ (c_L_reach γ l q0 q1 q2 q3 q4 kc td a1 n f a3 wn wf kq ka kn (xGt tg) k hn0 hn1 hk hkc hcb o h) (vx_cwSW 3 hts gL_law_L_reach rfl rfl rfl hds_L_reach ⟨(Nat.le_of_ble_eq_true rfl), (Nat.le_of_ble_eq_true rfl)⟩) (fun _ _ _ _ h => h) (fun _ _ _ => trivial) hK hP hD hS hA [14 + 2 * k, 14 + 2 * k + 1, 0, 1, 2, 5, 6, 7, 8] (by simp [va_nd] <;> omega) (xismC (xKp_o (base := [xO q0 2 [.ref q1, .ref q4, .int (nI kc), .int td, .ref q2, .ref q3], xO q1 0 [.ref a1, .int (nI n)], xA γ a1 12 f, xO q2 0 [.ref a2, .int tn], xA γ a2 12 tf, xO q3 1 [.ref a3, .int wn], xA γ a3 12 wf, xQ γ q4 6 (fun t9 => some (kq t9)), xL γ o 1 h, xO m0 3 [.int th, .int (nI n), .int (nI kc), .int td, .ref m1, .ref m2, .ref m3, .ref m4], xA γ m1 12 f, xA γ m2 12 mt, xA γ m3 72 tg, xA γ m4 14 tp]) (ks := (xGt tg)) (nb := 14) (t := k) rfl (by omega) (hkn k (by omega))) (xismC (xKp_r (base := [xO q0 2 [.ref q1, .ref q4, .int (nI kc), .int td, .ref q2, .ref q3], xO q1 0 [.ref a1, .int (nI n)], xA γ a1 12 f, xO q2 0 [.ref a2, .int tn], xA γ a2 12 tf, xO q3 1 [.ref a3, .int wn], xA γ a3 12 wf, xQ γ q4 6 (fun t9 => some (kq t9)), xL γ o 1 h, xO m0 3 [.int th, .int (nI n), .int (nI kc), .int td, .ref m1, .ref m2, .ref m3, .ref m4], xA γ m1 12 f, xA γ m2 12 mt, xA γ m3 72 tg, xA γ m4 14 tp]) (kn := kn) (ks := (xGt tg)) (nb := 14) (t := k) rfl (by omega)) (xismC rfl (xismC rfl (xismC rfl (xismC rfl (xismC rfl (xismC rfl (xismC rfl xismN))))))))) rfl hl.1 rfl (Nat.le_of_ble_eq_true rfl) dL_law_505 ⟨(by omega : _ ≤ 601024), (by omega : _ ≤ 7293034)⟩ (fun r9 w9 H locs hw hP hD hS => ?_)
      obtain ⟨rfl, wn161x, wf162x, rfl⟩ := hw
      rw [xup_2 (xKp_o (base := [xO q0 2 [.ref q1, .ref q4, .int (nI kc), .int td, .ref q2, .ref q3], xO q1 0 [.ref a1, .int (nI n)], xA γ a1 12 f, xO q2 0 [.ref a2, .int tn], xA γ a2 12 tf, xO q3 1 [.ref a3, .int wn], xA γ a3 12 wf, xQ γ q4 6 (fun t9 => some (kq t9)), xL γ o 1 h, xO m0 3 [.int th, .int (nI n), .int (nI kc), .int td, .ref m1, .ref m2, .ref m3, .ref m4], xA γ m1 12 f, xA γ m2 12 mt, xA γ m3 72 tg, xA γ m4 14 tp]) (ks := (xGt tg)) (nb := 14) (t := k) rfl (by omega) (hkn k (by omega))) (xKp_r (base := [xO q0 2 [.ref q1, .ref q4, .int (nI kc), .int td, .ref q2, .ref q3], xO q1 0 [.ref a1, .int (nI n)], xA γ a1 12 f, xO q2 0 [.ref a2, .int tn], xA γ a2 12 tf, xO q3 1 [.ref a3, .int wn], xA γ a3 12 wf, xQ γ q4 6 (fun t9 => some (kq t9)), xL γ o 1 h, xO m0 3 [.int th, .int (nI n), .int (nI kc), .int td, .ref m1, .ref m2, .ref m3, .ref m4], xA γ m1 12 f, xA γ m2 12 mt, xA γ m3 72 tg, xA γ m4 14 tp]) (kn := kn) (ks := (xGt tg)) (nb := 14) (t := k) rfl (by omega))] at hP hD
      have hP : xP γ ([xO q0 2 [.ref q1, .ref q4, .int (nI kc), .int (td + xFew n f (xGt tg k)), .ref q2, .ref q3], xO q1 0 [.ref a1, .int (nI n)], xA γ a1 12 ((xGt tg) k), xO q2 0 [.ref a2, .int tn], xA γ a2 12 tf, xO q3 1 [.ref a3, .int wn161x], xA γ a3 12 wf162x, xQ γ q4 6 (fun t9 => some (kq t9)), xL γ o 1 (vp_updL h 0 (Int32.toInt64 (xFew n f (xGt tg k)))), xO m0 3 [.int th, .int (nI n), .int (nI kc), .int td, .ref m1, .ref m2, .ref m3, .ref m4], xA γ m1 12 f, xA γ m2 12 mt, xA γ m3 72 tg, xA γ m4 14 tp] ++ xKp γ kq ka kn (xGt tg)) H := hP
      have hD : va_D A ([xO q0 2 [.ref q1, .ref q4, .int (nI kc), .int (td + xFew n f (xGt tg k)), .ref q2, .ref q3], xO q1 0 [.ref a1, .int (nI n)], xA γ a1 12 ((xGt tg) k), xO q2 0 [.ref a2, .int tn], xA γ a2 12 tf, xO q3 1 [.ref a3, .int wn161x], xA γ a3 12 wf162x, xQ γ q4 6 (fun t9 => some (kq t9)), xL γ o 1 (vp_updL h 0 (Int32.toInt64 (xFew n f (xGt tg k)))), xO m0 3 [.int th, .int (nI n), .int (nI kc), .int td, .ref m1, .ref m2, .ref m3, .ref m4], xA γ m1 12 f, xA γ m2 12 mt, xA γ m3 72 tg, xA γ m4 14 tp] ++ xKp γ kq ka kn (xGt tg)) := hD
      refine W.eq (g2 := F0 m 508 ls [.int 0]) rfl ?_
      refine lv_istore (lv' := [(5, .int 0), (0, .ref b), (1, .ref q0), (2, .ref m0), (3, .ref o), (4, .int (nI i))]) hx hb dL_law_508 hl (by decide) rfl (fun ls hl => ?_)
      refine lv_aload_n hx hb dL_law_510 rfl (lv_at hl 3 rfl) ?_
      refine lv_aload_n hx hb dL_law_511 rfl (lv_at hl 1 rfl) ?_
      refine lv_iload hx hb dL_law_512 (lv_at hl 5 rfl) ?_
      refine lv_iconst (v := 1) hx hb dL_law_514 (by decide) ?_
      refine lv_iadd hx hb dL_law_515 ?_
      refine x_top (y := nI (i + 1)) (nI_add i 1) ?_
      refine x_sld hx hb hX hbl hbA hS (i + 1) rfl (by omega) (by omega) dL_law_516 ?_
      refine x_top (y := nI k) (e1) ?_
      refine xVM (q0 := 9) (ci := 3) (As := [.int (nI k)]) (rest := []) ⟨hx, hb, hml, hown, hts⟩ (c_X3_reach γ l m0 m1 m2 m3 m4 n kc th td f tg tp k hn0 hn1 hk hkc hfm) (cwV 1 hts gL_law_X3_reach rfl rfl rfl hdv_X3_reach ⟨(Nat.le_of_ble_eq_true rfl), (Nat.le_of_ble_eq_true rfl)⟩) hK hP hD hS hA [9, 10, 12, 13] rfl rfl rfl rfl rfl hl.1 rfl (Nat.le_of_ble_eq_true rfl) dL_law_517 ⟨(by omega : _ ≤ 601024), (by omega : _ ≤ 7293034)⟩ (fun r9 w9 H locs hw hP hD hS => ?_)
      obtain ⟨rfl, h163x, rfl⟩ := hw
      have hP : xP γ ([xO q0 2 [.ref q1, .ref q4, .int (nI kc), .int (td + xFew n f (xGt tg k)), .ref q2, .ref q3], xO q1 0 [.ref a1, .int (nI n)], xA γ a1 12 ((xGt tg) k), xO q2 0 [.ref a2, .int tn], xA γ a2 12 tf, xO q3 1 [.ref a3, .int wn161x], xA γ a3 12 wf162x, xQ γ q4 6 (fun t9 => some (kq t9)), xL γ o 1 (vp_updL h 0 (Int32.toInt64 (xFew n f (xGt tg k)))), xO m0 3 [.int 0, .int (nI n), .int (nI kc), .int (td + xFewM n f (xGt tg k)), .ref m1, .ref m2, .ref m3, .ref m4], xA γ m1 12 (xCp f (xGt tg k) n), xA γ m2 12 mt, xA γ m3 72 tg, xA γ m4 14 h163x] ++ xKp γ kq ka kn (xGt tg)) H := hP
      have hD : va_D A ([xO q0 2 [.ref q1, .ref q4, .int (nI kc), .int (td + xFew n f (xGt tg k)), .ref q2, .ref q3], xO q1 0 [.ref a1, .int (nI n)], xA γ a1 12 ((xGt tg) k), xO q2 0 [.ref a2, .int tn], xA γ a2 12 tf, xO q3 1 [.ref a3, .int wn161x], xA γ a3 12 wf162x, xQ γ q4 6 (fun t9 => some (kq t9)), xL γ o 1 (vp_updL h 0 (Int32.toInt64 (xFew n f (xGt tg k)))), xO m0 3 [.int 0, .int (nI n), .int (nI kc), .int (td + xFewM n f (xGt tg k)), .ref m1, .ref m2, .ref m3, .ref m4], xA γ m1 12 (xCp f (xGt tg k) n), xA γ m2 12 mt, xA γ m3 72 tg, xA γ m4 14 h163x] ++ xKp γ kq ka kn (xGt tg)) := hD
      refine W.eq (g2 := F0 m 520 ls [.int (xFewM n f (xGt tg k))]) rfl ?_
      refine lv_istore (lv' := [(6, .int (xFewM n f (xGt tg k))), (5, .int 0), (0, .ref b), (1, .ref q0), (2, .ref m0), (3, .ref o), (4, .int (nI i))]) hx hb dL_law_520 hl (by decide) rfl (fun ls hl => ?_)
      refine lv_aload_n hx hb dL_law_522 rfl (lv_at hl 4 rfl) ?_
      refine xVR (q0 := 9) (ci := 3) (As := []) (rest := []) (stk := [.int 0]) ⟨hx, hb, hml, hown, hts⟩ (c_X3_thrown γ l m0 m1 m2 m3 m4 n kc 0 (td + xFewM n f (xGt tg k))) (cwV 0 hts gL_law_X3_thrown rfl rfl rfl hdv_X3_thrown ⟨(Nat.le_of_ble_eq_true rfl), (Nat.le_of_ble_eq_true rfl)⟩) hK hP [9] rfl rfl rfl rfl hl.1 rfl (Nat.le_of_ble_eq_true rfl) dL_law_523 ⟨(by omega : _ ≤ 601024), (by omega : _ ≤ 7293034)⟩ rfl ?_
      refine lv_iload hx hb dL_law_526 (lv_at hl 1 rfl) ?_
      refine lv_icmp_eq (tgt := 533) hx hb dL_law_528 (by decide) (fun _ => ?_) (fun c => absurd (rfl) c)
      refine lv_iload hx hb dL_law_533 (lv_at hl 1 rfl) ?_
      refine lv_if_ne (tgt := 550) hx hb dL_law_535 (by decide) (fun c => absurd rfl c) (fun _ => ?_)
      refine lv_aload_n hx hb dL_law_538 rfl (lv_at hl 5 rfl) ?_
      refine lv_iconst (v := 0) hx hb dL_law_539 (by decide) ?_
      refine x_lald (f := vp_updL h 0 (Int32.toInt64 (xFew n f (xGt tg k)))) hx hb hK hP 8 rfl 0 rfl (by decide) (by decide) dL_law_540 ?_
      refine x_topl (y := Int32.toInt64 (xFew n f (xGt tg k))) rfl ?_
      refine lv_iload hx hb dL_law_541 (lv_at hl 0 rfl) ?_
      refine lv_i2l (v := Int32.toInt64 (xFewM n f (xGt tg k))) hx hb dL_law_543 rfl ?_
      refine x_lcmp (by rw [xFew_eq hn0 hn1 hI.f (hI.g k hk)]) hx hb dL_law_544 ?_
      refine lv_if_eq (tgt := 550) hx hb dL_law_545 (by decide) (fun _ => ?_) (fun c => absurd rfl c)
      refine lv_goto (tgt := 1426) hx hb dL_law_550 (by decide) ?_
      rw [xFew_eq hn0 hn1 hI.f (hI.g k hk)] at hP hD
      have hP : xP γ ([xO q0 2 [.ref q1, .ref q4, .int (nI kc), .int (td + xFew n f (xGt tg k)), .ref q2, .ref q3], xO q1 0 [.ref a1, .int (nI n)], xA γ a1 12 ((xGt tg) k), xO q2 0 [.ref a2, .int tn], xA γ a2 12 tf, xO q3 1 [.ref a3, .int wn161x], xA γ a3 12 wf162x, xQ γ q4 6 (fun t9 => some (kq t9)), xL γ o 1 (vp_updL h 0 (Int32.toInt64 (xFew n f (xGt tg k)))), xO m0 3 [.int 0, .int (nI n), .int (nI kc), .int (td + xFew n f (xGt tg k)), .ref m1, .ref m2, .ref m3, .ref m4], xA γ m1 12 (xCp f (xGt tg k) n), xA γ m2 12 mt, xA γ m3 72 tg, xA γ m4 14 h163x] ++ xKp γ kq ka kn (xGt tg)) H := hP
      have hP := xP_row hP 10 rfl (xGt tg k) (fun z hz => xCp_same hI.2.2.2.2.1 (hI.2.2.2.2.2 k hk) hz)
      have hD := xD_row (e := (xA γ m1 12 (xGt tg k)).2) hD 10 rfl
      have hP : xP γ ([xO q0 2 [.ref q1, .ref q4, .int (nI kc), .int (td + xFew n f (xGt tg k)), .ref q2, .ref q3], xO q1 0 [.ref a1, .int (nI n)], xA γ a1 12 (xGt tg k), xO q2 0 [.ref a2, .int tn], xA γ a2 12 tf, xO q3 1 [.ref a3, .int wn161x], xA γ a3 12 wf162x, xQ γ q4 6 (fun t9 => some (kq t9)), xL γ o 1 (vp_updL h 0 (Int32.toInt64 (xFew n f (xGt tg k)))), xO m0 3 [.int 0, .int (nI n), .int (nI kc), .int (td + xFew n f (xGt tg k)), .ref m1, .ref m2, .ref m3, .ref m4], xA γ m1 12 (xGt tg k), xA γ m2 12 mt, xA γ m3 72 tg, xA γ m4 14 h163x] ++ xKp γ kq ka kn (xGt tg)) H := hP
      have hD : va_D A ([xO q0 2 [.ref q1, .ref q4, .int (nI kc), .int (td + xFew n f (xGt tg k)), .ref q2, .ref q3], xO q1 0 [.ref a1, .int (nI n)], xA γ a1 12 (xGt tg k), xO q2 0 [.ref a2, .int tn], xA γ a2 12 tf, xO q3 1 [.ref a3, .int wn161x], xA γ a3 12 wf162x, xQ γ q4 6 (fun t9 => some (kq t9)), xL γ o 1 (vp_updL h 0 (Int32.toInt64 (xFew n f (xGt tg k)))), xO m0 3 [.int 0, .int (nI n), .int (nI kc), .int (td + xFew n f (xGt tg k)), .ref m1, .ref m2, .ref m3, .ref m4], xA γ m1 12 (xGt tg k), xA γ m2 12 mt, xA γ m3 72 tg, xA γ m4 14 h163x] ++ xKp γ kq ka kn (xGt tg)) := hD
      exact K n kc (td + xFew n f (xGt tg k)) 0 tn wn161x (xGt tg k) tf wf162x mt tg h163x (vp_updL h 0 (Int32.toInt64 (xFew n f (xGt tg k)))) kn _ _ d0 _ _ ls hd0 (hI.reach hj hk) (hkn) hP hD hS (by omega) (by omega) (lv_sub hl [2, 3, 4, 5, 6] rfl)
    · have hcb : xCB n f (xGt tg k) = false := by simpa using hcb
      have hfm : xFewM n f (xGt tg k) = -1 := by rw [xFew_eq hn0 hn1 hI.f (hI.g k hk)]; unfold xFew; rw [hcb]; rfl
      refine lv_aload_n hx hb dL_law_497 rfl (lv_at hl 1 rfl) ?_
      refine lv_aload_n hx hb dL_law_498 rfl (lv_at hl 0 rfl) ?_
      refine lv_iload hx hb dL_law_499 (lv_at hl 4 rfl) ?_
      refine lv_iconst (v := 1) hx hb dL_law_501 (by decide) ?_
      refine lv_iadd hx hb dL_law_502 ?_
      refine x_top (y := nI (i + 1)) (nI_add i 1) ?_
      refine x_sld hx hb hX hbl hbA hS (i + 1) rfl (by omega) (by omega) dL_law_503 ?_
      refine x_top (y := nI k) (e1) ?_
      refine lv_aload_n hx hb dL_law_504 rfl (lv_at hl 3 rfl) ?_
      refine xSME (Ex := xW1 sa) (As := [.ref q0, .int (nI k), .ref o]) (rest := []) ⟨hx, hb, hml, hown, hts⟩ (c_L_reach_x2 γ l hlt sa q0 q1 q2 q3 q4 kc td a1 n f kq ka kn (xGt tg) k hn0 hn1 hk hkc hcb o h) (vx_cwSW 3 hts gL_law_L_reach rfl rfl rfl hds_L_reach ⟨(Nat.le_of_ble_eq_true rfl), (Nat.le_of_ble_eq_true rfl)⟩) xW1_blind (fun U hU hW => ⟨xE.at hW hU hEv hEs hEh hS, va_Nc.moved hW.alike hEn.1, va_Nc.moved hW.alike hEn.2⟩) hK hP hD hS hA [14 + 2 * k, 14 + 2 * k + 1, 0, 1, 2, 7, 8] (by simp [va_nd] <;> omega) (xismC (xKp_o (base := [xO q0 2 [.ref q1, .ref q4, .int (nI kc), .int td, .ref q2, .ref q3], xO q1 0 [.ref a1, .int (nI n)], xA γ a1 12 f, xO q2 0 [.ref a2, .int tn], xA γ a2 12 tf, xO q3 1 [.ref a3, .int wn], xA γ a3 12 wf, xQ γ q4 6 (fun t9 => some (kq t9)), xL γ o 1 h, xO m0 3 [.int th, .int (nI n), .int (nI kc), .int td, .ref m1, .ref m2, .ref m3, .ref m4], xA γ m1 12 f, xA γ m2 12 mt, xA γ m3 72 tg, xA γ m4 14 tp]) (ks := (xGt tg)) (nb := 14) (t := k) rfl (by omega) (hkn k (by omega))) (xismC (xKp_r (base := [xO q0 2 [.ref q1, .ref q4, .int (nI kc), .int td, .ref q2, .ref q3], xO q1 0 [.ref a1, .int (nI n)], xA γ a1 12 f, xO q2 0 [.ref a2, .int tn], xA γ a2 12 tf, xO q3 1 [.ref a3, .int wn], xA γ a3 12 wf, xQ γ q4 6 (fun t9 => some (kq t9)), xL γ o 1 h, xO m0 3 [.int th, .int (nI n), .int (nI kc), .int td, .ref m1, .ref m2, .ref m3, .ref m4], xA γ m1 12 f, xA γ m2 12 mt, xA γ m3 72 tg, xA γ m4 14 tp]) (kn := kn) (ks := (xGt tg)) (nb := 14) (t := k) rfl (by omega)) (xismC rfl (xismC rfl (xismC rfl (xismC rfl (xismC rfl xismN))))))) rfl hl.1 rfl (Nat.le_of_ble_eq_true rfl) dL_law_505 ⟨(by omega : _ ≤ 601024), (by omega : _ ≤ 7293034)⟩ (fun r9 w9 H locs hw hP hD hS => ?_)
      obtain ⟨rfl, rfl⟩ := hw
      rw [xup_2 (xKp_o (base := [xO q0 2 [.ref q1, .ref q4, .int (nI kc), .int td, .ref q2, .ref q3], xO q1 0 [.ref a1, .int (nI n)], xA γ a1 12 f, xO q2 0 [.ref a2, .int tn], xA γ a2 12 tf, xO q3 1 [.ref a3, .int wn], xA γ a3 12 wf, xQ γ q4 6 (fun t9 => some (kq t9)), xL γ o 1 h, xO m0 3 [.int th, .int (nI n), .int (nI kc), .int td, .ref m1, .ref m2, .ref m3, .ref m4], xA γ m1 12 f, xA γ m2 12 mt, xA γ m3 72 tg, xA γ m4 14 tp]) (ks := (xGt tg)) (nb := 14) (t := k) rfl (by omega) (hkn k (by omega))) (xKp_r (base := [xO q0 2 [.ref q1, .ref q4, .int (nI kc), .int td, .ref q2, .ref q3], xO q1 0 [.ref a1, .int (nI n)], xA γ a1 12 f, xO q2 0 [.ref a2, .int tn], xA γ a2 12 tf, xO q3 1 [.ref a3, .int wn], xA γ a3 12 wf, xQ γ q4 6 (fun t9 => some (kq t9)), xL γ o 1 h, xO m0 3 [.int th, .int (nI n), .int (nI kc), .int td, .ref m1, .ref m2, .ref m3, .ref m4], xA γ m1 12 f, xA γ m2 12 mt, xA γ m3 72 tg, xA γ m4 14 tp]) (kn := kn) (ks := (xGt tg)) (nb := 14) (t := k) rfl (by omega))] at hP hD
      have hP : xP γ ([xO q0 2 [.ref q1, .ref q4, .int (nI kc), .int td, .ref q2, .ref q3], xO q1 0 [.ref a1, .int (nI n)], xA γ a1 12 f, xO q2 0 [.ref a2, .int tn], xA γ a2 12 tf, xO q3 1 [.ref a3, .int wn], xA γ a3 12 wf, xQ γ q4 6 (fun t9 => some (kq t9)), xL γ o 1 h, xO m0 3 [.int th, .int (nI n), .int (nI kc), .int td, .ref m1, .ref m2, .ref m3, .ref m4], xA γ m1 12 f, xA γ m2 12 mt, xA γ m3 72 tg, xA γ m4 14 tp] ++ xKp γ kq ka kn (xGt tg)) H := hP
      have hD : va_D A ([xO q0 2 [.ref q1, .ref q4, .int (nI kc), .int td, .ref q2, .ref q3], xO q1 0 [.ref a1, .int (nI n)], xA γ a1 12 f, xO q2 0 [.ref a2, .int tn], xA γ a2 12 tf, xO q3 1 [.ref a3, .int wn], xA γ a3 12 wf, xQ γ q4 6 (fun t9 => some (kq t9)), xL γ o 1 h, xO m0 3 [.int th, .int (nI n), .int (nI kc), .int td, .ref m1, .ref m2, .ref m3, .ref m4], xA γ m1 12 f, xA γ m2 12 mt, xA γ m3 72 tg, xA γ m4 14 tp] ++ xKp γ kq ka kn (xGt tg)) := hD
      refine W.eq (g2 := F0 m 508 ls [.int 2]) rfl ?_
      refine lv_istore (lv' := [(5, .int 2), (0, .ref b), (1, .ref q0), (2, .ref m0), (3, .ref o), (4, .int (nI i))]) hx hb dL_law_508 hl (by decide) rfl (fun ls hl => ?_)
      refine lv_aload_n hx hb dL_law_510 rfl (lv_at hl 3 rfl) ?_
      refine lv_aload_n hx hb dL_law_511 rfl (lv_at hl 1 rfl) ?_
      refine lv_iload hx hb dL_law_512 (lv_at hl 5 rfl) ?_
      refine lv_iconst (v := 1) hx hb dL_law_514 (by decide) ?_
      refine lv_iadd hx hb dL_law_515 ?_
      refine x_top (y := nI (i + 1)) (nI_add i 1) ?_
      refine x_sld hx hb hX hbl hbA hS (i + 1) rfl (by omega) (by omega) dL_law_516 ?_
      refine x_top (y := nI k) (e1) ?_
      refine xVM (q0 := 9) (ci := 3) (As := [.int (nI k)]) (rest := []) ⟨hx, hb, hml, hown, hts⟩ (c_X3_reach_x2 γ l m0 m1 m2 m3 m4 n kc th td f tg tp k hn0 hn1 hk hkc hfm) (cwV 1 hts gL_law_X3_reach rfl rfl rfl hdv_X3_reach ⟨(Nat.le_of_ble_eq_true rfl), (Nat.le_of_ble_eq_true rfl)⟩) hK hP hD hS hA [9, 10, 12, 13] rfl rfl rfl rfl rfl hl.1 rfl (Nat.le_of_ble_eq_true rfl) dL_law_517 ⟨(by omega : _ ≤ 601024), (by omega : _ ≤ 7293034)⟩ (fun r9 w9 H locs hw hP hD hS => ?_)
      obtain ⟨rfl, h164x, rfl⟩ := hw
      have hP : xP γ ([xO q0 2 [.ref q1, .ref q4, .int (nI kc), .int td, .ref q2, .ref q3], xO q1 0 [.ref a1, .int (nI n)], xA γ a1 12 f, xO q2 0 [.ref a2, .int tn], xA γ a2 12 tf, xO q3 1 [.ref a3, .int wn], xA γ a3 12 wf, xQ γ q4 6 (fun t9 => some (kq t9)), xL γ o 1 h, xO m0 3 [.int 2, .int (nI n), .int (nI kc), .int td, .ref m1, .ref m2, .ref m3, .ref m4], xA γ m1 12 f, xA γ m2 12 mt, xA γ m3 72 tg, xA γ m4 14 h164x] ++ xKp γ kq ka kn (xGt tg)) H := hP
      have hD : va_D A ([xO q0 2 [.ref q1, .ref q4, .int (nI kc), .int td, .ref q2, .ref q3], xO q1 0 [.ref a1, .int (nI n)], xA γ a1 12 f, xO q2 0 [.ref a2, .int tn], xA γ a2 12 tf, xO q3 1 [.ref a3, .int wn], xA γ a3 12 wf, xQ γ q4 6 (fun t9 => some (kq t9)), xL γ o 1 h, xO m0 3 [.int 2, .int (nI n), .int (nI kc), .int td, .ref m1, .ref m2, .ref m3, .ref m4], xA γ m1 12 f, xA γ m2 12 mt, xA γ m3 72 tg, xA γ m4 14 h164x] ++ xKp γ kq ka kn (xGt tg)) := hD
      refine W.eq (g2 := F0 m 520 ls [.int 0]) rfl ?_
      refine lv_istore (lv' := [(6, .int 0), (5, .int 2), (0, .ref b), (1, .ref q0), (2, .ref m0), (3, .ref o), (4, .int (nI i))]) hx hb dL_law_520 hl (by decide) rfl (fun ls hl => ?_)
      refine lv_aload_n hx hb dL_law_522 rfl (lv_at hl 4 rfl) ?_
      refine xVR (q0 := 9) (ci := 3) (As := []) (rest := []) (stk := [.int 2]) ⟨hx, hb, hml, hown, hts⟩ (c_X3_thrown γ l m0 m1 m2 m3 m4 n kc 2 td) (cwV 0 hts gL_law_X3_thrown rfl rfl rfl hdv_X3_thrown ⟨(Nat.le_of_ble_eq_true rfl), (Nat.le_of_ble_eq_true rfl)⟩) hK hP [9] rfl rfl rfl rfl hl.1 rfl (Nat.le_of_ble_eq_true rfl) dL_law_523 ⟨(by omega : _ ≤ 601024), (by omega : _ ≤ 7293034)⟩ rfl ?_
      refine lv_iload hx hb dL_law_526 (lv_at hl 1 rfl) ?_
      refine lv_icmp_eq (tgt := 533) hx hb dL_law_528 (by decide) (fun _ => ?_) (fun c => absurd (rfl) c)
      refine lv_iload hx hb dL_law_533 (lv_at hl 1 rfl) ?_
      refine lv_if_ne (tgt := 550) hx hb dL_law_535 (by decide) (fun _ => ?_) (fun c => absurd c (by decide))
      refine lv_goto (tgt := 1426) hx hb dL_law_550 (by decide) ?_
      exact K n kc td 2 tn wn f tf wf mt tg h164x h kn _ _ d0 _ _ ls hd0 (hI.same hj) (hkn) hP hD hS (by omega) (by omega) (lv_sub hl [2, 3, 4, 5, 6] rfl)
  · have hxb : xInB (xs (i + 1)) 0 (nI kc - 1) = false := by simpa using hp
    refine lv_aload_n hx hb dL_law_497 rfl (lv_at hl 1 rfl) ?_
    refine lv_aload_n hx hb dL_law_498 rfl (lv_at hl 0 rfl) ?_
    refine lv_iload hx hb dL_law_499 (lv_at hl 4 rfl) ?_
    refine lv_iconst (v := 1) hx hb dL_law_501 (by decide) ?_
    refine lv_iadd hx hb dL_law_502 ?_
    refine x_top (y := nI (i + 1)) (nI_add i 1) ?_
    refine x_sld hx hb hX hbl hbA hS (i + 1) rfl (by omega) (by omega) dL_law_503 ?_
    refine lv_aload_n hx hb dL_law_504 rfl (lv_at hl 3 rfl) ?_
    refine xSME (Ex := xW1 sa) (As := [.ref q0, .int (xs (i + 1)), .ref o]) (rest := []) ⟨hx, hb, hml, hown, hts⟩ (c_L_reach_x1 γ l hlt sa q0 q1 q2 q3 q4 kc td kq (xs (i + 1)) hkc hxb o h) (vx_cwSW 3 hts gL_law_L_reach rfl rfl rfl hds_L_reach ⟨(Nat.le_of_ble_eq_true rfl), (Nat.le_of_ble_eq_true rfl)⟩) xW1_blind (fun U hU hW => ⟨xE.at hW hU hEv hEs hEh hS, va_Nc.moved hW.alike hEn.1, va_Nc.moved hW.alike hEn.2⟩) hK hP hD hS hA [0, 7, 8] rfl rfl rfl hl.1 rfl (Nat.le_of_ble_eq_true rfl) dL_law_505 ⟨(by omega : _ ≤ 601024), (by omega : _ ≤ 7293034)⟩ (fun r9 w9 H locs hw hP hD hS => ?_)
    obtain ⟨rfl, rfl⟩ := hw
    have hP : xP γ ([xO q0 2 [.ref q1, .ref q4, .int (nI kc), .int td, .ref q2, .ref q3], xO q1 0 [.ref a1, .int (nI n)], xA γ a1 12 f, xO q2 0 [.ref a2, .int tn], xA γ a2 12 tf, xO q3 1 [.ref a3, .int wn], xA γ a3 12 wf, xQ γ q4 6 (fun t9 => some (kq t9)), xL γ o 1 h, xO m0 3 [.int th, .int (nI n), .int (nI kc), .int td, .ref m1, .ref m2, .ref m3, .ref m4], xA γ m1 12 f, xA γ m2 12 mt, xA γ m3 72 tg, xA γ m4 14 tp] ++ xKp γ kq ka kn (xGt tg)) H := hP
    have hD : va_D A ([xO q0 2 [.ref q1, .ref q4, .int (nI kc), .int td, .ref q2, .ref q3], xO q1 0 [.ref a1, .int (nI n)], xA γ a1 12 f, xO q2 0 [.ref a2, .int tn], xA γ a2 12 tf, xO q3 1 [.ref a3, .int wn], xA γ a3 12 wf, xQ γ q4 6 (fun t9 => some (kq t9)), xL γ o 1 h, xO m0 3 [.int th, .int (nI n), .int (nI kc), .int td, .ref m1, .ref m2, .ref m3, .ref m4], xA γ m1 12 f, xA γ m2 12 mt, xA γ m3 72 tg, xA γ m4 14 tp] ++ xKp γ kq ka kn (xGt tg)) := hD
    refine W.eq (g2 := F0 m 508 ls [.int 1]) rfl ?_
    refine lv_istore (lv' := [(5, .int 1), (0, .ref b), (1, .ref q0), (2, .ref m0), (3, .ref o), (4, .int (nI i))]) hx hb dL_law_508 hl (by decide) rfl (fun ls hl => ?_)
    refine lv_aload_n hx hb dL_law_510 rfl (lv_at hl 3 rfl) ?_
    refine lv_aload_n hx hb dL_law_511 rfl (lv_at hl 1 rfl) ?_
    refine lv_iload hx hb dL_law_512 (lv_at hl 5 rfl) ?_
    refine lv_iconst (v := 1) hx hb dL_law_514 (by decide) ?_
    refine lv_iadd hx hb dL_law_515 ?_
    refine x_top (y := nI (i + 1)) (nI_add i 1) ?_
    refine x_sld hx hb hX hbl hbA hS (i + 1) rfl (by omega) (by omega) dL_law_516 ?_
    refine xVM (q0 := 9) (ci := 3) (As := [.int (xs (i + 1))]) (rest := []) ⟨hx, hb, hml, hown, hts⟩ (c_X3_reach_x1 γ l m0 m1 m2 m3 m4 n kc th td (xs (i + 1)) hxb) (cwV 1 hts gL_law_X3_reach rfl rfl rfl hdv_X3_reach ⟨(Nat.le_of_ble_eq_true rfl), (Nat.le_of_ble_eq_true rfl)⟩) hK hP hD hS hA [9] rfl rfl rfl rfl rfl hl.1 rfl (Nat.le_of_ble_eq_true rfl) dL_law_517 ⟨(by omega : _ ≤ 601024), (by omega : _ ≤ 7293034)⟩ (fun r9 w9 H locs hw hP hD hS => ?_)
    obtain ⟨rfl, rfl⟩ := hw
    have hP : xP γ ([xO q0 2 [.ref q1, .ref q4, .int (nI kc), .int td, .ref q2, .ref q3], xO q1 0 [.ref a1, .int (nI n)], xA γ a1 12 f, xO q2 0 [.ref a2, .int tn], xA γ a2 12 tf, xO q3 1 [.ref a3, .int wn], xA γ a3 12 wf, xQ γ q4 6 (fun t9 => some (kq t9)), xL γ o 1 h, xO m0 3 [.int 1, .int (nI n), .int (nI kc), .int td, .ref m1, .ref m2, .ref m3, .ref m4], xA γ m1 12 f, xA γ m2 12 mt, xA γ m3 72 tg, xA γ m4 14 tp] ++ xKp γ kq ka kn (xGt tg)) H := hP
    have hD : va_D A ([xO q0 2 [.ref q1, .ref q4, .int (nI kc), .int td, .ref q2, .ref q3], xO q1 0 [.ref a1, .int (nI n)], xA γ a1 12 f, xO q2 0 [.ref a2, .int tn], xA γ a2 12 tf, xO q3 1 [.ref a3, .int wn], xA γ a3 12 wf, xQ γ q4 6 (fun t9 => some (kq t9)), xL γ o 1 h, xO m0 3 [.int 1, .int (nI n), .int (nI kc), .int td, .ref m1, .ref m2, .ref m3, .ref m4], xA γ m1 12 f, xA γ m2 12 mt, xA γ m3 72 tg, xA γ m4 14 tp] ++ xKp γ kq ka kn (xGt tg)) := hD
    refine W.eq (g2 := F0 m 520 ls [.int 0]) rfl ?_
    refine lv_istore (lv' := [(6, .int 0), (5, .int 1), (0, .ref b), (1, .ref q0), (2, .ref m0), (3, .ref o), (4, .int (nI i))]) hx hb dL_law_520 hl (by decide) rfl (fun ls hl => ?_)
    refine lv_aload_n hx hb dL_law_522 rfl (lv_at hl 4 rfl) ?_
    refine xVR (q0 := 9) (ci := 3) (As := []) (rest := []) (stk := [.int 1]) ⟨hx, hb, hml, hown, hts⟩ (c_X3_thrown γ l m0 m1 m2 m3 m4 n kc 1 td) (cwV 0 hts gL_law_X3_thrown rfl rfl rfl hdv_X3_thrown ⟨(Nat.le_of_ble_eq_true rfl), (Nat.le_of_ble_eq_true rfl)⟩) hK hP [9] rfl rfl rfl rfl hl.1 rfl (Nat.le_of_ble_eq_true rfl) dL_law_523 ⟨(by omega : _ ≤ 601024), (by omega : _ ≤ 7293034)⟩ rfl ?_
    refine lv_iload hx hb dL_law_526 (lv_at hl 1 rfl) ?_
    refine lv_icmp_eq (tgt := 533) hx hb dL_law_528 (by decide) (fun _ => ?_) (fun c => absurd (rfl) c)
    refine lv_iload hx hb dL_law_533 (lv_at hl 1 rfl) ?_
    refine lv_if_ne (tgt := 550) hx hb dL_law_535 (by decide) (fun _ => ?_) (fun c => absurd c (by decide))
    refine lv_goto (tgt := 1426) hx hb dL_law_550 (by decide) ?_
    exact K n kc td 1 tn wn f tf wf mt tg tp h kn _ _ d0 _ _ ls hd0 (hI.same hj) (hkn) hP hD hS (by omega) (by omega) (lv_sub hl [2, 3, 4, 5, 6] rfl)

theorem hdv_X3_places : yX3_places.cls = RX3 ∧ yX3_places.cls ≠ "java/lang/invoke/MethodHandle" ∧ yX3_places.cls ≠ "java/lang/invoke/VarHandle" ∧ (parseMethodDescriptor yX3_places.desc).map (fun d => d.parameters.length) = some 0 := by decide +kernel
set_option maxHeartbeats 4000000 in
set_option maxRecDepth 100000 in
theorem xcase_places {p : Program} {e : Env} {s : State} {m : MethodId} {below : List Frame} {meth : Method} {c : Code} (l : Launch) (hlt : l.stackTraces = false) {b L : Nat} {xs : Nat → Int32} (hL : L ≤ 1536) (C0 : lw_At p s m meth c b L xs) {γ : xG} (hK : xK γ s) (sa : Nat → Nat) (hEv : xEv s) (hEs : xEs sa s) (hEn : xEn s) {A : Nat → Prop} (hA : ∀ q : Nat, s.heap.size ≤ q → A q) (hbA : ¬ A b) (hEh : xEh A s s.heap) (q0 q1 a1 q2 a2 q3 a3 q4 o m0 m1 m2 m3 m4 : Nat) (kq ka : Nat → Nat) (j i : Nat) (hj : j < 512) (hi : i + 2 < L) (K : xK9 p l e s m below meth c b γ A q0 q1 a1 q2 a2 q3 a3 q4 o m0 m1 m2 m3 m4 kq ka (j + 1) i) (n kc : Nat) (td th tn wn : Int32) (f tf wf mt tg tp : xRow) (h : Nat → Int64) (kn : Nat → Int32) (H : Heap) (locs : List Loc) (d0 : Drawn) (cells slots : Nat) (ls : Array Slot) (hd0 : s.drawn.sameBut d0 lw_cs) (hI : xInv j n kc f tg) (hkn : ∀ t, t < kc → kn t = nI n) (hP : xP γ (LW γ q0 q1 a1 q2 a2 q3 a3 q4 o m0 m1 m2 m3 m4 kq ka n kc td th tn wn f tf wf mt tg tp h kn) H) (hD : va_D A (LW γ q0 q1 a1 q2 a2 q3 a3 q4 o m0 m1 m2 m3 m4 kq ka n kc td th tn wn f tf wf mt tg tp h kn)) (hS : va_S A s.heap H locs) (hc : cells ≤ 26 + j) (hs : slots ≤ 257 + 17 * j) (hl : lv_has ls 9 [(0, .ref b), (1, .ref q0), (2, .ref m0), (3, .ref o), (4, .int (nI i))]) : W p l e room_1 (s.setDrawn d0) m #[Value.ref b] below meth c H locs cells slots (lw_Z below #[Value.ref b] s) (F0 m 553 ls []) := by
  obtain ⟨hx, hb, hr, hml, hown, hts0, hX, hbl, hlocks, hgv⟩ := id C0
  have hts : ∀ w ∈ wsL_law, w.before #[Value.ref b] (s.setDrawn d0) = true := fun w h => dr_words hts0 d0 w (wsL_law_in w h)
  have hown : s.vm.findClass RL = some m.cls := hown
  have hX : va_X b L xs (s.setDrawn d0) s.heap := va_X.moved (u := s) (U := s.setDrawn d0) (Vm.Alike.refl s.vm) hX
  have hK : xK γ (s.setDrawn d0) := va_K.moved (u := s) (U := s.setDrawn d0) (Vm.Alike.refl s.vm) hK
  have hn0 := hI.1
  have hn1 := hI.2.1
  have hkc := hI.2.2.1
  have hP : xP γ ([xO q0 2 [.ref q1, .ref q4, .int (nI kc), .int td, .ref q2, .ref q3], xO q1 0 [.ref a1, .int (nI n)], xA γ a1 12 f, xO q2 0 [.ref a2, .int tn], xA γ a2 12 tf, xO q3 1 [.ref a3, .int wn], xA γ a3 12 wf, xQ γ q4 6 (fun t9 => some (kq t9)), xL γ o 1 h, xO m0 3 [.int th, .int (nI n), .int (nI kc), .int td, .ref m1, .ref m2, .ref m3, .ref m4], xA γ m1 12 f, xA γ m2 12 mt, xA γ m3 72 tg, xA γ m4 14 tp] ++ xKp γ kq ka kn (xGt tg)) H := hP
  have hD : va_D A ([xO q0 2 [.ref q1, .ref q4, .int (nI kc), .int td, .ref q2, .ref q3], xO q1 0 [.ref a1, .int (nI n)], xA γ a1 12 f, xO q2 0 [.ref a2, .int tn], xA γ a2 12 tf, xO q3 1 [.ref a3, .int wn], xA γ a3 12 wf, xQ γ q4 6 (fun t9 => some (kq t9)), xL γ o 1 h, xO m0 3 [.int th, .int (nI n), .int (nI kc), .int td, .ref m1, .ref m2, .ref m3, .ref m4], xA γ m1 12 f, xA γ m2 12 mt, xA γ m3 72 tg, xA γ m4 14 tp] ++ xKp γ kq ka kn (xGt tg)) := hD
  refine lv_aload_n hx hb dL_law_553 rfl (lv_at hl 1 rfl) ?_
  refine xVR (q0 := 0) (ci := 2) (As := []) (rest := []) (stk := [.int (nI n)]) ⟨hx, hb, hml, hown, hts⟩ (c_X2_places γ l q0 q1 q2 q3 q4 kc td a1 n f (by omega) (by omega)) (cwV 0 hts gL_law_X2_places rfl rfl rfl hdv_X2_places ⟨(Nat.le_of_ble_eq_true rfl), (Nat.le_of_ble_eq_true rfl)⟩) hK hP [0, 1, 2] rfl rfl rfl rfl hl.1 rfl (Nat.le_of_ble_eq_true rfl) dL_law_554 ⟨(by omega : _ ≤ 601024), (by omega : _ ≤ 7293034)⟩ rfl ?_
  refine lv_aload_n hx hb dL_law_557 rfl (lv_at hl 2 rfl) ?_
  refine xVM (q0 := 9) (ci := 3) (As := []) (rest := [.int (nI n)]) ⟨hx, hb, hml, hown, hts⟩ (c_X3_places γ l m0 m1 m2 m3 m4 n kc th td) (cwV 0 hts gL_law_X3_places rfl rfl rfl hdv_X3_places ⟨(Nat.le_of_ble_eq_true rfl), (Nat.le_of_ble_eq_true rfl)⟩) hK hP hD hS hA [9] rfl rfl rfl rfl rfl hl.1 rfl (Nat.le_of_ble_eq_true rfl) dL_law_558 ⟨(by omega : _ ≤ 601024), (by omega : _ ≤ 7293034)⟩ (fun r9 w9 H locs hw hP hD hS => ?_)
  obtain ⟨rfl, rfl⟩ := hw
  have hP : xP γ ([xO q0 2 [.ref q1, .ref q4, .int (nI kc), .int td, .ref q2, .ref q3], xO q1 0 [.ref a1, .int (nI n)], xA γ a1 12 f, xO q2 0 [.ref a2, .int tn], xA γ a2 12 tf, xO q3 1 [.ref a3, .int wn], xA γ a3 12 wf, xQ γ q4 6 (fun t9 => some (kq t9)), xL γ o 1 h, xO m0 3 [.int 0, .int (nI n), .int (nI kc), .int td, .ref m1, .ref m2, .ref m3, .ref m4], xA γ m1 12 f, xA γ m2 12 mt, xA γ m3 72 tg, xA γ m4 14 tp] ++ xKp γ kq ka kn (xGt tg)) H := hP
  have hD : va_D A ([xO q0 2 [.ref q1, .ref q4, .int (nI kc), .int td, .ref q2, .ref q3], xO q1 0 [.ref a1, .int (nI n)], xA γ a1 12 f, xO q2 0 [.ref a2, .int tn], xA γ a2 12 tf, xO q3 1 [.ref a3, .int wn], xA γ a3 12 wf, xQ γ q4 6 (fun t9 => some (kq t9)), xL γ o 1 h, xO m0 3 [.int 0, .int (nI n), .int (nI kc), .int td, .ref m1, .ref m2, .ref m3, .ref m4], xA γ m1 12 f, xA γ m2 12 mt, xA γ m3 72 tg, xA γ m4 14 tp] ++ xKp γ kq ka kn (xGt tg)) := hD
  refine W.eq (g2 := F0 m 561 ls [.int (nI n), .int (nI n)]) rfl ?_
  refine lv_icmp_eq (tgt := 1426) hx hb dL_law_561 (by decide) (fun _ => ?_) (fun c => absurd (rfl) c)
  exact K n kc td 0 tn wn f tf wf mt tg tp h kn _ _ d0 _ _ ls hd0 (hI.same hj) (hkn) hP hD hS (by omega) (by omega) (lv_sub hl [0, 1, 2, 3, 4] rfl)

theorem hds_L_numberAt : yL_numberAt.cls ≠ "java/lang/invoke/MethodHandle" ∧ yL_numberAt.cls ≠ "java/lang/invoke/VarHandle" ∧ (parseMethodDescriptor yL_numberAt.desc).map (fun d => d.parameters.length) = some 3 := by decide +kernel
theorem hdv_X3_numberAt : yX3_numberAt.cls = RX3 ∧ yX3_numberAt.cls ≠ "java/lang/invoke/MethodHandle" ∧ yX3_numberAt.cls ≠ "java/lang/invoke/VarHandle" ∧ (parseMethodDescriptor yX3_numberAt.desc).map (fun d => d.parameters.length) = some 1 := by decide +kernel
set_option maxHeartbeats 4000000 in
set_option maxRecDepth 100000 in
theorem xcase_numberAt {p : Program} {e : Env} {s : State} {m : MethodId} {below : List Frame} {meth : Method} {c : Code} (l : Launch) (hlt : l.stackTraces = false) {b L : Nat} {xs : Nat → Int32} (hL : L ≤ 1536) (C0 : lw_At p s m meth c b L xs) {γ : xG} (hK : xK γ s) (sa : Nat → Nat) (hEv : xEv s) (hEs : xEs sa s) (hEn : xEn s) {A : Nat → Prop} (hA : ∀ q : Nat, s.heap.size ≤ q → A q) (hbA : ¬ A b) (hEh : xEh A s s.heap) (q0 q1 a1 q2 a2 q3 a3 q4 o m0 m1 m2 m3 m4 : Nat) (kq ka : Nat → Nat) (j i : Nat) (hj : j < 512) (hi : i + 2 < L) (K : xK9 p l e s m below meth c b γ A q0 q1 a1 q2 a2 q3 a3 q4 o m0 m1 m2 m3 m4 kq ka (j + 1) i) (n kc : Nat) (td th tn wn : Int32) (f tf wf mt tg tp : xRow) (h : Nat → Int64) (kn : Nat → Int32) (H : Heap) (locs : List Loc) (d0 : Drawn) (cells slots : Nat) (ls : Array Slot) (hd0 : s.drawn.sameBut d0 lw_cs) (hI : xInv j n kc f tg) (hkn : ∀ t, t < kc → kn t = nI n) (hP : xP γ (LW γ q0 q1 a1 q2 a2 q3 a3 q4 o m0 m1 m2 m3 m4 kq ka n kc td th tn wn f tf wf mt tg tp h kn) H) (hD : va_D A (LW γ q0 q1 a1 q2 a2 q3 a3 q4 o m0 m1 m2 m3 m4 kq ka n kc td th tn wn f tf wf mt tg tp h kn)) (hS : va_S A s.heap H locs) (hc : cells ≤ 26 + j) (hs : slots ≤ 257 + 17 * j) (hl : lv_has ls 9 [(0, .ref b), (1, .ref q0), (2, .ref m0), (3, .ref o), (4, .int (nI i))]) : W p l e room_1 (s.setDrawn d0) m #[Value.ref b] below meth c H locs cells slots (lw_Z below #[Value.ref b] s) (F0 m 566 ls []) := by
  obtain ⟨hx, hb, hr, hml, hown, hts0, hX, hbl, hlocks, hgv⟩ := id C0
  have hts : ∀ w ∈ wsL_law, w.before #[Value.ref b] (s.setDrawn d0) = true := fun w h => dr_words hts0 d0 w (wsL_law_in w h)
  have hown : s.vm.findClass RL = some m.cls := hown
  have hX : va_X b L xs (s.setDrawn d0) s.heap := va_X.moved (u := s) (U := s.setDrawn d0) (Vm.Alike.refl s.vm) hX
  have hK : xK γ (s.setDrawn d0) := va_K.moved (u := s) (U := s.setDrawn d0) (Vm.Alike.refl s.vm) hK
  have hn0 := hI.1
  have hn1 := hI.2.1
  have hkc := hI.2.2.1
  have hP : xP γ ([xO q0 2 [.ref q1, .ref q4, .int (nI kc), .int td, .ref q2, .ref q3], xO q1 0 [.ref a1, .int (nI n)], xA γ a1 12 f, xO q2 0 [.ref a2, .int tn], xA γ a2 12 tf, xO q3 1 [.ref a3, .int wn], xA γ a3 12 wf, xQ γ q4 6 (fun t9 => some (kq t9)), xL γ o 1 h, xO m0 3 [.int th, .int (nI n), .int (nI kc), .int td, .ref m1, .ref m2, .ref m3, .ref m4], xA γ m1 12 f, xA γ m2 12 mt, xA γ m3 72 tg, xA γ m4 14 tp] ++ xKp γ kq ka kn (xGt tg)) H := hP
  have hD : va_D A ([xO q0 2 [.ref q1, .ref q4, .int (nI kc), .int td, .ref q2, .ref q3], xO q1 0 [.ref a1, .int (nI n)], xA γ a1 12 f, xO q2 0 [.ref a2, .int tn], xA γ a2 12 tf, xO q3 1 [.ref a3, .int wn], xA γ a3 12 wf, xQ γ q4 6 (fun t9 => some (kq t9)), xL γ o 1 h, xO m0 3 [.int th, .int (nI n), .int (nI kc), .int td, .ref m1, .ref m2, .ref m3, .ref m4], xA γ m1 12 f, xA γ m2 12 mt, xA γ m3 72 tg, xA γ m4 14 tp] ++ xKp γ kq ka kn (xGt tg)) := hD
  by_cases hp : xInB (xs (i + 1)) 0 (nI n - 1) = true
  · obtain ⟨k, hk, e1⟩ := xInB_pl hn1 hp
    refine lv_aload_n hx hb dL_law_566 rfl (lv_at hl 1 rfl) ?_
    refine lv_aload_n hx hb dL_law_567 rfl (lv_at hl 0 rfl) ?_
    refine lv_iload hx hb dL_law_568 (lv_at hl 4 rfl) ?_
    refine lv_iconst (v := 1) hx hb dL_law_570 (by decide) ?_
    refine lv_iadd hx hb dL_law_571 ?_
    refine x_top (y := nI (i + 1)) (nI_add i 1) ?_
    refine x_sld hx hb hX hbl hbA hS (i + 1) rfl (by omega) (by omega) dL_law_572 ?_
    refine x_top (y := nI k) (e1) ?_
    refine lv_aload_n hx hb dL_law_573 rfl (lv_at hl 3 rfl) ?_
    refine xSME (Ex := fun _ => True) (As := [.ref q0, .int (nI k), .ref o]) (rest := []) ⟨hx, hb, hml, hown, hts⟩ (c_L_numberAt γ l q0 q1 q2 q3 q4 kc td a1 n f k hn0 hn1 hk o h) (vx_cwSW 3 hts gL_law_L_numberAt rfl rfl rfl hds_L_numberAt ⟨(Nat.le_of_ble_eq_true rfl), (Nat.le_of_ble_eq_true rfl)⟩) (fun _ _ _ _ h => h) (fun _ _ _ => trivial) hK hP hD hS hA [0, 1, 2, 8] rfl rfl rfl hl.1 rfl (Nat.le_of_ble_eq_true rfl) dL_law_574 ⟨(by omega : _ ≤ 601024), (by omega : _ ≤ 7293034)⟩ (fun r9 w9 H locs hw hP hD hS => ?_)
    obtain ⟨rfl, rfl⟩ := hw
    have hP : xP γ ([xO q0 2 [.ref q1, .ref q4, .int (nI kc), .int td, .ref q2, .ref q3], xO q1 0 [.ref a1, .int (nI n)], xA γ a1 12 f, xO q2 0 [.ref a2, .int tn], xA γ a2 12 tf, xO q3 1 [.ref a3, .int wn], xA γ a3 12 wf, xQ γ q4 6 (fun t9 => some (kq t9)), xL γ o 1 (vp_updL h 0 (Int32.toInt64 (f k))), xO m0 3 [.int th, .int (nI n), .int (nI kc), .int td, .ref m1, .ref m2, .ref m3, .ref m4], xA γ m1 12 f, xA γ m2 12 mt, xA γ m3 72 tg, xA γ m4 14 tp] ++ xKp γ kq ka kn (xGt tg)) H := hP
    have hD : va_D A ([xO q0 2 [.ref q1, .ref q4, .int (nI kc), .int td, .ref q2, .ref q3], xO q1 0 [.ref a1, .int (nI n)], xA γ a1 12 f, xO q2 0 [.ref a2, .int tn], xA γ a2 12 tf, xO q3 1 [.ref a3, .int wn], xA γ a3 12 wf, xQ γ q4 6 (fun t9 => some (kq t9)), xL γ o 1 (vp_updL h 0 (Int32.toInt64 (f k))), xO m0 3 [.int th, .int (nI n), .int (nI kc), .int td, .ref m1, .ref m2, .ref m3, .ref m4], xA γ m1 12 f, xA γ m2 12 mt, xA γ m3 72 tg, xA γ m4 14 tp] ++ xKp γ kq ka kn (xGt tg)) := hD
    refine W.eq (g2 := F0 m 577 ls [.int 0]) rfl ?_
    refine lv_istore (lv' := [(5, .int 0), (0, .ref b), (1, .ref q0), (2, .ref m0), (3, .ref o), (4, .int (nI i))]) hx hb dL_law_577 hl (by decide) rfl (fun ls hl => ?_)
    refine lv_aload_n hx hb dL_law_579 rfl (lv_at hl 3 rfl) ?_
    refine lv_aload_n hx hb dL_law_580 rfl (lv_at hl 1 rfl) ?_
    refine lv_iload hx hb dL_law_581 (lv_at hl 5 rfl) ?_
    refine lv_iconst (v := 1) hx hb dL_law_583 (by decide) ?_
    refine lv_iadd hx hb dL_law_584 ?_
    refine x_top (y := nI (i + 1)) (nI_add i 1) ?_
    refine x_sld hx hb hX hbl hbA hS (i + 1) rfl (by omega) (by omega) dL_law_585 ?_
    refine x_top (y := nI k) (e1) ?_
    refine xVM (q0 := 9) (ci := 3) (As := [.int (nI k)]) (rest := []) ⟨hx, hb, hml, hown, hts⟩ (c_X3_numberAt γ l m0 m1 m2 m3 m4 n kc th td f k hn0 hn1 hk) (cwV 1 hts gL_law_X3_numberAt rfl rfl rfl hdv_X3_numberAt ⟨(Nat.le_of_ble_eq_true rfl), (Nat.le_of_ble_eq_true rfl)⟩) hK hP hD hS hA [9, 10] rfl rfl rfl rfl rfl hl.1 rfl (Nat.le_of_ble_eq_true rfl) dL_law_586 ⟨(by omega : _ ≤ 601024), (by omega : _ ≤ 7293034)⟩ (fun r9 w9 H locs hw hP hD hS => ?_)
    obtain ⟨rfl, rfl⟩ := hw
    have hP : xP γ ([xO q0 2 [.ref q1, .ref q4, .int (nI kc), .int td, .ref q2, .ref q3], xO q1 0 [.ref a1, .int (nI n)], xA γ a1 12 f, xO q2 0 [.ref a2, .int tn], xA γ a2 12 tf, xO q3 1 [.ref a3, .int wn], xA γ a3 12 wf, xQ γ q4 6 (fun t9 => some (kq t9)), xL γ o 1 (vp_updL h 0 (Int32.toInt64 (f k))), xO m0 3 [.int 0, .int (nI n), .int (nI kc), .int td, .ref m1, .ref m2, .ref m3, .ref m4], xA γ m1 12 f, xA γ m2 12 mt, xA γ m3 72 tg, xA γ m4 14 tp] ++ xKp γ kq ka kn (xGt tg)) H := hP
    have hD : va_D A ([xO q0 2 [.ref q1, .ref q4, .int (nI kc), .int td, .ref q2, .ref q3], xO q1 0 [.ref a1, .int (nI n)], xA γ a1 12 f, xO q2 0 [.ref a2, .int tn], xA γ a2 12 tf, xO q3 1 [.ref a3, .int wn], xA γ a3 12 wf, xQ γ q4 6 (fun t9 => some (kq t9)), xL γ o 1 (vp_updL h 0 (Int32.toInt64 (f k))), xO m0 3 [.int 0, .int (nI n), .int (nI kc), .int td, .ref m1, .ref m2, .ref m3, .ref m4], xA γ m1 12 f, xA γ m2 12 mt, xA γ m3 72 tg, xA γ m4 14 tp] ++ xKp γ kq ka kn (xGt tg)) := hD
    refine W.eq (g2 := F0 m 589 ls [.int (f k)]) rfl ?_
    refine lv_istore (lv' := [(6, .int (f k)), (5, .int 0), (0, .ref b), (1, .ref q0), (2, .ref m0), (3, .ref o), (4, .int (nI i))]) hx hb dL_law_589 hl (by decide) rfl (fun ls hl => ?_)
    refine lv_aload_n hx hb dL_law_591 rfl (lv_at hl 4 rfl) ?_
    refine xVR (q0 := 9) (ci := 3) (As := []) (rest := []) (stk := [.int 0]) ⟨hx, hb, hml, hown, hts⟩ (c_X3_thrown γ l m0 m1 m2 m3 m4 n kc 0 td) (cwV 0 hts gL_law_X3_thrown rfl rfl rfl hdv_X3_thrown ⟨(Nat.le_of_ble_eq_true rfl), (Nat.le_of_ble_eq_true rfl)⟩) hK hP [9] rfl rfl rfl rfl hl.1 rfl (Nat.le_of_ble_eq_true rfl) dL_law_592 ⟨(by omega : _ ≤ 601024), (by omega : _ ≤ 7293034)⟩ rfl ?_
    refine lv_iload hx hb dL_law_595 (lv_at hl 1 rfl) ?_
    refine lv_icmp_eq (tgt := 602) hx hb dL_law_597 (by decide) (fun _ => ?_) (fun c => absurd (rfl) c)
    refine lv_iload hx hb dL_law_602 (lv_at hl 1 rfl) ?_
    refine lv_if_ne (tgt := 619) hx hb dL_law_604 (by decide) (fun c => absurd rfl c) (fun _ => ?_)
    refine lv_aload_n hx hb dL_law_607 rfl (lv_at hl 5 rfl) ?_
    refine lv_iconst (v := 0) hx hb dL_law_608 (by decide) ?_
    refine x_lald (f := vp_updL h 0 (Int32.toInt64 (f k))) hx hb hK hP 8 rfl 0 rfl (by decide) (by decide) dL_law_609 ?_
    refine x_topl (y := Int32.toInt64 (f k)) rfl ?_
    refine lv_iload hx hb dL_law_610 (lv_at hl 0 rfl) ?_
    refine lv_i2l (v := Int32.toInt64 (f k)) hx hb dL_law_612 rfl ?_
    refine x_lcmp (rfl) hx hb dL_law_613 ?_
    refine lv_if_eq (tgt := 619) hx hb dL_law_614 (by decide) (fun _ => ?_) (fun c => absurd rfl c)
    refine lv_goto (tgt := 1426) hx hb dL_law_619 (by decide) ?_
    exact K n kc td 0 tn wn f tf wf mt tg tp (vp_updL h 0 (Int32.toInt64 (f k))) kn _ _ d0 _ _ ls hd0 (hI.same hj) (hkn) hP hD hS (by omega) (by omega) (lv_sub hl [2, 3, 4, 5, 6] rfl)
  · have hxb : xInB (xs (i + 1)) 0 (nI n - 1) = false := by simpa using hp
    refine lv_aload_n hx hb dL_law_566 rfl (lv_at hl 1 rfl) ?_
    refine lv_aload_n hx hb dL_law_567 rfl (lv_at hl 0 rfl) ?_
    refine lv_iload hx hb dL_law_568 (lv_at hl 4 rfl) ?_
    refine lv_iconst (v := 1) hx hb dL_law_570 (by decide) ?_
    refine lv_iadd hx hb dL_law_571 ?_
    refine x_top (y := nI (i + 1)) (nI_add i 1) ?_
    refine x_sld hx hb hX hbl hbA hS (i + 1) rfl (by omega) (by omega) dL_law_572 ?_
    refine lv_aload_n hx hb dL_law_573 rfl (lv_at hl 3 rfl) ?_
    refine xSME (Ex := xW1 sa) (As := [.ref q0, .int (xs (i + 1)), .ref o]) (rest := []) ⟨hx, hb, hml, hown, hts⟩ (c_L_numberAt_x γ l hlt sa q0 q1 q2 q3 q4 kc td a1 n f (xs (i + 1)) hn0 hn1 hxb o h) (vx_cwSW 3 hts gL_law_L_numberAt rfl rfl rfl hds_L_numberAt ⟨(Nat.le_of_ble_eq_true rfl), (Nat.le_of_ble_eq_true rfl)⟩) xW1_blind (fun U hU hW => ⟨xE.at hW hU hEv hEs hEh hS, va_Nc.moved hW.alike hEn.1, va_Nc.moved hW.alike hEn.2⟩) hK hP hD hS hA [0, 1, 2, 8] rfl rfl rfl hl.1 rfl (Nat.le_of_ble_eq_true rfl) dL_law_574 ⟨(by omega : _ ≤ 601024), (by omega : _ ≤ 7293034)⟩ (fun r9 w9 H locs hw hP hD hS => ?_)
    obtain ⟨rfl, rfl⟩ := hw
    have hP : xP γ ([xO q0 2 [.ref q1, .ref q4, .int (nI kc), .int td, .ref q2, .ref q3], xO q1 0 [.ref a1, .int (nI n)], xA γ a1 12 f, xO q2 0 [.ref a2, .int tn], xA γ a2 12 tf, xO q3 1 [.ref a3, .int wn], xA γ a3 12 wf, xQ γ q4 6 (fun t9 => some (kq t9)), xL γ o 1 h, xO m0 3 [.int th, .int (nI n), .int (nI kc), .int td, .ref m1, .ref m2, .ref m3, .ref m4], xA γ m1 12 f, xA γ m2 12 mt, xA γ m3 72 tg, xA γ m4 14 tp] ++ xKp γ kq ka kn (xGt tg)) H := hP
    have hD : va_D A ([xO q0 2 [.ref q1, .ref q4, .int (nI kc), .int td, .ref q2, .ref q3], xO q1 0 [.ref a1, .int (nI n)], xA γ a1 12 f, xO q2 0 [.ref a2, .int tn], xA γ a2 12 tf, xO q3 1 [.ref a3, .int wn], xA γ a3 12 wf, xQ γ q4 6 (fun t9 => some (kq t9)), xL γ o 1 h, xO m0 3 [.int th, .int (nI n), .int (nI kc), .int td, .ref m1, .ref m2, .ref m3, .ref m4], xA γ m1 12 f, xA γ m2 12 mt, xA γ m3 72 tg, xA γ m4 14 tp] ++ xKp γ kq ka kn (xGt tg)) := hD
    refine W.eq (g2 := F0 m 577 ls [.int 1]) rfl ?_
    refine lv_istore (lv' := [(5, .int 1), (0, .ref b), (1, .ref q0), (2, .ref m0), (3, .ref o), (4, .int (nI i))]) hx hb dL_law_577 hl (by decide) rfl (fun ls hl => ?_)
    refine lv_aload_n hx hb dL_law_579 rfl (lv_at hl 3 rfl) ?_
    refine lv_aload_n hx hb dL_law_580 rfl (lv_at hl 1 rfl) ?_
    refine lv_iload hx hb dL_law_581 (lv_at hl 5 rfl) ?_
    refine lv_iconst (v := 1) hx hb dL_law_583 (by decide) ?_
    refine lv_iadd hx hb dL_law_584 ?_
    refine x_top (y := nI (i + 1)) (nI_add i 1) ?_
    refine x_sld hx hb hX hbl hbA hS (i + 1) rfl (by omega) (by omega) dL_law_585 ?_
    refine xVM (q0 := 9) (ci := 3) (As := [.int (xs (i + 1))]) (rest := []) ⟨hx, hb, hml, hown, hts⟩ (c_X3_numberAt_x γ l m0 m1 m2 m3 m4 n kc th td (xs (i + 1)) hxb) (cwV 1 hts gL_law_X3_numberAt rfl rfl rfl hdv_X3_numberAt ⟨(Nat.le_of_ble_eq_true rfl), (Nat.le_of_ble_eq_true rfl)⟩) hK hP hD hS hA [9] rfl rfl rfl rfl rfl hl.1 rfl (Nat.le_of_ble_eq_true rfl) dL_law_586 ⟨(by omega : _ ≤ 601024), (by omega : _ ≤ 7293034)⟩ (fun r9 w9 H locs hw hP hD hS => ?_)
    obtain ⟨rfl, rfl⟩ := hw
    have hP : xP γ ([xO q0 2 [.ref q1, .ref q4, .int (nI kc), .int td, .ref q2, .ref q3], xO q1 0 [.ref a1, .int (nI n)], xA γ a1 12 f, xO q2 0 [.ref a2, .int tn], xA γ a2 12 tf, xO q3 1 [.ref a3, .int wn], xA γ a3 12 wf, xQ γ q4 6 (fun t9 => some (kq t9)), xL γ o 1 h, xO m0 3 [.int 1, .int (nI n), .int (nI kc), .int td, .ref m1, .ref m2, .ref m3, .ref m4], xA γ m1 12 f, xA γ m2 12 mt, xA γ m3 72 tg, xA γ m4 14 tp] ++ xKp γ kq ka kn (xGt tg)) H := hP
    have hD : va_D A ([xO q0 2 [.ref q1, .ref q4, .int (nI kc), .int td, .ref q2, .ref q3], xO q1 0 [.ref a1, .int (nI n)], xA γ a1 12 f, xO q2 0 [.ref a2, .int tn], xA γ a2 12 tf, xO q3 1 [.ref a3, .int wn], xA γ a3 12 wf, xQ γ q4 6 (fun t9 => some (kq t9)), xL γ o 1 h, xO m0 3 [.int 1, .int (nI n), .int (nI kc), .int td, .ref m1, .ref m2, .ref m3, .ref m4], xA γ m1 12 f, xA γ m2 12 mt, xA γ m3 72 tg, xA γ m4 14 tp] ++ xKp γ kq ka kn (xGt tg)) := hD
    refine W.eq (g2 := F0 m 589 ls [.int 0]) rfl ?_
    refine lv_istore (lv' := [(6, .int 0), (5, .int 1), (0, .ref b), (1, .ref q0), (2, .ref m0), (3, .ref o), (4, .int (nI i))]) hx hb dL_law_589 hl (by decide) rfl (fun ls hl => ?_)
    refine lv_aload_n hx hb dL_law_591 rfl (lv_at hl 4 rfl) ?_
    refine xVR (q0 := 9) (ci := 3) (As := []) (rest := []) (stk := [.int 1]) ⟨hx, hb, hml, hown, hts⟩ (c_X3_thrown γ l m0 m1 m2 m3 m4 n kc 1 td) (cwV 0 hts gL_law_X3_thrown rfl rfl rfl hdv_X3_thrown ⟨(Nat.le_of_ble_eq_true rfl), (Nat.le_of_ble_eq_true rfl)⟩) hK hP [9] rfl rfl rfl rfl hl.1 rfl (Nat.le_of_ble_eq_true rfl) dL_law_592 ⟨(by omega : _ ≤ 601024), (by omega : _ ≤ 7293034)⟩ rfl ?_
    refine lv_iload hx hb dL_law_595 (lv_at hl 1 rfl) ?_
    refine lv_icmp_eq (tgt := 602) hx hb dL_law_597 (by decide) (fun _ => ?_) (fun c => absurd (rfl) c)
    refine lv_iload hx hb dL_law_602 (lv_at hl 1 rfl) ?_
    refine lv_if_ne (tgt := 619) hx hb dL_law_604 (by decide) (fun _ => ?_) (fun c => absurd c (by decide))
    refine lv_goto (tgt := 1426) hx hb dL_law_619 (by decide) ?_
    exact K n kc td 1 tn wn f tf wf mt tg tp h kn _ _ d0 _ _ ls hd0 (hI.same hj) (hkn) hP hD hS (by omega) (by omega) (lv_sub hl [2, 3, 4, 5, 6] rfl)

theorem hds_L_tilt : yL_tilt.cls ≠ "java/lang/invoke/MethodHandle" ∧ yL_tilt.cls ≠ "java/lang/invoke/VarHandle" ∧ (parseMethodDescriptor yL_tilt.desc).map (fun d => d.parameters.length) = some 3 := by decide +kernel
theorem hdv_X3_tilt : yX3_tilt.cls = RX3 ∧ yX3_tilt.cls ≠ "java/lang/invoke/MethodHandle" ∧ yX3_tilt.cls ≠ "java/lang/invoke/VarHandle" ∧ (parseMethodDescriptor yX3_tilt.desc).map (fun d => d.parameters.length) = some 1 := by decide +kernel
set_option maxHeartbeats 4000000 in
set_option maxRecDepth 100000 in
theorem xcase_tilt {p : Program} {e : Env} {s : State} {m : MethodId} {below : List Frame} {meth : Method} {c : Code} (l : Launch) (hlt : l.stackTraces = false) {b L : Nat} {xs : Nat → Int32} (hL : L ≤ 1536) (C0 : lw_At p s m meth c b L xs) {γ : xG} (hK : xK γ s) (sa : Nat → Nat) (hEv : xEv s) (hEs : xEs sa s) (hEn : xEn s) {A : Nat → Prop} (hA : ∀ q : Nat, s.heap.size ≤ q → A q) (hbA : ¬ A b) (hEh : xEh A s s.heap) (q0 q1 a1 q2 a2 q3 a3 q4 o m0 m1 m2 m3 m4 : Nat) (kq ka : Nat → Nat) (j i : Nat) (hj : j < 512) (hi : i + 2 < L) (K : xK9 p l e s m below meth c b γ A q0 q1 a1 q2 a2 q3 a3 q4 o m0 m1 m2 m3 m4 kq ka (j + 1) i) (n kc : Nat) (td th tn wn : Int32) (f tf wf mt tg tp : xRow) (h : Nat → Int64) (kn : Nat → Int32) (H : Heap) (locs : List Loc) (d0 : Drawn) (cells slots : Nat) (ls : Array Slot) (hd0 : s.drawn.sameBut d0 lw_cs) (hI : xInv j n kc f tg) (hkn : ∀ t, t < kc → kn t = nI n) (hP : xP γ (LW γ q0 q1 a1 q2 a2 q3 a3 q4 o m0 m1 m2 m3 m4 kq ka n kc td th tn wn f tf wf mt tg tp h kn) H) (hD : va_D A (LW γ q0 q1 a1 q2 a2 q3 a3 q4 o m0 m1 m2 m3 m4 kq ka n kc td th tn wn f tf wf mt tg tp h kn)) (hS : va_S A s.heap H locs) (hc : cells ≤ 26 + j) (hs : slots ≤ 257 + 17 * j) (hl : lv_has ls 9 [(0, .ref b), (1, .ref q0), (2, .ref m0), (3, .ref o), (4, .int (nI i))]) : W p l e room_1 (s.setDrawn d0) m #[Value.ref b] below meth c H locs cells slots (lw_Z below #[Value.ref b] s) (F0 m 789 ls []) := by
  obtain ⟨hx, hb, hr, hml, hown, hts0, hX, hbl, hlocks, hgv⟩ := id C0
  have hts : ∀ w ∈ wsL_law, w.before #[Value.ref b] (s.setDrawn d0) = true := fun w h => dr_words hts0 d0 w (wsL_law_in w h)
  have hown : s.vm.findClass RL = some m.cls := hown
  have hX : va_X b L xs (s.setDrawn d0) s.heap := va_X.moved (u := s) (U := s.setDrawn d0) (Vm.Alike.refl s.vm) hX
  have hK : xK γ (s.setDrawn d0) := va_K.moved (u := s) (U := s.setDrawn d0) (Vm.Alike.refl s.vm) hK
  have hn0 := hI.1
  have hn1 := hI.2.1
  have hkc := hI.2.2.1
  have hP : xP γ ([xO q0 2 [.ref q1, .ref q4, .int (nI kc), .int td, .ref q2, .ref q3], xO q1 0 [.ref a1, .int (nI n)], xA γ a1 12 f, xO q2 0 [.ref a2, .int tn], xA γ a2 12 tf, xO q3 1 [.ref a3, .int wn], xA γ a3 12 wf, xQ γ q4 6 (fun t9 => some (kq t9)), xL γ o 1 h, xO m0 3 [.int th, .int (nI n), .int (nI kc), .int td, .ref m1, .ref m2, .ref m3, .ref m4], xA γ m1 12 f, xA γ m2 12 mt, xA γ m3 72 tg, xA γ m4 14 tp] ++ xKp γ kq ka kn (xGt tg)) H := hP
  have hD : va_D A ([xO q0 2 [.ref q1, .ref q4, .int (nI kc), .int td, .ref q2, .ref q3], xO q1 0 [.ref a1, .int (nI n)], xA γ a1 12 f, xO q2 0 [.ref a2, .int tn], xA γ a2 12 tf, xO q3 1 [.ref a3, .int wn], xA γ a3 12 wf, xQ γ q4 6 (fun t9 => some (kq t9)), xL γ o 1 h, xO m0 3 [.int th, .int (nI n), .int (nI kc), .int td, .ref m1, .ref m2, .ref m3, .ref m4], xA γ m1 12 f, xA γ m2 12 mt, xA γ m3 72 tg, xA γ m4 14 tp] ++ xKp γ kq ka kn (xGt tg)) := hD
  by_cases hp : xInB (xs (i + 1)) 0 (nI n - 1) = true
  · obtain ⟨k, hk, e1⟩ := xInB_pl hn1 hp
    refine lv_aload_n hx hb dL_law_789 rfl (lv_at hl 1 rfl) ?_
    refine lv_aload_n hx hb dL_law_790 rfl (lv_at hl 0 rfl) ?_
    refine lv_iload hx hb dL_law_791 (lv_at hl 4 rfl) ?_
    refine lv_iconst (v := 1) hx hb dL_law_793 (by decide) ?_
    refine lv_iadd hx hb dL_law_794 ?_
    refine x_top (y := nI (i + 1)) (nI_add i 1) ?_
    refine x_sld hx hb hX hbl hbA hS (i + 1) rfl (by omega) (by omega) dL_law_795 ?_
    refine x_top (y := nI k) (e1) ?_
    refine lv_aload_n hx hb dL_law_796 rfl (lv_at hl 3 rfl) ?_
    refine xSME (Ex := fun _ => True) (As := [.ref q0, .int (nI k), .ref o]) (rest := []) ⟨hx, hb, hml, hown, hts⟩ (c_L_tilt γ l q0 q1 q2 q3 q4 kc td a1 n f k hn0 hn1 hk o h) (vx_cwSW 3 hts gL_law_L_tilt rfl rfl rfl hds_L_tilt ⟨(Nat.le_of_ble_eq_true rfl), (Nat.le_of_ble_eq_true rfl)⟩) (fun _ _ _ _ h => h) (fun _ _ _ => trivial) hK hP hD hS hA [0, 1, 2, 8] rfl rfl rfl hl.1 rfl (Nat.le_of_ble_eq_true rfl) dL_law_797 ⟨(by omega : _ ≤ 601024), (by omega : _ ≤ 7293034)⟩ (fun r9 w9 H locs hw hP hD hS => ?_)
    obtain ⟨rfl, rfl⟩ := hw
    have hP : xP γ ([xO q0 2 [.ref q1, .ref q4, .int (nI kc), .int td, .ref q2, .ref q3], xO q1 0 [.ref a1, .int (nI n)], xA γ a1 12 f, xO q2 0 [.ref a2, .int tn], xA γ a2 12 tf, xO q3 1 [.ref a3, .int wn], xA γ a3 12 wf, xQ γ q4 6 (fun t9 => some (kq t9)), xL γ o 1 (vp_updL h 0 (Int32.toInt64 (xTlt n f k))), xO m0 3 [.int th, .int (nI n), .int (nI kc), .int td, .ref m1, .ref m2, .ref m3, .ref m4], xA γ m1 12 f, xA γ m2 12 mt, xA γ m3 72 tg, xA γ m4 14 tp] ++ xKp γ kq ka kn (xGt tg)) H := hP
    have hD : va_D A ([xO q0 2 [.ref q1, .ref q4, .int (nI kc), .int td, .ref q2, .ref q3], xO q1 0 [.ref a1, .int (nI n)], xA γ a1 12 f, xO q2 0 [.ref a2, .int tn], xA γ a2 12 tf, xO q3 1 [.ref a3, .int wn], xA γ a3 12 wf, xQ γ q4 6 (fun t9 => some (kq t9)), xL γ o 1 (vp_updL h 0 (Int32.toInt64 (xTlt n f k))), xO m0 3 [.int th, .int (nI n), .int (nI kc), .int td, .ref m1, .ref m2, .ref m3, .ref m4], xA γ m1 12 f, xA γ m2 12 mt, xA γ m3 72 tg, xA γ m4 14 tp] ++ xKp γ kq ka kn (xGt tg)) := hD
    refine W.eq (g2 := F0 m 800 ls [.int 0]) rfl ?_
    refine lv_istore (lv' := [(5, .int 0), (0, .ref b), (1, .ref q0), (2, .ref m0), (3, .ref o), (4, .int (nI i))]) hx hb dL_law_800 hl (by decide) rfl (fun ls hl => ?_)
    refine lv_aload_n hx hb dL_law_802 rfl (lv_at hl 3 rfl) ?_
    refine lv_aload_n hx hb dL_law_803 rfl (lv_at hl 1 rfl) ?_
    refine lv_iload hx hb dL_law_804 (lv_at hl 5 rfl) ?_
    refine lv_iconst (v := 1) hx hb dL_law_806 (by decide) ?_
    refine lv_iadd hx hb dL_law_807 ?_
    refine x_top (y := nI (i + 1)) (nI_add i 1) ?_
    refine x_sld hx hb hX hbl hbA hS (i + 1) rfl (by omega) (by omega) dL_law_808 ?_
    refine x_top (y := nI k) (e1) ?_
    refine xVM (q0 := 9) (ci := 3) (As := [.int (nI k)]) (rest := []) ⟨hx, hb, hml, hown, hts⟩ (c_X3_tilt γ l m0 m1 m2 m3 m4 n kc th td f k hn0 hn1 hk) (cwV 1 hts gL_law_X3_tilt rfl rfl rfl hdv_X3_tilt ⟨(Nat.le_of_ble_eq_true rfl), (Nat.le_of_ble_eq_true rfl)⟩) hK hP hD hS hA [9, 10] rfl rfl rfl rfl rfl hl.1 rfl (Nat.le_of_ble_eq_true rfl) dL_law_809 ⟨(by omega : _ ≤ 601024), (by omega : _ ≤ 7293034)⟩ (fun r9 w9 H locs hw hP hD hS => ?_)
    obtain ⟨rfl, rfl⟩ := hw
    have hP : xP γ ([xO q0 2 [.ref q1, .ref q4, .int (nI kc), .int td, .ref q2, .ref q3], xO q1 0 [.ref a1, .int (nI n)], xA γ a1 12 f, xO q2 0 [.ref a2, .int tn], xA γ a2 12 tf, xO q3 1 [.ref a3, .int wn], xA γ a3 12 wf, xQ γ q4 6 (fun t9 => some (kq t9)), xL γ o 1 (vp_updL h 0 (Int32.toInt64 (xTlt n f k))), xO m0 3 [.int 0, .int (nI n), .int (nI kc), .int td, .ref m1, .ref m2, .ref m3, .ref m4], xA γ m1 12 f, xA γ m2 12 mt, xA γ m3 72 tg, xA γ m4 14 tp] ++ xKp γ kq ka kn (xGt tg)) H := hP
    have hD : va_D A ([xO q0 2 [.ref q1, .ref q4, .int (nI kc), .int td, .ref q2, .ref q3], xO q1 0 [.ref a1, .int (nI n)], xA γ a1 12 f, xO q2 0 [.ref a2, .int tn], xA γ a2 12 tf, xO q3 1 [.ref a3, .int wn], xA γ a3 12 wf, xQ γ q4 6 (fun t9 => some (kq t9)), xL γ o 1 (vp_updL h 0 (Int32.toInt64 (xTlt n f k))), xO m0 3 [.int 0, .int (nI n), .int (nI kc), .int td, .ref m1, .ref m2, .ref m3, .ref m4], xA γ m1 12 f, xA γ m2 12 mt, xA γ m3 72 tg, xA γ m4 14 tp] ++ xKp γ kq ka kn (xGt tg)) := hD
    refine W.eq (g2 := F0 m 812 ls [.int (xTlt n f k)]) rfl ?_
    refine lv_istore (lv' := [(6, .int (xTlt n f k)), (5, .int 0), (0, .ref b), (1, .ref q0), (2, .ref m0), (3, .ref o), (4, .int (nI i))]) hx hb dL_law_812 hl (by decide) rfl (fun ls hl => ?_)
    refine lv_aload_n hx hb dL_law_814 rfl (lv_at hl 4 rfl) ?_
    refine xVR (q0 := 9) (ci := 3) (As := []) (rest := []) (stk := [.int 0]) ⟨hx, hb, hml, hown, hts⟩ (c_X3_thrown γ l m0 m1 m2 m3 m4 n kc 0 td) (cwV 0 hts gL_law_X3_thrown rfl rfl rfl hdv_X3_thrown ⟨(Nat.le_of_ble_eq_true rfl), (Nat.le_of_ble_eq_true rfl)⟩) hK hP [9] rfl rfl rfl rfl hl.1 rfl (Nat.le_of_ble_eq_true rfl) dL_law_815 ⟨(by omega : _ ≤ 601024), (by omega : _ ≤ 7293034)⟩ rfl ?_
    refine lv_iload hx hb dL_law_818 (lv_at hl 1 rfl) ?_
    refine lv_icmp_eq (tgt := 825) hx hb dL_law_820 (by decide) (fun _ => ?_) (fun c => absurd (rfl) c)
    refine lv_iload hx hb dL_law_825 (lv_at hl 1 rfl) ?_
    refine lv_if_ne (tgt := 842) hx hb dL_law_827 (by decide) (fun c => absurd rfl c) (fun _ => ?_)
    refine lv_aload_n hx hb dL_law_830 rfl (lv_at hl 5 rfl) ?_
    refine lv_iconst (v := 0) hx hb dL_law_831 (by decide) ?_
    refine x_lald (f := vp_updL h 0 (Int32.toInt64 (xTlt n f k))) hx hb hK hP 8 rfl 0 rfl (by decide) (by decide) dL_law_832 ?_
    refine x_topl (y := Int32.toInt64 (xTlt n f k)) rfl ?_
    refine lv_iload hx hb dL_law_833 (lv_at hl 0 rfl) ?_
    refine lv_i2l (v := Int32.toInt64 (xTlt n f k)) hx hb dL_law_835 rfl ?_
    refine x_lcmp (rfl) hx hb dL_law_836 ?_
    refine lv_if_eq (tgt := 842) hx hb dL_law_837 (by decide) (fun _ => ?_) (fun c => absurd rfl c)
    refine lv_goto (tgt := 1426) hx hb dL_law_842 (by decide) ?_
    exact K n kc td 0 tn wn f tf wf mt tg tp (vp_updL h 0 (Int32.toInt64 (xTlt n f k))) kn _ _ d0 _ _ ls hd0 (hI.same hj) (hkn) hP hD hS (by omega) (by omega) (lv_sub hl [2, 3, 4, 5, 6] rfl)
  · have hxb : xInB (xs (i + 1)) 0 (nI n - 1) = false := by simpa using hp
    refine lv_aload_n hx hb dL_law_789 rfl (lv_at hl 1 rfl) ?_
    refine lv_aload_n hx hb dL_law_790 rfl (lv_at hl 0 rfl) ?_
    refine lv_iload hx hb dL_law_791 (lv_at hl 4 rfl) ?_
    refine lv_iconst (v := 1) hx hb dL_law_793 (by decide) ?_
    refine lv_iadd hx hb dL_law_794 ?_
    refine x_top (y := nI (i + 1)) (nI_add i 1) ?_
    refine x_sld hx hb hX hbl hbA hS (i + 1) rfl (by omega) (by omega) dL_law_795 ?_
    refine lv_aload_n hx hb dL_law_796 rfl (lv_at hl 3 rfl) ?_
    refine xSME (Ex := xW1 sa) (As := [.ref q0, .int (xs (i + 1)), .ref o]) (rest := []) ⟨hx, hb, hml, hown, hts⟩ (c_L_tilt_x γ l hlt sa q0 q1 q2 q3 q4 kc td a1 n f (xs (i + 1)) hn0 hn1 hxb o h) (vx_cwSW 3 hts gL_law_L_tilt rfl rfl rfl hds_L_tilt ⟨(Nat.le_of_ble_eq_true rfl), (Nat.le_of_ble_eq_true rfl)⟩) xW1_blind (fun U hU hW => ⟨xE.at hW hU hEv hEs hEh hS, va_Nc.moved hW.alike hEn.1, va_Nc.moved hW.alike hEn.2⟩) hK hP hD hS hA [0, 1, 2, 8] rfl rfl rfl hl.1 rfl (Nat.le_of_ble_eq_true rfl) dL_law_797 ⟨(by omega : _ ≤ 601024), (by omega : _ ≤ 7293034)⟩ (fun r9 w9 H locs hw hP hD hS => ?_)
    obtain ⟨rfl, rfl⟩ := hw
    have hP : xP γ ([xO q0 2 [.ref q1, .ref q4, .int (nI kc), .int td, .ref q2, .ref q3], xO q1 0 [.ref a1, .int (nI n)], xA γ a1 12 f, xO q2 0 [.ref a2, .int tn], xA γ a2 12 tf, xO q3 1 [.ref a3, .int wn], xA γ a3 12 wf, xQ γ q4 6 (fun t9 => some (kq t9)), xL γ o 1 h, xO m0 3 [.int th, .int (nI n), .int (nI kc), .int td, .ref m1, .ref m2, .ref m3, .ref m4], xA γ m1 12 f, xA γ m2 12 mt, xA γ m3 72 tg, xA γ m4 14 tp] ++ xKp γ kq ka kn (xGt tg)) H := hP
    have hD : va_D A ([xO q0 2 [.ref q1, .ref q4, .int (nI kc), .int td, .ref q2, .ref q3], xO q1 0 [.ref a1, .int (nI n)], xA γ a1 12 f, xO q2 0 [.ref a2, .int tn], xA γ a2 12 tf, xO q3 1 [.ref a3, .int wn], xA γ a3 12 wf, xQ γ q4 6 (fun t9 => some (kq t9)), xL γ o 1 h, xO m0 3 [.int th, .int (nI n), .int (nI kc), .int td, .ref m1, .ref m2, .ref m3, .ref m4], xA γ m1 12 f, xA γ m2 12 mt, xA γ m3 72 tg, xA γ m4 14 tp] ++ xKp γ kq ka kn (xGt tg)) := hD
    refine W.eq (g2 := F0 m 800 ls [.int 1]) rfl ?_
    refine lv_istore (lv' := [(5, .int 1), (0, .ref b), (1, .ref q0), (2, .ref m0), (3, .ref o), (4, .int (nI i))]) hx hb dL_law_800 hl (by decide) rfl (fun ls hl => ?_)
    refine lv_aload_n hx hb dL_law_802 rfl (lv_at hl 3 rfl) ?_
    refine lv_aload_n hx hb dL_law_803 rfl (lv_at hl 1 rfl) ?_
    refine lv_iload hx hb dL_law_804 (lv_at hl 5 rfl) ?_
    refine lv_iconst (v := 1) hx hb dL_law_806 (by decide) ?_
    refine lv_iadd hx hb dL_law_807 ?_
    refine x_top (y := nI (i + 1)) (nI_add i 1) ?_
    refine x_sld hx hb hX hbl hbA hS (i + 1) rfl (by omega) (by omega) dL_law_808 ?_
    refine xVM (q0 := 9) (ci := 3) (As := [.int (xs (i + 1))]) (rest := []) ⟨hx, hb, hml, hown, hts⟩ (c_X3_tilt_x γ l m0 m1 m2 m3 m4 n kc th td (xs (i + 1)) hxb) (cwV 1 hts gL_law_X3_tilt rfl rfl rfl hdv_X3_tilt ⟨(Nat.le_of_ble_eq_true rfl), (Nat.le_of_ble_eq_true rfl)⟩) hK hP hD hS hA [9] rfl rfl rfl rfl rfl hl.1 rfl (Nat.le_of_ble_eq_true rfl) dL_law_809 ⟨(by omega : _ ≤ 601024), (by omega : _ ≤ 7293034)⟩ (fun r9 w9 H locs hw hP hD hS => ?_)
    obtain ⟨rfl, rfl⟩ := hw
    have hP : xP γ ([xO q0 2 [.ref q1, .ref q4, .int (nI kc), .int td, .ref q2, .ref q3], xO q1 0 [.ref a1, .int (nI n)], xA γ a1 12 f, xO q2 0 [.ref a2, .int tn], xA γ a2 12 tf, xO q3 1 [.ref a3, .int wn], xA γ a3 12 wf, xQ γ q4 6 (fun t9 => some (kq t9)), xL γ o 1 h, xO m0 3 [.int 1, .int (nI n), .int (nI kc), .int td, .ref m1, .ref m2, .ref m3, .ref m4], xA γ m1 12 f, xA γ m2 12 mt, xA γ m3 72 tg, xA γ m4 14 tp] ++ xKp γ kq ka kn (xGt tg)) H := hP
    have hD : va_D A ([xO q0 2 [.ref q1, .ref q4, .int (nI kc), .int td, .ref q2, .ref q3], xO q1 0 [.ref a1, .int (nI n)], xA γ a1 12 f, xO q2 0 [.ref a2, .int tn], xA γ a2 12 tf, xO q3 1 [.ref a3, .int wn], xA γ a3 12 wf, xQ γ q4 6 (fun t9 => some (kq t9)), xL γ o 1 h, xO m0 3 [.int 1, .int (nI n), .int (nI kc), .int td, .ref m1, .ref m2, .ref m3, .ref m4], xA γ m1 12 f, xA γ m2 12 mt, xA γ m3 72 tg, xA γ m4 14 tp] ++ xKp γ kq ka kn (xGt tg)) := hD
    refine W.eq (g2 := F0 m 812 ls [.int 0]) rfl ?_
    refine lv_istore (lv' := [(6, .int 0), (5, .int 1), (0, .ref b), (1, .ref q0), (2, .ref m0), (3, .ref o), (4, .int (nI i))]) hx hb dL_law_812 hl (by decide) rfl (fun ls hl => ?_)
    refine lv_aload_n hx hb dL_law_814 rfl (lv_at hl 4 rfl) ?_
    refine xVR (q0 := 9) (ci := 3) (As := []) (rest := []) (stk := [.int 1]) ⟨hx, hb, hml, hown, hts⟩ (c_X3_thrown γ l m0 m1 m2 m3 m4 n kc 1 td) (cwV 0 hts gL_law_X3_thrown rfl rfl rfl hdv_X3_thrown ⟨(Nat.le_of_ble_eq_true rfl), (Nat.le_of_ble_eq_true rfl)⟩) hK hP [9] rfl rfl rfl rfl hl.1 rfl (Nat.le_of_ble_eq_true rfl) dL_law_815 ⟨(by omega : _ ≤ 601024), (by omega : _ ≤ 7293034)⟩ rfl ?_
    refine lv_iload hx hb dL_law_818 (lv_at hl 1 rfl) ?_
    refine lv_icmp_eq (tgt := 825) hx hb dL_law_820 (by decide) (fun _ => ?_) (fun c => absurd (rfl) c)
    refine lv_iload hx hb dL_law_825 (lv_at hl 1 rfl) ?_
    refine lv_if_ne (tgt := 842) hx hb dL_law_827 (by decide) (fun _ => ?_) (fun c => absurd c (by decide))
    refine lv_goto (tgt := 1426) hx hb dL_law_842 (by decide) ?_
    exact K n kc td 1 tn wn f tf wf mt tg tp h kn _ _ d0 _ _ ls hd0 (hI.same hj) (hkn) hP hD hS (by omega) (by omega) (lv_sub hl [2, 3, 4, 5, 6] rfl)

theorem hds_L_isSteep : yL_isSteep.cls ≠ "java/lang/invoke/MethodHandle" ∧ yL_isSteep.cls ≠ "java/lang/invoke/VarHandle" ∧ (parseMethodDescriptor yL_isSteep.desc).map (fun d => d.parameters.length) = some 3 := by decide +kernel
theorem hdv_X3_isSteep : yX3_isSteep.cls = RX3 ∧ yX3_isSteep.cls ≠ "java/lang/invoke/MethodHandle" ∧ yX3_isSteep.cls ≠ "java/lang/invoke/VarHandle" ∧ (parseMethodDescriptor yX3_isSteep.desc).map (fun d => d.parameters.length) = some 1 := by decide +kernel
set_option maxHeartbeats 4000000 in
set_option maxRecDepth 100000 in
theorem xcase_isSteep {p : Program} {e : Env} {s : State} {m : MethodId} {below : List Frame} {meth : Method} {c : Code} (l : Launch) (hlt : l.stackTraces = false) {b L : Nat} {xs : Nat → Int32} (hL : L ≤ 1536) (C0 : lw_At p s m meth c b L xs) {γ : xG} (hK : xK γ s) (sa : Nat → Nat) (hEv : xEv s) (hEs : xEs sa s) (hEn : xEn s) {A : Nat → Prop} (hA : ∀ q : Nat, s.heap.size ≤ q → A q) (hbA : ¬ A b) (hEh : xEh A s s.heap) (q0 q1 a1 q2 a2 q3 a3 q4 o m0 m1 m2 m3 m4 : Nat) (kq ka : Nat → Nat) (j i : Nat) (hj : j < 512) (hi : i + 2 < L) (K : xK9 p l e s m below meth c b γ A q0 q1 a1 q2 a2 q3 a3 q4 o m0 m1 m2 m3 m4 kq ka (j + 1) i) (n kc : Nat) (td th tn wn : Int32) (f tf wf mt tg tp : xRow) (h : Nat → Int64) (kn : Nat → Int32) (H : Heap) (locs : List Loc) (d0 : Drawn) (cells slots : Nat) (ls : Array Slot) (hd0 : s.drawn.sameBut d0 lw_cs) (hI : xInv j n kc f tg) (hkn : ∀ t, t < kc → kn t = nI n) (hP : xP γ (LW γ q0 q1 a1 q2 a2 q3 a3 q4 o m0 m1 m2 m3 m4 kq ka n kc td th tn wn f tf wf mt tg tp h kn) H) (hD : va_D A (LW γ q0 q1 a1 q2 a2 q3 a3 q4 o m0 m1 m2 m3 m4 kq ka n kc td th tn wn f tf wf mt tg tp h kn)) (hS : va_S A s.heap H locs) (hc : cells ≤ 26 + j) (hs : slots ≤ 257 + 17 * j) (hl : lv_has ls 9 [(0, .ref b), (1, .ref q0), (2, .ref m0), (3, .ref o), (4, .int (nI i))]) : W p l e room_1 (s.setDrawn d0) m #[Value.ref b] below meth c H locs cells slots (lw_Z below #[Value.ref b] s) (F0 m 700 ls []) := by
  obtain ⟨hx, hb, hr, hml, hown, hts0, hX, hbl, hlocks, hgv⟩ := id C0
  have hts : ∀ w ∈ wsL_law, w.before #[Value.ref b] (s.setDrawn d0) = true := fun w h => dr_words hts0 d0 w (wsL_law_in w h)
  have hown : s.vm.findClass RL = some m.cls := hown
  have hX : va_X b L xs (s.setDrawn d0) s.heap := va_X.moved (u := s) (U := s.setDrawn d0) (Vm.Alike.refl s.vm) hX
  have hK : xK γ (s.setDrawn d0) := va_K.moved (u := s) (U := s.setDrawn d0) (Vm.Alike.refl s.vm) hK
  have hn0 := hI.1
  have hn1 := hI.2.1
  have hkc := hI.2.2.1
  have hP : xP γ ([xO q0 2 [.ref q1, .ref q4, .int (nI kc), .int td, .ref q2, .ref q3], xO q1 0 [.ref a1, .int (nI n)], xA γ a1 12 f, xO q2 0 [.ref a2, .int tn], xA γ a2 12 tf, xO q3 1 [.ref a3, .int wn], xA γ a3 12 wf, xQ γ q4 6 (fun t9 => some (kq t9)), xL γ o 1 h, xO m0 3 [.int th, .int (nI n), .int (nI kc), .int td, .ref m1, .ref m2, .ref m3, .ref m4], xA γ m1 12 f, xA γ m2 12 mt, xA γ m3 72 tg, xA γ m4 14 tp] ++ xKp γ kq ka kn (xGt tg)) H := hP
  have hD : va_D A ([xO q0 2 [.ref q1, .ref q4, .int (nI kc), .int td, .ref q2, .ref q3], xO q1 0 [.ref a1, .int (nI n)], xA γ a1 12 f, xO q2 0 [.ref a2, .int tn], xA γ a2 12 tf, xO q3 1 [.ref a3, .int wn], xA γ a3 12 wf, xQ γ q4 6 (fun t9 => some (kq t9)), xL γ o 1 h, xO m0 3 [.int th, .int (nI n), .int (nI kc), .int td, .ref m1, .ref m2, .ref m3, .ref m4], xA γ m1 12 f, xA γ m2 12 mt, xA γ m3 72 tg, xA γ m4 14 tp] ++ xKp γ kq ka kn (xGt tg)) := hD
  by_cases hp : xInB (xs (i + 1)) 0 (nI n - 1) = true
  · obtain ⟨k, hk, e1⟩ := xInB_pl hn1 hp
    refine lv_aload_n hx hb dL_law_700 rfl (lv_at hl 1 rfl) ?_
    refine lv_aload_n hx hb dL_law_701 rfl (lv_at hl 0 rfl) ?_
    refine lv_iload hx hb dL_law_702 (lv_at hl 4 rfl) ?_
    refine lv_iconst (v := 1) hx hb dL_law_704 (by decide) ?_
    refine lv_iadd hx hb dL_law_705 ?_
    refine x_top (y := nI (i + 1)) (nI_add i 1) ?_
    refine x_sld hx hb hX hbl hbA hS (i + 1) rfl (by omega) (by omega) dL_law_706 ?_
    refine x_top (y := nI k) (e1) ?_
    refine lv_aload_n hx hb dL_law_707 rfl (lv_at hl 3 rfl) ?_
    refine xSME (Ex := fun _ => True) (As := [.ref q0, .int (nI k), .ref o]) (rest := []) ⟨hx, hb, hml, hown, hts⟩ (c_L_isSteep γ l q0 q1 q2 q3 q4 kc td a1 n f k hn0 hn1 hk o h) (vx_cwSW 3 hts gL_law_L_isSteep rfl rfl rfl hds_L_isSteep ⟨(Nat.le_of_ble_eq_true rfl), (Nat.le_of_ble_eq_true rfl)⟩) (fun _ _ _ _ h => h) (fun _ _ _ => trivial) hK hP hD hS hA [0, 1, 2, 8] rfl rfl rfl hl.1 rfl (Nat.le_of_ble_eq_true rfl) dL_law_708 ⟨(by omega : _ ≤ 601024), (by omega : _ ≤ 7293034)⟩ (fun r9 w9 H locs hw hP hD hS => ?_)
    obtain ⟨rfl, rfl⟩ := hw
    have hP : xP γ ([xO q0 2 [.ref q1, .ref q4, .int (nI kc), .int td, .ref q2, .ref q3], xO q1 0 [.ref a1, .int (nI n)], xA γ a1 12 f, xO q2 0 [.ref a2, .int tn], xA γ a2 12 tf, xO q3 1 [.ref a3, .int wn], xA γ a3 12 wf, xQ γ q4 6 (fun t9 => some (kq t9)), xL γ o 1 (vp_updL h 0 (xBL (xSt n f k))), xO m0 3 [.int th, .int (nI n), .int (nI kc), .int td, .ref m1, .ref m2, .ref m3, .ref m4], xA γ m1 12 f, xA γ m2 12 mt, xA γ m3 72 tg, xA γ m4 14 tp] ++ xKp γ kq ka kn (xGt tg)) H := hP
    have hD : va_D A ([xO q0 2 [.ref q1, .ref q4, .int (nI kc), .int td, .ref q2, .ref q3], xO q1 0 [.ref a1, .int (nI n)], xA γ a1 12 f, xO q2 0 [.ref a2, .int tn], xA γ a2 12 tf, xO q3 1 [.ref a3, .int wn], xA γ a3 12 wf, xQ γ q4 6 (fun t9 => some (kq t9)), xL γ o 1 (vp_updL h 0 (xBL (xSt n f k))), xO m0 3 [.int th, .int (nI n), .int (nI kc), .int td, .ref m1, .ref m2, .ref m3, .ref m4], xA γ m1 12 f, xA γ m2 12 mt, xA γ m3 72 tg, xA γ m4 14 tp] ++ xKp γ kq ka kn (xGt tg)) := hD
    refine W.eq (g2 := F0 m 711 ls [.int 0]) rfl ?_
    refine lv_istore (lv' := [(5, .int 0), (0, .ref b), (1, .ref q0), (2, .ref m0), (3, .ref o), (4, .int (nI i))]) hx hb dL_law_711 hl (by decide) rfl (fun ls hl => ?_)
    refine lv_aload_n hx hb dL_law_713 rfl (lv_at hl 3 rfl) ?_
    refine lv_aload_n hx hb dL_law_714 rfl (lv_at hl 1 rfl) ?_
    refine lv_iload hx hb dL_law_715 (lv_at hl 5 rfl) ?_
    refine lv_iconst (v := 1) hx hb dL_law_717 (by decide) ?_
    refine lv_iadd hx hb dL_law_718 ?_
    refine x_top (y := nI (i + 1)) (nI_add i 1) ?_
    refine x_sld hx hb hX hbl hbA hS (i + 1) rfl (by omega) (by omega) dL_law_719 ?_
    refine x_top (y := nI k) (e1) ?_
    refine xVM (q0 := 9) (ci := 3) (As := [.int (nI k)]) (rest := []) ⟨hx, hb, hml, hown, hts⟩ (c_X3_isSteep γ l m0 m1 m2 m3 m4 n kc th td f k hn0 hn1 hk) (cwV 1 hts gL_law_X3_isSteep rfl rfl rfl hdv_X3_isSteep ⟨(Nat.le_of_ble_eq_true rfl), (Nat.le_of_ble_eq_true rfl)⟩) hK hP hD hS hA [9, 10] rfl rfl rfl rfl rfl hl.1 rfl (Nat.le_of_ble_eq_true rfl) dL_law_720 ⟨(by omega : _ ≤ 601024), (by omega : _ ≤ 7293034)⟩ (fun r9 w9 H locs hw hP hD hS => ?_)
    obtain ⟨rfl, rfl⟩ := hw
    have hP : xP γ ([xO q0 2 [.ref q1, .ref q4, .int (nI kc), .int td, .ref q2, .ref q3], xO q1 0 [.ref a1, .int (nI n)], xA γ a1 12 f, xO q2 0 [.ref a2, .int tn], xA γ a2 12 tf, xO q3 1 [.ref a3, .int wn], xA γ a3 12 wf, xQ γ q4 6 (fun t9 => some (kq t9)), xL γ o 1 (vp_updL h 0 (xBL (xSt n f k))), xO m0 3 [.int 0, .int (nI n), .int (nI kc), .int td, .ref m1, .ref m2, .ref m3, .ref m4], xA γ m1 12 f, xA γ m2 12 mt, xA γ m3 72 tg, xA γ m4 14 tp] ++ xKp γ kq ka kn (xGt tg)) H := hP
    have hD : va_D A ([xO q0 2 [.ref q1, .ref q4, .int (nI kc), .int td, .ref q2, .ref q3], xO q1 0 [.ref a1, .int (nI n)], xA γ a1 12 f, xO q2 0 [.ref a2, .int tn], xA γ a2 12 tf, xO q3 1 [.ref a3, .int wn], xA γ a3 12 wf, xQ γ q4 6 (fun t9 => some (kq t9)), xL γ o 1 (vp_updL h 0 (xBL (xSt n f k))), xO m0 3 [.int 0, .int (nI n), .int (nI kc), .int td, .ref m1, .ref m2, .ref m3, .ref m4], xA γ m1 12 f, xA γ m2 12 mt, xA γ m3 72 tg, xA γ m4 14 tp] ++ xKp γ kq ka kn (xGt tg)) := hD
    refine W.eq (g2 := F0 m 723 ls [.int (if xSt n f k = true then 1 else 0)]) rfl ?_
    refine lv_istore (lv' := [(6, .int (if xSt n f k = true then 1 else 0)), (5, .int 0), (0, .ref b), (1, .ref q0), (2, .ref m0), (3, .ref o), (4, .int (nI i))]) hx hb dL_law_723 hl (by decide) rfl (fun ls hl => ?_)
    refine lv_aload_n hx hb dL_law_725 rfl (lv_at hl 4 rfl) ?_
    refine xVR (q0 := 9) (ci := 3) (As := []) (rest := []) (stk := [.int 0]) ⟨hx, hb, hml, hown, hts⟩ (c_X3_thrown γ l m0 m1 m2 m3 m4 n kc 0 td) (cwV 0 hts gL_law_X3_thrown rfl rfl rfl hdv_X3_thrown ⟨(Nat.le_of_ble_eq_true rfl), (Nat.le_of_ble_eq_true rfl)⟩) hK hP [9] rfl rfl rfl rfl hl.1 rfl (Nat.le_of_ble_eq_true rfl) dL_law_726 ⟨(by omega : _ ≤ 601024), (by omega : _ ≤ 7293034)⟩ rfl ?_
    refine lv_iload hx hb dL_law_729 (lv_at hl 1 rfl) ?_
    refine lv_icmp_eq (tgt := 736) hx hb dL_law_731 (by decide) (fun _ => ?_) (fun c => absurd (rfl) c)
    refine lv_iload hx hb dL_law_736 (lv_at hl 1 rfl) ?_
    refine lv_if_ne (tgt := 760) hx hb dL_law_738 (by decide) (fun c => absurd rfl c) (fun _ => ?_)
    refine lv_aload_n hx hb dL_law_741 rfl (lv_at hl 5 rfl) ?_
    refine lv_iconst (v := 0) hx hb dL_law_742 (by decide) ?_
    refine x_lald (f := vp_updL h 0 (xBL (xSt n f k))) hx hb hK hP 8 rfl 0 rfl (by decide) (by decide) dL_law_743 ?_
    refine x_topl (y := xBL (xSt n f k)) rfl ?_
    refine lv_iload hx hb dL_law_744 (lv_at hl 0 rfl) ?_
    refine lv_if_eq (tgt := 753) hx hb dL_law_746 (by decide) (fun c746 => ?_) (fun c746 => ?_)
    · refine lv_lconst (v := 0) hx hb dL_law_753 (by decide) ?_
      refine x_lcmp (by rw [xBL_f (xB_f c746)]) hx hb dL_law_754 ?_
      refine lv_if_eq (tgt := 760) hx hb dL_law_755 (by decide) (fun _ => ?_) (fun c => absurd rfl c)
      refine lv_goto (tgt := 1426) hx hb dL_law_760 (by decide) ?_
      exact K n kc td 0 tn wn f tf wf mt tg tp (vp_updL h 0 (xBL (xSt n f k))) kn _ _ d0 _ _ ls hd0 (hI.same hj) (hkn) hP hD hS (by omega) (by omega) (lv_sub hl [2, 3, 4, 5, 6] rfl)
    · refine lv_lconst (v := 1) hx hb dL_law_749 (by decide) ?_
      refine lv_goto (tgt := 754) hx hb dL_law_750 (by decide) ?_
      refine x_lcmp (by rw [xBL_t (xB_t c746)]) hx hb dL_law_754 ?_
      refine lv_if_eq (tgt := 760) hx hb dL_law_755 (by decide) (fun _ => ?_) (fun c => absurd rfl c)
      refine lv_goto (tgt := 1426) hx hb dL_law_760 (by decide) ?_
      exact K n kc td 0 tn wn f tf wf mt tg tp (vp_updL h 0 (xBL (xSt n f k))) kn _ _ d0 _ _ ls hd0 (hI.same hj) (hkn) hP hD hS (by omega) (by omega) (lv_sub hl [2, 3, 4, 5, 6] rfl)
  · have hxb : xInB (xs (i + 1)) 0 (nI n - 1) = false := by simpa using hp
    refine lv_aload_n hx hb dL_law_700 rfl (lv_at hl 1 rfl) ?_
    refine lv_aload_n hx hb dL_law_701 rfl (lv_at hl 0 rfl) ?_
    refine lv_iload hx hb dL_law_702 (lv_at hl 4 rfl) ?_
    refine lv_iconst (v := 1) hx hb dL_law_704 (by decide) ?_
    refine lv_iadd hx hb dL_law_705 ?_
    refine x_top (y := nI (i + 1)) (nI_add i 1) ?_
    refine x_sld hx hb hX hbl hbA hS (i + 1) rfl (by omega) (by omega) dL_law_706 ?_
    refine lv_aload_n hx hb dL_law_707 rfl (lv_at hl 3 rfl) ?_
    refine xSME (Ex := xW1 sa) (As := [.ref q0, .int (xs (i + 1)), .ref o]) (rest := []) ⟨hx, hb, hml, hown, hts⟩ (c_L_isSteep_x γ l hlt sa q0 q1 q2 q3 q4 kc td a1 n f (xs (i + 1)) hn0 hn1 hxb o h) (vx_cwSW 3 hts gL_law_L_isSteep rfl rfl rfl hds_L_isSteep ⟨(Nat.le_of_ble_eq_true rfl), (Nat.le_of_ble_eq_true rfl)⟩) xW1_blind (fun U hU hW => ⟨xE.at hW hU hEv hEs hEh hS, va_Nc.moved hW.alike hEn.1, va_Nc.moved hW.alike hEn.2⟩) hK hP hD hS hA [0, 1, 2, 8] rfl rfl rfl hl.1 rfl (Nat.le_of_ble_eq_true rfl) dL_law_708 ⟨(by omega : _ ≤ 601024), (by omega : _ ≤ 7293034)⟩ (fun r9 w9 H locs hw hP hD hS => ?_)
    obtain ⟨rfl, rfl⟩ := hw
    have hP : xP γ ([xO q0 2 [.ref q1, .ref q4, .int (nI kc), .int td, .ref q2, .ref q3], xO q1 0 [.ref a1, .int (nI n)], xA γ a1 12 f, xO q2 0 [.ref a2, .int tn], xA γ a2 12 tf, xO q3 1 [.ref a3, .int wn], xA γ a3 12 wf, xQ γ q4 6 (fun t9 => some (kq t9)), xL γ o 1 h, xO m0 3 [.int th, .int (nI n), .int (nI kc), .int td, .ref m1, .ref m2, .ref m3, .ref m4], xA γ m1 12 f, xA γ m2 12 mt, xA γ m3 72 tg, xA γ m4 14 tp] ++ xKp γ kq ka kn (xGt tg)) H := hP
    have hD : va_D A ([xO q0 2 [.ref q1, .ref q4, .int (nI kc), .int td, .ref q2, .ref q3], xO q1 0 [.ref a1, .int (nI n)], xA γ a1 12 f, xO q2 0 [.ref a2, .int tn], xA γ a2 12 tf, xO q3 1 [.ref a3, .int wn], xA γ a3 12 wf, xQ γ q4 6 (fun t9 => some (kq t9)), xL γ o 1 h, xO m0 3 [.int th, .int (nI n), .int (nI kc), .int td, .ref m1, .ref m2, .ref m3, .ref m4], xA γ m1 12 f, xA γ m2 12 mt, xA γ m3 72 tg, xA γ m4 14 tp] ++ xKp γ kq ka kn (xGt tg)) := hD
    refine W.eq (g2 := F0 m 711 ls [.int 1]) rfl ?_
    refine lv_istore (lv' := [(5, .int 1), (0, .ref b), (1, .ref q0), (2, .ref m0), (3, .ref o), (4, .int (nI i))]) hx hb dL_law_711 hl (by decide) rfl (fun ls hl => ?_)
    refine lv_aload_n hx hb dL_law_713 rfl (lv_at hl 3 rfl) ?_
    refine lv_aload_n hx hb dL_law_714 rfl (lv_at hl 1 rfl) ?_
    refine lv_iload hx hb dL_law_715 (lv_at hl 5 rfl) ?_
    refine lv_iconst (v := 1) hx hb dL_law_717 (by decide) ?_
    refine lv_iadd hx hb dL_law_718 ?_
    refine x_top (y := nI (i + 1)) (nI_add i 1) ?_
    refine x_sld hx hb hX hbl hbA hS (i + 1) rfl (by omega) (by omega) dL_law_719 ?_
    refine xVM (q0 := 9) (ci := 3) (As := [.int (xs (i + 1))]) (rest := []) ⟨hx, hb, hml, hown, hts⟩ (c_X3_isSteep_x γ l m0 m1 m2 m3 m4 n kc th td (xs (i + 1)) hxb) (cwV 1 hts gL_law_X3_isSteep rfl rfl rfl hdv_X3_isSteep ⟨(Nat.le_of_ble_eq_true rfl), (Nat.le_of_ble_eq_true rfl)⟩) hK hP hD hS hA [9] rfl rfl rfl rfl rfl hl.1 rfl (Nat.le_of_ble_eq_true rfl) dL_law_720 ⟨(by omega : _ ≤ 601024), (by omega : _ ≤ 7293034)⟩ (fun r9 w9 H locs hw hP hD hS => ?_)
    obtain ⟨rfl, rfl⟩ := hw
    have hP : xP γ ([xO q0 2 [.ref q1, .ref q4, .int (nI kc), .int td, .ref q2, .ref q3], xO q1 0 [.ref a1, .int (nI n)], xA γ a1 12 f, xO q2 0 [.ref a2, .int tn], xA γ a2 12 tf, xO q3 1 [.ref a3, .int wn], xA γ a3 12 wf, xQ γ q4 6 (fun t9 => some (kq t9)), xL γ o 1 h, xO m0 3 [.int 1, .int (nI n), .int (nI kc), .int td, .ref m1, .ref m2, .ref m3, .ref m4], xA γ m1 12 f, xA γ m2 12 mt, xA γ m3 72 tg, xA γ m4 14 tp] ++ xKp γ kq ka kn (xGt tg)) H := hP
    have hD : va_D A ([xO q0 2 [.ref q1, .ref q4, .int (nI kc), .int td, .ref q2, .ref q3], xO q1 0 [.ref a1, .int (nI n)], xA γ a1 12 f, xO q2 0 [.ref a2, .int tn], xA γ a2 12 tf, xO q3 1 [.ref a3, .int wn], xA γ a3 12 wf, xQ γ q4 6 (fun t9 => some (kq t9)), xL γ o 1 h, xO m0 3 [.int 1, .int (nI n), .int (nI kc), .int td, .ref m1, .ref m2, .ref m3, .ref m4], xA γ m1 12 f, xA γ m2 12 mt, xA γ m3 72 tg, xA γ m4 14 tp] ++ xKp γ kq ka kn (xGt tg)) := hD
    refine W.eq (g2 := F0 m 723 ls [.int 0]) rfl ?_
    refine lv_istore (lv' := [(6, .int 0), (5, .int 1), (0, .ref b), (1, .ref q0), (2, .ref m0), (3, .ref o), (4, .int (nI i))]) hx hb dL_law_723 hl (by decide) rfl (fun ls hl => ?_)
    refine lv_aload_n hx hb dL_law_725 rfl (lv_at hl 4 rfl) ?_
    refine xVR (q0 := 9) (ci := 3) (As := []) (rest := []) (stk := [.int 1]) ⟨hx, hb, hml, hown, hts⟩ (c_X3_thrown γ l m0 m1 m2 m3 m4 n kc 1 td) (cwV 0 hts gL_law_X3_thrown rfl rfl rfl hdv_X3_thrown ⟨(Nat.le_of_ble_eq_true rfl), (Nat.le_of_ble_eq_true rfl)⟩) hK hP [9] rfl rfl rfl rfl hl.1 rfl (Nat.le_of_ble_eq_true rfl) dL_law_726 ⟨(by omega : _ ≤ 601024), (by omega : _ ≤ 7293034)⟩ rfl ?_
    refine lv_iload hx hb dL_law_729 (lv_at hl 1 rfl) ?_
    refine lv_icmp_eq (tgt := 736) hx hb dL_law_731 (by decide) (fun _ => ?_) (fun c => absurd (rfl) c)
    refine lv_iload hx hb dL_law_736 (lv_at hl 1 rfl) ?_
    refine lv_if_ne (tgt := 760) hx hb dL_law_738 (by decide) (fun _ => ?_) (fun c => absurd c (by decide))
    refine lv_goto (tgt := 1426) hx hb dL_law_760 (by decide) ?_
    exact K n kc td 1 tn wn f tf wf mt tg tp h kn _ _ d0 _ _ ls hd0 (hI.same hj) (hkn) hP hD hS (by omega) (by omega) (lv_sub hl [2, 3, 4, 5, 6] rfl)

theorem hdv_X3_targets : yX3_targets.cls = RX3 ∧ yX3_targets.cls ≠ "java/lang/invoke/MethodHandle" ∧ yX3_targets.cls ≠ "java/lang/invoke/VarHandle" ∧ (parseMethodDescriptor yX3_targets.desc).map (fun d => d.parameters.length) = some 0 := by decide +kernel
set_option maxHeartbeats 4000000 in
set_option maxRecDepth 100000 in
theorem xcase_targets {p : Program} {e : Env} {s : State} {m : MethodId} {below : List Frame} {meth : Method} {c : Code} (l : Launch) (hlt : l.stackTraces = false) {b L : Nat} {xs : Nat → Int32} (hL : L ≤ 1536) (C0 : lw_At p s m meth c b L xs) {γ : xG} (hK : xK γ s) (sa : Nat → Nat) (hEv : xEv s) (hEs : xEs sa s) (hEn : xEn s) {A : Nat → Prop} (hA : ∀ q : Nat, s.heap.size ≤ q → A q) (hbA : ¬ A b) (hEh : xEh A s s.heap) (q0 q1 a1 q2 a2 q3 a3 q4 o m0 m1 m2 m3 m4 : Nat) (kq ka : Nat → Nat) (j i : Nat) (hj : j < 512) (hi : i + 2 < L) (K : xK9 p l e s m below meth c b γ A q0 q1 a1 q2 a2 q3 a3 q4 o m0 m1 m2 m3 m4 kq ka (j + 1) i) (n kc : Nat) (td th tn wn : Int32) (f tf wf mt tg tp : xRow) (h : Nat → Int64) (kn : Nat → Int32) (H : Heap) (locs : List Loc) (d0 : Drawn) (cells slots : Nat) (ls : Array Slot) (hd0 : s.drawn.sameBut d0 lw_cs) (hI : xInv j n kc f tg) (hkn : ∀ t, t < kc → kn t = nI n) (hP : xP γ (LW γ q0 q1 a1 q2 a2 q3 a3 q4 o m0 m1 m2 m3 m4 kq ka n kc td th tn wn f tf wf mt tg tp h kn) H) (hD : va_D A (LW γ q0 q1 a1 q2 a2 q3 a3 q4 o m0 m1 m2 m3 m4 kq ka n kc td th tn wn f tf wf mt tg tp h kn)) (hS : va_S A s.heap H locs) (hc : cells ≤ 26 + j) (hs : slots ≤ 257 + 17 * j) (hl : lv_has ls 9 [(0, .ref b), (1, .ref q0), (2, .ref m0), (3, .ref o), (4, .int (nI i))]) : W p l e room_1 (s.setDrawn d0) m #[Value.ref b] below meth c H locs cells slots (lw_Z below #[Value.ref b] s) (F0 m 622 ls []) := by
  obtain ⟨hx, hb, hr, hml, hown, hts0, hX, hbl, hlocks, hgv⟩ := id C0
  have hts : ∀ w ∈ wsL_law, w.before #[Value.ref b] (s.setDrawn d0) = true := fun w h => dr_words hts0 d0 w (wsL_law_in w h)
  have hown : s.vm.findClass RL = some m.cls := hown
  have hX : va_X b L xs (s.setDrawn d0) s.heap := va_X.moved (u := s) (U := s.setDrawn d0) (Vm.Alike.refl s.vm) hX
  have hK : xK γ (s.setDrawn d0) := va_K.moved (u := s) (U := s.setDrawn d0) (Vm.Alike.refl s.vm) hK
  have hn0 := hI.1
  have hn1 := hI.2.1
  have hkc := hI.2.2.1
  have hP : xP γ ([xO q0 2 [.ref q1, .ref q4, .int (nI kc), .int td, .ref q2, .ref q3], xO q1 0 [.ref a1, .int (nI n)], xA γ a1 12 f, xO q2 0 [.ref a2, .int tn], xA γ a2 12 tf, xO q3 1 [.ref a3, .int wn], xA γ a3 12 wf, xQ γ q4 6 (fun t9 => some (kq t9)), xL γ o 1 h, xO m0 3 [.int th, .int (nI n), .int (nI kc), .int td, .ref m1, .ref m2, .ref m3, .ref m4], xA γ m1 12 f, xA γ m2 12 mt, xA γ m3 72 tg, xA γ m4 14 tp] ++ xKp γ kq ka kn (xGt tg)) H := hP
  have hD : va_D A ([xO q0 2 [.ref q1, .ref q4, .int (nI kc), .int td, .ref q2, .ref q3], xO q1 0 [.ref a1, .int (nI n)], xA γ a1 12 f, xO q2 0 [.ref a2, .int tn], xA γ a2 12 tf, xO q3 1 [.ref a3, .int wn], xA γ a3 12 wf, xQ γ q4 6 (fun t9 => some (kq t9)), xL γ o 1 h, xO m0 3 [.int th, .int (nI n), .int (nI kc), .int td, .ref m1, .ref m2, .ref m3, .ref m4], xA γ m1 12 f, xA γ m2 12 mt, xA γ m3 72 tg, xA γ m4 14 tp] ++ xKp γ kq ka kn (xGt tg)) := hD
  refine lv_aload_n hx hb dL_law_622 rfl (lv_at hl 1 rfl) ?_
  refine xVR (q0 := 0) (ci := 2) (As := []) (rest := []) (stk := [.int (nI kc)]) ⟨hx, hb, hml, hown, hts⟩ (c_X2_targets γ l q0 q1 q2 q3 q4 kc td) (cwV 0 hts gL_law_X2_targets rfl rfl rfl hdv_X2_targets ⟨(Nat.le_of_ble_eq_true rfl), (Nat.le_of_ble_eq_true rfl)⟩) hK hP [0] rfl rfl rfl rfl hl.1 rfl (Nat.le_of_ble_eq_true rfl) dL_law_623 ⟨(by omega : _ ≤ 601024), (by omega : _ ≤ 7293034)⟩ rfl ?_
  refine lv_aload_n hx hb dL_law_626 rfl (lv_at hl 2 rfl) ?_
  refine xVM (q0 := 9) (ci := 3) (As := []) (rest := [.int (nI kc)]) ⟨hx, hb, hml, hown, hts⟩ (c_X3_targets γ l m0 m1 m2 m3 m4 n kc th td) (cwV 0 hts gL_law_X3_targets rfl rfl rfl hdv_X3_targets ⟨(Nat.le_of_ble_eq_true rfl), (Nat.le_of_ble_eq_true rfl)⟩) hK hP hD hS hA [9] rfl rfl rfl rfl rfl hl.1 rfl (Nat.le_of_ble_eq_true rfl) dL_law_627 ⟨(by omega : _ ≤ 601024), (by omega : _ ≤ 7293034)⟩ (fun r9 w9 H locs hw hP hD hS => ?_)
  obtain ⟨rfl, rfl⟩ := hw
  have hP : xP γ ([xO q0 2 [.ref q1, .ref q4, .int (nI kc), .int td, .ref q2, .ref q3], xO q1 0 [.ref a1, .int (nI n)], xA γ a1 12 f, xO q2 0 [.ref a2, .int tn], xA γ a2 12 tf, xO q3 1 [.ref a3, .int wn], xA γ a3 12 wf, xQ γ q4 6 (fun t9 => some (kq t9)), xL γ o 1 h, xO m0 3 [.int 0, .int (nI n), .int (nI kc), .int td, .ref m1, .ref m2, .ref m3, .ref m4], xA γ m1 12 f, xA γ m2 12 mt, xA γ m3 72 tg, xA γ m4 14 tp] ++ xKp γ kq ka kn (xGt tg)) H := hP
  have hD : va_D A ([xO q0 2 [.ref q1, .ref q4, .int (nI kc), .int td, .ref q2, .ref q3], xO q1 0 [.ref a1, .int (nI n)], xA γ a1 12 f, xO q2 0 [.ref a2, .int tn], xA γ a2 12 tf, xO q3 1 [.ref a3, .int wn], xA γ a3 12 wf, xQ γ q4 6 (fun t9 => some (kq t9)), xL γ o 1 h, xO m0 3 [.int 0, .int (nI n), .int (nI kc), .int td, .ref m1, .ref m2, .ref m3, .ref m4], xA γ m1 12 f, xA γ m2 12 mt, xA γ m3 72 tg, xA γ m4 14 tp] ++ xKp γ kq ka kn (xGt tg)) := hD
  refine W.eq (g2 := F0 m 630 ls [.int (nI kc), .int (nI kc)]) rfl ?_
  refine lv_icmp_eq (tgt := 1426) hx hb dL_law_630 (by decide) (fun _ => ?_) (fun c => absurd (rfl) c)
  exact K n kc td 0 tn wn f tf wf mt tg tp h kn _ _ d0 _ _ ls hd0 (hI.same hj) (hkn) hP hD hS (by omega) (by omega) (lv_sub hl [0, 1, 2, 3, 4] rfl)

theorem hdv_X3_tips : yX3_tips.cls = RX3 ∧ yX3_tips.cls ≠ "java/lang/invoke/MethodHandle" ∧ yX3_tips.cls ≠ "java/lang/invoke/VarHandle" ∧ (parseMethodDescriptor yX3_tips.desc).map (fun d => d.parameters.length) = some 0 := by decide +kernel
set_option maxHeartbeats 4000000 in
set_option maxRecDepth 100000 in
theorem xcase_tips {p : Program} {e : Env} {s : State} {m : MethodId} {below : List Frame} {meth : Method} {c : Code} (l : Launch) (hlt : l.stackTraces = false) {b L : Nat} {xs : Nat → Int32} (hL : L ≤ 1536) (C0 : lw_At p s m meth c b L xs) {γ : xG} (hK : xK γ s) (sa : Nat → Nat) (hEv : xEv s) (hEs : xEs sa s) (hEn : xEn s) {A : Nat → Prop} (hA : ∀ q : Nat, s.heap.size ≤ q → A q) (hbA : ¬ A b) (hEh : xEh A s s.heap) (q0 q1 a1 q2 a2 q3 a3 q4 o m0 m1 m2 m3 m4 : Nat) (kq ka : Nat → Nat) (j i : Nat) (hj : j < 512) (hi : i + 2 < L) (K : xK9 p l e s m below meth c b γ A q0 q1 a1 q2 a2 q3 a3 q4 o m0 m1 m2 m3 m4 kq ka (j + 1) i) (n kc : Nat) (td th tn wn : Int32) (f tf wf mt tg tp : xRow) (h : Nat → Int64) (kn : Nat → Int32) (H : Heap) (locs : List Loc) (d0 : Drawn) (cells slots : Nat) (ls : Array Slot) (hd0 : s.drawn.sameBut d0 lw_cs) (hI : xInv j n kc f tg) (hkn : ∀ t, t < kc → kn t = nI n) (hP : xP γ (LW γ q0 q1 a1 q2 a2 q3 a3 q4 o m0 m1 m2 m3 m4 kq ka n kc td th tn wn f tf wf mt tg tp h kn) H) (hD : va_D A (LW γ q0 q1 a1 q2 a2 q3 a3 q4 o m0 m1 m2 m3 m4 kq ka n kc td th tn wn f tf wf mt tg tp h kn)) (hS : va_S A s.heap H locs) (hc : cells ≤ 26 + j) (hs : slots ≤ 257 + 17 * j) (hl : lv_has ls 9 [(0, .ref b), (1, .ref q0), (2, .ref m0), (3, .ref o), (4, .int (nI i))]) : W p l e room_1 (s.setDrawn d0) m #[Value.ref b] below meth c H locs cells slots (lw_Z below #[Value.ref b] s) (F0 m 635 ls []) := by
  obtain ⟨hx, hb, hr, hml, hown, hts0, hX, hbl, hlocks, hgv⟩ := id C0
  have hts : ∀ w ∈ wsL_law, w.before #[Value.ref b] (s.setDrawn d0) = true := fun w h => dr_words hts0 d0 w (wsL_law_in w h)
  have hown : s.vm.findClass RL = some m.cls := hown
  have hX : va_X b L xs (s.setDrawn d0) s.heap := va_X.moved (u := s) (U := s.setDrawn d0) (Vm.Alike.refl s.vm) hX
  have hK : xK γ (s.setDrawn d0) := va_K.moved (u := s) (U := s.setDrawn d0) (Vm.Alike.refl s.vm) hK
  have hn0 := hI.1
  have hn1 := hI.2.1
  have hkc := hI.2.2.1
  have hP : xP γ ([xO q0 2 [.ref q1, .ref q4, .int (nI kc), .int td, .ref q2, .ref q3], xO q1 0 [.ref a1, .int (nI n)], xA γ a1 12 f, xO q2 0 [.ref a2, .int tn], xA γ a2 12 tf, xO q3 1 [.ref a3, .int wn], xA γ a3 12 wf, xQ γ q4 6 (fun t9 => some (kq t9)), xL γ o 1 h, xO m0 3 [.int th, .int (nI n), .int (nI kc), .int td, .ref m1, .ref m2, .ref m3, .ref m4], xA γ m1 12 f, xA γ m2 12 mt, xA γ m3 72 tg, xA γ m4 14 tp] ++ xKp γ kq ka kn (xGt tg)) H := hP
  have hD : va_D A ([xO q0 2 [.ref q1, .ref q4, .int (nI kc), .int td, .ref q2, .ref q3], xO q1 0 [.ref a1, .int (nI n)], xA γ a1 12 f, xO q2 0 [.ref a2, .int tn], xA γ a2 12 tf, xO q3 1 [.ref a3, .int wn], xA γ a3 12 wf, xQ γ q4 6 (fun t9 => some (kq t9)), xL γ o 1 h, xO m0 3 [.int th, .int (nI n), .int (nI kc), .int td, .ref m1, .ref m2, .ref m3, .ref m4], xA γ m1 12 f, xA γ m2 12 mt, xA γ m3 72 tg, xA γ m4 14 tp] ++ xKp γ kq ka kn (xGt tg)) := hD
  refine lv_aload_n hx hb dL_law_635 rfl (lv_at hl 1 rfl) ?_
  refine xVR (q0 := 0) (ci := 2) (As := []) (rest := []) (stk := [.int td]) ⟨hx, hb, hml, hown, hts⟩ (c_X2_tips γ l q0 q1 q2 q3 q4 kc td) (cwV 0 hts gL_law_X2_tips rfl rfl rfl hdv_X2_tips ⟨(Nat.le_of_ble_eq_true rfl), (Nat.le_of_ble_eq_true rfl)⟩) hK hP [0] rfl rfl rfl rfl hl.1 rfl (Nat.le_of_ble_eq_true rfl) dL_law_636 ⟨(by omega : _ ≤ 601024), (by omega : _ ≤ 7293034)⟩ rfl ?_
  refine lv_aload_n hx hb dL_law_639 rfl (lv_at hl 2 rfl) ?_
  refine xVM (q0 := 9) (ci := 3) (As := []) (rest := [.int td]) ⟨hx, hb, hml, hown, hts⟩ (c_X3_tips γ l m0 m1 m2 m3 m4 n kc th td) (cwV 0 hts gL_law_X3_tips rfl rfl rfl hdv_X3_tips ⟨(Nat.le_of_ble_eq_true rfl), (Nat.le_of_ble_eq_true rfl)⟩) hK hP hD hS hA [9] rfl rfl rfl rfl rfl hl.1 rfl (Nat.le_of_ble_eq_true rfl) dL_law_640 ⟨(by omega : _ ≤ 601024), (by omega : _ ≤ 7293034)⟩ (fun r9 w9 H locs hw hP hD hS => ?_)
  obtain ⟨rfl, rfl⟩ := hw
  have hP : xP γ ([xO q0 2 [.ref q1, .ref q4, .int (nI kc), .int td, .ref q2, .ref q3], xO q1 0 [.ref a1, .int (nI n)], xA γ a1 12 f, xO q2 0 [.ref a2, .int tn], xA γ a2 12 tf, xO q3 1 [.ref a3, .int wn], xA γ a3 12 wf, xQ γ q4 6 (fun t9 => some (kq t9)), xL γ o 1 h, xO m0 3 [.int 0, .int (nI n), .int (nI kc), .int td, .ref m1, .ref m2, .ref m3, .ref m4], xA γ m1 12 f, xA γ m2 12 mt, xA γ m3 72 tg, xA γ m4 14 tp] ++ xKp γ kq ka kn (xGt tg)) H := hP
  have hD : va_D A ([xO q0 2 [.ref q1, .ref q4, .int (nI kc), .int td, .ref q2, .ref q3], xO q1 0 [.ref a1, .int (nI n)], xA γ a1 12 f, xO q2 0 [.ref a2, .int tn], xA γ a2 12 tf, xO q3 1 [.ref a3, .int wn], xA γ a3 12 wf, xQ γ q4 6 (fun t9 => some (kq t9)), xL γ o 1 h, xO m0 3 [.int 0, .int (nI n), .int (nI kc), .int td, .ref m1, .ref m2, .ref m3, .ref m4], xA γ m1 12 f, xA γ m2 12 mt, xA γ m3 72 tg, xA γ m4 14 tp] ++ xKp γ kq ka kn (xGt tg)) := hD
  refine W.eq (g2 := F0 m 643 ls [.int td, .int td]) rfl ?_
  refine lv_icmp_eq (tgt := 1426) hx hb dL_law_643 (by decide) (fun _ => ?_) (fun c => absurd (rfl) c)
  exact K n kc td 0 tn wn f tf wf mt tg tp h kn _ _ d0 _ _ ls hd0 (hI.same hj) (hkn) hP hD hS (by omega) (by omega) (lv_sub hl [0, 1, 2, 3, 4] rfl)

theorem hdv_X3_sum : yX3_sum.cls = RX3 ∧ yX3_sum.cls ≠ "java/lang/invoke/MethodHandle" ∧ yX3_sum.cls ≠ "java/lang/invoke/VarHandle" ∧ (parseMethodDescriptor yX3_sum.desc).map (fun d => d.parameters.length) = some 0 := by decide +kernel
set_option maxHeartbeats 4000000 in
set_option maxRecDepth 100000 in
theorem xcase_sum {p : Program} {e : Env} {s : State} {m : MethodId} {below : List Frame} {meth : Method} {c : Code} (l : Launch) (hlt : l.stackTraces = false) {b L : Nat} {xs : Nat → Int32} (hL : L ≤ 1536) (C0 : lw_At p s m meth c b L xs) {γ : xG} (hK : xK γ s) (sa : Nat → Nat) (hEv : xEv s) (hEs : xEs sa s) (hEn : xEn s) {A : Nat → Prop} (hA : ∀ q : Nat, s.heap.size ≤ q → A q) (hbA : ¬ A b) (hEh : xEh A s s.heap) (q0 q1 a1 q2 a2 q3 a3 q4 o m0 m1 m2 m3 m4 : Nat) (kq ka : Nat → Nat) (j i : Nat) (hj : j < 512) (hi : i + 2 < L) (K : xK9 p l e s m below meth c b γ A q0 q1 a1 q2 a2 q3 a3 q4 o m0 m1 m2 m3 m4 kq ka (j + 1) i) (n kc : Nat) (td th tn wn : Int32) (f tf wf mt tg tp : xRow) (h : Nat → Int64) (kn : Nat → Int32) (H : Heap) (locs : List Loc) (d0 : Drawn) (cells slots : Nat) (ls : Array Slot) (hd0 : s.drawn.sameBut d0 lw_cs) (hI : xInv j n kc f tg) (hkn : ∀ t, t < kc → kn t = nI n) (hP : xP γ (LW γ q0 q1 a1 q2 a2 q3 a3 q4 o m0 m1 m2 m3 m4 kq ka n kc td th tn wn f tf wf mt tg tp h kn) H) (hD : va_D A (LW γ q0 q1 a1 q2 a2 q3 a3 q4 o m0 m1 m2 m3 m4 kq ka n kc td th tn wn f tf wf mt tg tp h kn)) (hS : va_S A s.heap H locs) (hc : cells ≤ 26 + j) (hs : slots ≤ 257 + 17 * j) (hl : lv_has ls 9 [(0, .ref b), (1, .ref q0), (2, .ref m0), (3, .ref o), (4, .int (nI i))]) : W p l e room_1 (s.setDrawn d0) m #[Value.ref b] below meth c H locs cells slots (lw_Z below #[Value.ref b] s) (F0 m 648 ls []) := by
  obtain ⟨hx, hb, hr, hml, hown, hts0, hX, hbl, hlocks, hgv⟩ := id C0
  have hts : ∀ w ∈ wsL_law, w.before #[Value.ref b] (s.setDrawn d0) = true := fun w h => dr_words hts0 d0 w (wsL_law_in w h)
  have hown : s.vm.findClass RL = some m.cls := hown
  have hX : va_X b L xs (s.setDrawn d0) s.heap := va_X.moved (u := s) (U := s.setDrawn d0) (Vm.Alike.refl s.vm) hX
  have hK : xK γ (s.setDrawn d0) := va_K.moved (u := s) (U := s.setDrawn d0) (Vm.Alike.refl s.vm) hK
  have hn0 := hI.1
  have hn1 := hI.2.1
  have hkc := hI.2.2.1
  have hP : xP γ ([xO q0 2 [.ref q1, .ref q4, .int (nI kc), .int td, .ref q2, .ref q3], xO q1 0 [.ref a1, .int (nI n)], xA γ a1 12 f, xO q2 0 [.ref a2, .int tn], xA γ a2 12 tf, xO q3 1 [.ref a3, .int wn], xA γ a3 12 wf, xQ γ q4 6 (fun t9 => some (kq t9)), xL γ o 1 h, xO m0 3 [.int th, .int (nI n), .int (nI kc), .int td, .ref m1, .ref m2, .ref m3, .ref m4], xA γ m1 12 f, xA γ m2 12 mt, xA γ m3 72 tg, xA γ m4 14 tp] ++ xKp γ kq ka kn (xGt tg)) H := hP
  have hD : va_D A ([xO q0 2 [.ref q1, .ref q4, .int (nI kc), .int td, .ref q2, .ref q3], xO q1 0 [.ref a1, .int (nI n)], xA γ a1 12 f, xO q2 0 [.ref a2, .int tn], xA γ a2 12 tf, xO q3 1 [.ref a3, .int wn], xA γ a3 12 wf, xQ γ q4 6 (fun t9 => some (kq t9)), xL γ o 1 h, xO m0 3 [.int th, .int (nI n), .int (nI kc), .int td, .ref m1, .ref m2, .ref m3, .ref m4], xA γ m1 12 f, xA γ m2 12 mt, xA γ m3 72 tg, xA γ m4 14 tp] ++ xKp γ kq ka kn (xGt tg)) := hD
  refine lv_aload_n hx hb dL_law_648 rfl (lv_at hl 1 rfl) ?_
  refine xVR (q0 := 0) (ci := 2) (As := []) (rest := []) (stk := [.int (xTot f n)]) ⟨hx, hb, hml, hown, hts⟩ (c_X2_sum γ l q0 q1 q2 q3 q4 kc td a1 n f (by omega) (by omega)) (cwV 0 hts gL_law_X2_sum rfl rfl rfl hdv_X2_sum ⟨(Nat.le_of_ble_eq_true rfl), (Nat.le_of_ble_eq_true rfl)⟩) hK hP [0, 1, 2] rfl rfl rfl rfl hl.1 rfl (Nat.le_of_ble_eq_true rfl) dL_law_649 ⟨(by omega : _ ≤ 601024), (by omega : _ ≤ 7293034)⟩ rfl ?_
  refine lv_aload_n hx hb dL_law_652 rfl (lv_at hl 2 rfl) ?_
  refine xVM (q0 := 9) (ci := 3) (As := []) (rest := [.int (xTot f n)]) ⟨hx, hb, hml, hown, hts⟩ (c_X3_sum γ l m0 m1 m2 m3 m4 n kc th td f hn0 hn1) (cwV 0 hts gL_law_X3_sum rfl rfl rfl hdv_X3_sum ⟨(Nat.le_of_ble_eq_true rfl), (Nat.le_of_ble_eq_true rfl)⟩) hK hP hD hS hA [9, 10] rfl rfl rfl rfl rfl hl.1 rfl (Nat.le_of_ble_eq_true rfl) dL_law_653 ⟨(by omega : _ ≤ 601024), (by omega : _ ≤ 7293034)⟩ (fun r9 w9 H locs hw hP hD hS => ?_)
  obtain ⟨rfl, rfl⟩ := hw
  have hP : xP γ ([xO q0 2 [.ref q1, .ref q4, .int (nI kc), .int td, .ref q2, .ref q3], xO q1 0 [.ref a1, .int (nI n)], xA γ a1 12 f, xO q2 0 [.ref a2, .int tn], xA γ a2 12 tf, xO q3 1 [.ref a3, .int wn], xA γ a3 12 wf, xQ γ q4 6 (fun t9 => some (kq t9)), xL γ o 1 h, xO m0 3 [.int 0, .int (nI n), .int (nI kc), .int td, .ref m1, .ref m2, .ref m3, .ref m4], xA γ m1 12 f, xA γ m2 12 mt, xA γ m3 72 tg, xA γ m4 14 tp] ++ xKp γ kq ka kn (xGt tg)) H := hP
  have hD : va_D A ([xO q0 2 [.ref q1, .ref q4, .int (nI kc), .int td, .ref q2, .ref q3], xO q1 0 [.ref a1, .int (nI n)], xA γ a1 12 f, xO q2 0 [.ref a2, .int tn], xA γ a2 12 tf, xO q3 1 [.ref a3, .int wn], xA γ a3 12 wf, xQ γ q4 6 (fun t9 => some (kq t9)), xL γ o 1 h, xO m0 3 [.int 0, .int (nI n), .int (nI kc), .int td, .ref m1, .ref m2, .ref m3, .ref m4], xA γ m1 12 f, xA γ m2 12 mt, xA γ m3 72 tg, xA γ m4 14 tp] ++ xKp γ kq ka kn (xGt tg)) := hD
  refine W.eq (g2 := F0 m 656 ls [.int (xTot f n), .int (xTot f n)]) rfl ?_
  refine lv_icmp_eq (tgt := 1426) hx hb dL_law_656 (by decide) (fun _ => ?_) (fun c => absurd (rfl) c)
  exact K n kc td 0 tn wn f tf wf mt tg tp h kn _ _ d0 _ _ ls hd0 (hI.same hj) (hkn) hP hD hS (by omega) (by omega) (lv_sub hl [0, 1, 2, 3, 4] rfl)

theorem hdv_X3_moment : yX3_moment.cls = RX3 ∧ yX3_moment.cls ≠ "java/lang/invoke/MethodHandle" ∧ yX3_moment.cls ≠ "java/lang/invoke/VarHandle" ∧ (parseMethodDescriptor yX3_moment.desc).map (fun d => d.parameters.length) = some 0 := by decide +kernel
set_option maxHeartbeats 4000000 in
set_option maxRecDepth 100000 in
theorem xcase_moment {p : Program} {e : Env} {s : State} {m : MethodId} {below : List Frame} {meth : Method} {c : Code} (l : Launch) (hlt : l.stackTraces = false) {b L : Nat} {xs : Nat → Int32} (hL : L ≤ 1536) (C0 : lw_At p s m meth c b L xs) {γ : xG} (hK : xK γ s) (sa : Nat → Nat) (hEv : xEv s) (hEs : xEs sa s) (hEn : xEn s) {A : Nat → Prop} (hA : ∀ q : Nat, s.heap.size ≤ q → A q) (hbA : ¬ A b) (hEh : xEh A s s.heap) (q0 q1 a1 q2 a2 q3 a3 q4 o m0 m1 m2 m3 m4 : Nat) (kq ka : Nat → Nat) (j i : Nat) (hj : j < 512) (hi : i + 2 < L) (K : xK9 p l e s m below meth c b γ A q0 q1 a1 q2 a2 q3 a3 q4 o m0 m1 m2 m3 m4 kq ka (j + 1) i) (n kc : Nat) (td th tn wn : Int32) (f tf wf mt tg tp : xRow) (h : Nat → Int64) (kn : Nat → Int32) (H : Heap) (locs : List Loc) (d0 : Drawn) (cells slots : Nat) (ls : Array Slot) (hd0 : s.drawn.sameBut d0 lw_cs) (hI : xInv j n kc f tg) (hkn : ∀ t, t < kc → kn t = nI n) (hP : xP γ (LW γ q0 q1 a1 q2 a2 q3 a3 q4 o m0 m1 m2 m3 m4 kq ka n kc td th tn wn f tf wf mt tg tp h kn) H) (hD : va_D A (LW γ q0 q1 a1 q2 a2 q3 a3 q4 o m0 m1 m2 m3 m4 kq ka n kc td th tn wn f tf wf mt tg tp h kn)) (hS : va_S A s.heap H locs) (hc : cells ≤ 26 + j) (hs : slots ≤ 257 + 17 * j) (hl : lv_has ls 9 [(0, .ref b), (1, .ref q0), (2, .ref m0), (3, .ref o), (4, .int (nI i))]) : W p l e room_1 (s.setDrawn d0) m #[Value.ref b] below meth c H locs cells slots (lw_Z below #[Value.ref b] s) (F0 m 661 ls []) := by
  obtain ⟨hx, hb, hr, hml, hown, hts0, hX, hbl, hlocks, hgv⟩ := id C0
  have hts : ∀ w ∈ wsL_law, w.before #[Value.ref b] (s.setDrawn d0) = true := fun w h => dr_words hts0 d0 w (wsL_law_in w h)
  have hown : s.vm.findClass RL = some m.cls := hown
  have hX : va_X b L xs (s.setDrawn d0) s.heap := va_X.moved (u := s) (U := s.setDrawn d0) (Vm.Alike.refl s.vm) hX
  have hK : xK γ (s.setDrawn d0) := va_K.moved (u := s) (U := s.setDrawn d0) (Vm.Alike.refl s.vm) hK
  have hn0 := hI.1
  have hn1 := hI.2.1
  have hkc := hI.2.2.1
  have hP : xP γ ([xO q0 2 [.ref q1, .ref q4, .int (nI kc), .int td, .ref q2, .ref q3], xO q1 0 [.ref a1, .int (nI n)], xA γ a1 12 f, xO q2 0 [.ref a2, .int tn], xA γ a2 12 tf, xO q3 1 [.ref a3, .int wn], xA γ a3 12 wf, xQ γ q4 6 (fun t9 => some (kq t9)), xL γ o 1 h, xO m0 3 [.int th, .int (nI n), .int (nI kc), .int td, .ref m1, .ref m2, .ref m3, .ref m4], xA γ m1 12 f, xA γ m2 12 mt, xA γ m3 72 tg, xA γ m4 14 tp] ++ xKp γ kq ka kn (xGt tg)) H := hP
  have hD : va_D A ([xO q0 2 [.ref q1, .ref q4, .int (nI kc), .int td, .ref q2, .ref q3], xO q1 0 [.ref a1, .int (nI n)], xA γ a1 12 f, xO q2 0 [.ref a2, .int tn], xA γ a2 12 tf, xO q3 1 [.ref a3, .int wn], xA γ a3 12 wf, xQ γ q4 6 (fun t9 => some (kq t9)), xL γ o 1 h, xO m0 3 [.int th, .int (nI n), .int (nI kc), .int td, .ref m1, .ref m2, .ref m3, .ref m4], xA γ m1 12 f, xA γ m2 12 mt, xA γ m3 72 tg, xA γ m4 14 tp] ++ xKp γ kq ka kn (xGt tg)) := hD
  refine lv_aload_n hx hb dL_law_661 rfl (lv_at hl 1 rfl) ?_
  refine xVR (q0 := 0) (ci := 2) (As := []) (rest := []) (stk := [.int (xMm n f)]) ⟨hx, hb, hml, hown, hts⟩ (c_X2_moment γ l q0 q1 q2 q3 q4 kc td a1 n f (by omega) (by omega)) (cwV 0 hts gL_law_X2_moment rfl rfl rfl hdv_X2_moment ⟨(Nat.le_of_ble_eq_true rfl), (Nat.le_of_ble_eq_true rfl)⟩) hK hP [0, 1, 2] rfl rfl rfl rfl hl.1 rfl (Nat.le_of_ble_eq_true rfl) dL_law_662 ⟨(by omega : _ ≤ 601024), (by omega : _ ≤ 7293034)⟩ rfl ?_
  refine lv_aload_n hx hb dL_law_665 rfl (lv_at hl 2 rfl) ?_
  refine xVM (q0 := 9) (ci := 3) (As := []) (rest := [.int (xMm n f)]) ⟨hx, hb, hml, hown, hts⟩ (c_X3_moment γ l m0 m1 m2 m3 m4 n kc th td f hn0 hn1) (cwV 0 hts gL_law_X3_moment rfl rfl rfl hdv_X3_moment ⟨(Nat.le_of_ble_eq_true rfl), (Nat.le_of_ble_eq_true rfl)⟩) hK hP hD hS hA [9, 10] rfl rfl rfl rfl rfl hl.1 rfl (Nat.le_of_ble_eq_true rfl) dL_law_666 ⟨(by omega : _ ≤ 601024), (by omega : _ ≤ 7293034)⟩ (fun r9 w9 H locs hw hP hD hS => ?_)
  obtain ⟨rfl, rfl⟩ := hw
  have hP : xP γ ([xO q0 2 [.ref q1, .ref q4, .int (nI kc), .int td, .ref q2, .ref q3], xO q1 0 [.ref a1, .int (nI n)], xA γ a1 12 f, xO q2 0 [.ref a2, .int tn], xA γ a2 12 tf, xO q3 1 [.ref a3, .int wn], xA γ a3 12 wf, xQ γ q4 6 (fun t9 => some (kq t9)), xL γ o 1 h, xO m0 3 [.int 0, .int (nI n), .int (nI kc), .int td, .ref m1, .ref m2, .ref m3, .ref m4], xA γ m1 12 f, xA γ m2 12 mt, xA γ m3 72 tg, xA γ m4 14 tp] ++ xKp γ kq ka kn (xGt tg)) H := hP
  have hD : va_D A ([xO q0 2 [.ref q1, .ref q4, .int (nI kc), .int td, .ref q2, .ref q3], xO q1 0 [.ref a1, .int (nI n)], xA γ a1 12 f, xO q2 0 [.ref a2, .int tn], xA γ a2 12 tf, xO q3 1 [.ref a3, .int wn], xA γ a3 12 wf, xQ γ q4 6 (fun t9 => some (kq t9)), xL γ o 1 h, xO m0 3 [.int 0, .int (nI n), .int (nI kc), .int td, .ref m1, .ref m2, .ref m3, .ref m4], xA γ m1 12 f, xA γ m2 12 mt, xA γ m3 72 tg, xA γ m4 14 tp] ++ xKp γ kq ka kn (xGt tg)) := hD
  refine W.eq (g2 := F0 m 669 ls [.int (xMm n f), .int (xMm n f)]) rfl ?_
  refine lv_icmp_eq (tgt := 1426) hx hb dL_law_669 (by decide) (fun _ => ?_) (fun c => absurd (rfl) c)
  exact K n kc td 0 tn wn f tf wf mt tg tp h kn _ _ d0 _ _ ls hd0 (hI.same hj) (hkn) hP hD hS (by omega) (by omega) (lv_sub hl [0, 1, 2, 3, 4] rfl)

theorem hdv_X3_spread : yX3_spread.cls = RX3 ∧ yX3_spread.cls ≠ "java/lang/invoke/MethodHandle" ∧ yX3_spread.cls ≠ "java/lang/invoke/VarHandle" ∧ (parseMethodDescriptor yX3_spread.desc).map (fun d => d.parameters.length) = some 0 := by decide +kernel
set_option maxHeartbeats 4000000 in
set_option maxRecDepth 100000 in
theorem xcase_spread {p : Program} {e : Env} {s : State} {m : MethodId} {below : List Frame} {meth : Method} {c : Code} (l : Launch) (hlt : l.stackTraces = false) {b L : Nat} {xs : Nat → Int32} (hL : L ≤ 1536) (C0 : lw_At p s m meth c b L xs) {γ : xG} (hK : xK γ s) (sa : Nat → Nat) (hEv : xEv s) (hEs : xEs sa s) (hEn : xEn s) {A : Nat → Prop} (hA : ∀ q : Nat, s.heap.size ≤ q → A q) (hbA : ¬ A b) (hEh : xEh A s s.heap) (q0 q1 a1 q2 a2 q3 a3 q4 o m0 m1 m2 m3 m4 : Nat) (kq ka : Nat → Nat) (j i : Nat) (hj : j < 512) (hi : i + 2 < L) (K : xK9 p l e s m below meth c b γ A q0 q1 a1 q2 a2 q3 a3 q4 o m0 m1 m2 m3 m4 kq ka (j + 1) i) (n kc : Nat) (td th tn wn : Int32) (f tf wf mt tg tp : xRow) (h : Nat → Int64) (kn : Nat → Int32) (H : Heap) (locs : List Loc) (d0 : Drawn) (cells slots : Nat) (ls : Array Slot) (hd0 : s.drawn.sameBut d0 lw_cs) (hI : xInv j n kc f tg) (hkn : ∀ t, t < kc → kn t = nI n) (hP : xP γ (LW γ q0 q1 a1 q2 a2 q3 a3 q4 o m0 m1 m2 m3 m4 kq ka n kc td th tn wn f tf wf mt tg tp h kn) H) (hD : va_D A (LW γ q0 q1 a1 q2 a2 q3 a3 q4 o m0 m1 m2 m3 m4 kq ka n kc td th tn wn f tf wf mt tg tp h kn)) (hS : va_S A s.heap H locs) (hc : cells ≤ 26 + j) (hs : slots ≤ 257 + 17 * j) (hl : lv_has ls 9 [(0, .ref b), (1, .ref q0), (2, .ref m0), (3, .ref o), (4, .int (nI i))]) : W p l e room_1 (s.setDrawn d0) m #[Value.ref b] below meth c H locs cells slots (lw_Z below #[Value.ref b] s) (F0 m 674 ls []) := by
  obtain ⟨hx, hb, hr, hml, hown, hts0, hX, hbl, hlocks, hgv⟩ := id C0
  have hts : ∀ w ∈ wsL_law, w.before #[Value.ref b] (s.setDrawn d0) = true := fun w h => dr_words hts0 d0 w (wsL_law_in w h)
  have hown : s.vm.findClass RL = some m.cls := hown
  have hX : va_X b L xs (s.setDrawn d0) s.heap := va_X.moved (u := s) (U := s.setDrawn d0) (Vm.Alike.refl s.vm) hX
  have hK : xK γ (s.setDrawn d0) := va_K.moved (u := s) (U := s.setDrawn d0) (Vm.Alike.refl s.vm) hK
  have hn0 := hI.1
  have hn1 := hI.2.1
  have hkc := hI.2.2.1
  have hP : xP γ ([xO q0 2 [.ref q1, .ref q4, .int (nI kc), .int td, .ref q2, .ref q3], xO q1 0 [.ref a1, .int (nI n)], xA γ a1 12 f, xO q2 0 [.ref a2, .int tn], xA γ a2 12 tf, xO q3 1 [.ref a3, .int wn], xA γ a3 12 wf, xQ γ q4 6 (fun t9 => some (kq t9)), xL γ o 1 h, xO m0 3 [.int th, .int (nI n), .int (nI kc), .int td, .ref m1, .ref m2, .ref m3, .ref m4], xA γ m1 12 f, xA γ m2 12 mt, xA γ m3 72 tg, xA γ m4 14 tp] ++ xKp γ kq ka kn (xGt tg)) H := hP
  have hD : va_D A ([xO q0 2 [.ref q1, .ref q4, .int (nI kc), .int td, .ref q2, .ref q3], xO q1 0 [.ref a1, .int (nI n)], xA γ a1 12 f, xO q2 0 [.ref a2, .int tn], xA γ a2 12 tf, xO q3 1 [.ref a3, .int wn], xA γ a3 12 wf, xQ γ q4 6 (fun t9 => some (kq t9)), xL γ o 1 h, xO m0 3 [.int th, .int (nI n), .int (nI kc), .int td, .ref m1, .ref m2, .ref m3, .ref m4], xA γ m1 12 f, xA γ m2 12 mt, xA γ m3 72 tg, xA γ m4 14 tp] ++ xKp γ kq ka kn (xGt tg)) := hD
  refine lv_aload_n hx hb dL_law_674 rfl (lv_at hl 1 rfl) ?_
  refine xVR (q0 := 0) (ci := 2) (As := []) (rest := []) (stk := [.int (xSpn n f)]) ⟨hx, hb, hml, hown, hts⟩ (c_X2_spread γ l q0 q1 q2 q3 q4 kc td a1 n f (by omega) (by omega)) (cwV 0 hts gL_law_X2_spread rfl rfl rfl hdv_X2_spread ⟨(Nat.le_of_ble_eq_true rfl), (Nat.le_of_ble_eq_true rfl)⟩) hK hP [0, 1, 2] rfl rfl rfl rfl hl.1 rfl (Nat.le_of_ble_eq_true rfl) dL_law_675 ⟨(by omega : _ ≤ 601024), (by omega : _ ≤ 7293034)⟩ rfl ?_
  refine lv_aload_n hx hb dL_law_678 rfl (lv_at hl 2 rfl) ?_
  refine xVM (q0 := 9) (ci := 3) (As := []) (rest := [.int (xSpn n f)]) ⟨hx, hb, hml, hown, hts⟩ (c_X3_spread γ l m0 m1 m2 m3 m4 n kc th td f hn0 hn1) (cwV 0 hts gL_law_X3_spread rfl rfl rfl hdv_X3_spread ⟨(Nat.le_of_ble_eq_true rfl), (Nat.le_of_ble_eq_true rfl)⟩) hK hP hD hS hA [9, 10] rfl rfl rfl rfl rfl hl.1 rfl (Nat.le_of_ble_eq_true rfl) dL_law_679 ⟨(by omega : _ ≤ 601024), (by omega : _ ≤ 7293034)⟩ (fun r9 w9 H locs hw hP hD hS => ?_)
  obtain ⟨rfl, rfl⟩ := hw
  have hP : xP γ ([xO q0 2 [.ref q1, .ref q4, .int (nI kc), .int td, .ref q2, .ref q3], xO q1 0 [.ref a1, .int (nI n)], xA γ a1 12 f, xO q2 0 [.ref a2, .int tn], xA γ a2 12 tf, xO q3 1 [.ref a3, .int wn], xA γ a3 12 wf, xQ γ q4 6 (fun t9 => some (kq t9)), xL γ o 1 h, xO m0 3 [.int 0, .int (nI n), .int (nI kc), .int td, .ref m1, .ref m2, .ref m3, .ref m4], xA γ m1 12 f, xA γ m2 12 mt, xA γ m3 72 tg, xA γ m4 14 tp] ++ xKp γ kq ka kn (xGt tg)) H := hP
  have hD : va_D A ([xO q0 2 [.ref q1, .ref q4, .int (nI kc), .int td, .ref q2, .ref q3], xO q1 0 [.ref a1, .int (nI n)], xA γ a1 12 f, xO q2 0 [.ref a2, .int tn], xA γ a2 12 tf, xO q3 1 [.ref a3, .int wn], xA γ a3 12 wf, xQ γ q4 6 (fun t9 => some (kq t9)), xL γ o 1 h, xO m0 3 [.int 0, .int (nI n), .int (nI kc), .int td, .ref m1, .ref m2, .ref m3, .ref m4], xA γ m1 12 f, xA γ m2 12 mt, xA γ m3 72 tg, xA γ m4 14 tp] ++ xKp γ kq ka kn (xGt tg)) := hD
  refine W.eq (g2 := F0 m 682 ls [.int (xSpn n f), .int (xSpn n f)]) rfl ?_
  refine lv_icmp_eq (tgt := 1426) hx hb dL_law_682 (by decide) (fun _ => ?_) (fun c => absurd (rfl) c)
  exact K n kc td 0 tn wn f tf wf mt tg tp h kn _ _ d0 _ _ ls hd0 (hI.same hj) (hkn) hP hD hS (by omega) (by omega) (lv_sub hl [0, 1, 2, 3, 4] rfl)

theorem hdv_X3_highest : yX3_highest.cls = RX3 ∧ yX3_highest.cls ≠ "java/lang/invoke/MethodHandle" ∧ yX3_highest.cls ≠ "java/lang/invoke/VarHandle" ∧ (parseMethodDescriptor yX3_highest.desc).map (fun d => d.parameters.length) = some 0 := by decide +kernel
set_option maxHeartbeats 4000000 in
set_option maxRecDepth 100000 in
theorem xcase_highest {p : Program} {e : Env} {s : State} {m : MethodId} {below : List Frame} {meth : Method} {c : Code} (l : Launch) (hlt : l.stackTraces = false) {b L : Nat} {xs : Nat → Int32} (hL : L ≤ 1536) (C0 : lw_At p s m meth c b L xs) {γ : xG} (hK : xK γ s) (sa : Nat → Nat) (hEv : xEv s) (hEs : xEs sa s) (hEn : xEn s) {A : Nat → Prop} (hA : ∀ q : Nat, s.heap.size ≤ q → A q) (hbA : ¬ A b) (hEh : xEh A s s.heap) (q0 q1 a1 q2 a2 q3 a3 q4 o m0 m1 m2 m3 m4 : Nat) (kq ka : Nat → Nat) (j i : Nat) (hj : j < 512) (hi : i + 2 < L) (K : xK9 p l e s m below meth c b γ A q0 q1 a1 q2 a2 q3 a3 q4 o m0 m1 m2 m3 m4 kq ka (j + 1) i) (n kc : Nat) (td th tn wn : Int32) (f tf wf mt tg tp : xRow) (h : Nat → Int64) (kn : Nat → Int32) (H : Heap) (locs : List Loc) (d0 : Drawn) (cells slots : Nat) (ls : Array Slot) (hd0 : s.drawn.sameBut d0 lw_cs) (hI : xInv j n kc f tg) (hkn : ∀ t, t < kc → kn t = nI n) (hP : xP γ (LW γ q0 q1 a1 q2 a2 q3 a3 q4 o m0 m1 m2 m3 m4 kq ka n kc td th tn wn f tf wf mt tg tp h kn) H) (hD : va_D A (LW γ q0 q1 a1 q2 a2 q3 a3 q4 o m0 m1 m2 m3 m4 kq ka n kc td th tn wn f tf wf mt tg tp h kn)) (hS : va_S A s.heap H locs) (hc : cells ≤ 26 + j) (hs : slots ≤ 257 + 17 * j) (hl : lv_has ls 9 [(0, .ref b), (1, .ref q0), (2, .ref m0), (3, .ref o), (4, .int (nI i))]) : W p l e room_1 (s.setDrawn d0) m #[Value.ref b] below meth c H locs cells slots (lw_Z below #[Value.ref b] s) (F0 m 687 ls []) := by
  obtain ⟨hx, hb, hr, hml, hown, hts0, hX, hbl, hlocks, hgv⟩ := id C0
  have hts : ∀ w ∈ wsL_law, w.before #[Value.ref b] (s.setDrawn d0) = true := fun w h => dr_words hts0 d0 w (wsL_law_in w h)
  have hown : s.vm.findClass RL = some m.cls := hown
  have hX : va_X b L xs (s.setDrawn d0) s.heap := va_X.moved (u := s) (U := s.setDrawn d0) (Vm.Alike.refl s.vm) hX
  have hK : xK γ (s.setDrawn d0) := va_K.moved (u := s) (U := s.setDrawn d0) (Vm.Alike.refl s.vm) hK
  have hn0 := hI.1
  have hn1 := hI.2.1
  have hkc := hI.2.2.1
  have hP : xP γ ([xO q0 2 [.ref q1, .ref q4, .int (nI kc), .int td, .ref q2, .ref q3], xO q1 0 [.ref a1, .int (nI n)], xA γ a1 12 f, xO q2 0 [.ref a2, .int tn], xA γ a2 12 tf, xO q3 1 [.ref a3, .int wn], xA γ a3 12 wf, xQ γ q4 6 (fun t9 => some (kq t9)), xL γ o 1 h, xO m0 3 [.int th, .int (nI n), .int (nI kc), .int td, .ref m1, .ref m2, .ref m3, .ref m4], xA γ m1 12 f, xA γ m2 12 mt, xA γ m3 72 tg, xA γ m4 14 tp] ++ xKp γ kq ka kn (xGt tg)) H := hP
  have hD : va_D A ([xO q0 2 [.ref q1, .ref q4, .int (nI kc), .int td, .ref q2, .ref q3], xO q1 0 [.ref a1, .int (nI n)], xA γ a1 12 f, xO q2 0 [.ref a2, .int tn], xA γ a2 12 tf, xO q3 1 [.ref a3, .int wn], xA γ a3 12 wf, xQ γ q4 6 (fun t9 => some (kq t9)), xL γ o 1 h, xO m0 3 [.int th, .int (nI n), .int (nI kc), .int td, .ref m1, .ref m2, .ref m3, .ref m4], xA γ m1 12 f, xA γ m2 12 mt, xA γ m3 72 tg, xA γ m4 14 tp] ++ xKp γ kq ka kn (xGt tg)) := hD
  refine lv_aload_n hx hb dL_law_687 rfl (lv_at hl 1 rfl) ?_
  refine xVR (q0 := 0) (ci := 2) (As := []) (rest := []) (stk := [.int (nI (xTopI f (n - 1)))]) ⟨hx, hb, hml, hown, hts⟩ (c_X2_highest γ l q0 q1 q2 q3 q4 kc td a1 n f (by omega) (by omega)) (cwV 0 hts gL_law_X2_highest rfl rfl rfl hdv_X2_highest ⟨(Nat.le_of_ble_eq_true rfl), (Nat.le_of_ble_eq_true rfl)⟩) hK hP [0, 1, 2] rfl rfl rfl rfl hl.1 rfl (Nat.le_of_ble_eq_true rfl) dL_law_688 ⟨(by omega : _ ≤ 601024), (by omega : _ ≤ 7293034)⟩ rfl ?_
  refine lv_aload_n hx hb dL_law_691 rfl (lv_at hl 2 rfl) ?_
  refine xVM (q0 := 9) (ci := 3) (As := []) (rest := [.int (nI (xTopI f (n - 1)))]) ⟨hx, hb, hml, hown, hts⟩ (c_X3_highest γ l m0 m1 m2 m3 m4 n kc th td f hn0 hn1) (cwV 0 hts gL_law_X3_highest rfl rfl rfl hdv_X3_highest ⟨(Nat.le_of_ble_eq_true rfl), (Nat.le_of_ble_eq_true rfl)⟩) hK hP hD hS hA [9, 10] rfl rfl rfl rfl rfl hl.1 rfl (Nat.le_of_ble_eq_true rfl) dL_law_692 ⟨(by omega : _ ≤ 601024), (by omega : _ ≤ 7293034)⟩ (fun r9 w9 H locs hw hP hD hS => ?_)
  obtain ⟨rfl, rfl⟩ := hw
  have hP : xP γ ([xO q0 2 [.ref q1, .ref q4, .int (nI kc), .int td, .ref q2, .ref q3], xO q1 0 [.ref a1, .int (nI n)], xA γ a1 12 f, xO q2 0 [.ref a2, .int tn], xA γ a2 12 tf, xO q3 1 [.ref a3, .int wn], xA γ a3 12 wf, xQ γ q4 6 (fun t9 => some (kq t9)), xL γ o 1 h, xO m0 3 [.int 0, .int (nI n), .int (nI kc), .int td, .ref m1, .ref m2, .ref m3, .ref m4], xA γ m1 12 f, xA γ m2 12 mt, xA γ m3 72 tg, xA γ m4 14 tp] ++ xKp γ kq ka kn (xGt tg)) H := hP
  have hD : va_D A ([xO q0 2 [.ref q1, .ref q4, .int (nI kc), .int td, .ref q2, .ref q3], xO q1 0 [.ref a1, .int (nI n)], xA γ a1 12 f, xO q2 0 [.ref a2, .int tn], xA γ a2 12 tf, xO q3 1 [.ref a3, .int wn], xA γ a3 12 wf, xQ γ q4 6 (fun t9 => some (kq t9)), xL γ o 1 h, xO m0 3 [.int 0, .int (nI n), .int (nI kc), .int td, .ref m1, .ref m2, .ref m3, .ref m4], xA γ m1 12 f, xA γ m2 12 mt, xA γ m3 72 tg, xA γ m4 14 tp] ++ xKp γ kq ka kn (xGt tg)) := hD
  refine W.eq (g2 := F0 m 695 ls [.int (nI (xTopI f (n - 1))), .int (nI (xTopI f (n - 1)))]) rfl ?_
  refine lv_icmp_eq (tgt := 1426) hx hb dL_law_695 (by decide) (fun _ => ?_) (fun c => absurd (rfl) c)
  exact K n kc td 0 tn wn f tf wf mt tg tp h kn _ _ d0 _ _ ls hd0 (hI.same hj) (hkn) hP hD hS (by omega) (by omega) (lv_sub hl [0, 1, 2, 3, 4] rfl)

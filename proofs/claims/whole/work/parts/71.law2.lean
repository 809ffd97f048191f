/-! the law, case by case (rows laid by wip/whole/spec_law.py) -/
theorem hdv_X3_steepPlaces : yX3_steepPlaces.cls = RX3 ∧ yX3_steepPlaces.cls ≠ "java/lang/invoke/MethodHandle" ∧ yX3_steepPlaces.cls ≠ "java/lang/invoke/VarHandle" ∧ (parseMethodDescriptor yX3_steepPlaces.desc).map (fun d => d.parameters.length) = some 0 := by decide +kernel
set_option maxHeartbeats 4000000 in
set_option maxRecDepth 100000 in
theorem xcase_steepPlaces {p : Program} {e : Env} {s : State} {m : MethodId} {below : List Frame} {meth : Method} {c : Code} (l : Launch) (hlt : l.stackTraces = false) {b L : Nat} {xs : Nat → Int32} (hL : L ≤ 1536) (C0 : lw_At p s m meth c b L xs) {γ : xG} (hK : xK γ s) (sa : Nat → Nat) (hEv : xEv s) (hEs : xEs sa s) (hEn : xEn s) {A : Nat → Prop} (hA : ∀ q : Nat, s.heap.size ≤ q → A q) (hbA : ¬ A b) (hEh : xEh A s s.heap) (q0 q1 a1 q2 a2 q3 a3 q4 o m0 m1 m2 m3 m4 : Nat) (kq ka : Nat → Nat) (j i : Nat) (hj : j < 512) (hi : i + 2 < L) (K : xK9 p l e s m below meth c b γ A q0 q1 a1 q2 a2 q3 a3 q4 o m0 m1 m2 m3 m4 kq ka (j + 1) i) (n kc : Nat) (td th tn wn : Int32) (f tf wf mt tg tp : xRow) (h : Nat → Int64) (kn : Nat → Int32) (H : Heap) (locs : List Loc) (d0 : Drawn) (cells slots : Nat) (ls : Array Slot) (hd0 : s.drawn.sameBut d0 lw_cs) (hI : xInv j n kc f tg) (hkn : ∀ t, t < kc → kn t = nI n) (hP : xP γ (LW γ q0 q1 a1 q2 a2 q3 a3 q4 o m0 m1 m2 m3 m4 kq ka n kc td th tn wn f tf wf mt tg tp h kn) H) (hD : va_D A (LW γ q0 q1 a1 q2 a2 q3 a3 q4 o m0 m1 m2 m3 m4 kq ka n kc td th tn wn f tf wf mt tg tp h kn)) (hS : va_S A s.heap H locs) (hc : cells ≤ 26 + j) (hs : slots ≤ 257 + 17 * j) (hl : lv_has ls 9 [(0, .ref b), (1, .ref q0), (2, .ref m0), (3, .ref o), (4, .int (nI i))]) : W p l e room_1 (s.setDrawn d0) m #[Value.ref b] below meth c H locs cells slots (lw_Z below #[Value.ref b] s) (F0 m 763 ls []) := by
  obtain ⟨hx, hb, hr, hml, hown, hts0, hX, hbl, hlocks, hgv⟩ := id C0
  have hts : ∀ w ∈ wsL_law, w.before #[Value.ref b] (s.setDrawn d0) = true := fun w h => dr_words hts0 d0 w (wsL_law_in w h)
  have hown : s.vm.findClass RL = some m.cls := hown
  have hX : va_X b L xs (s.setDrawn d0) s.heap := va_X.moved (u := s) (U := s.setDrawn d0) (Vm.Alike.refl s.vm) hX
  have hK : xK γ (s.setDrawn d0) := va_K.moved (u := s) (U := s.setDrawn d0) (Vm.Alike.refl s.vm) hK
  have hn0 := hI.1
  have hn1 := hI.2.1
  have hkc := hI.2.2.1
  have hP : xP γ ([xO q0 2 [.ref q1, .ref q4, .int (nI kc), .int td, .ref q2, .ref q3], xO q1 0 [.ref a1, .int (nI n)], xA γ a1 12 f, xO q2 0 [.ref a2, .int tn], xA γ a2 12 tf, xO q3 1 [.ref a3, .int wn], xA γ a3 12 wf, xQ γ q4 6 (fun t9 => some (kq t9)), xL γ o 1 h, xO m0 3 [.int th, .int (nI n), .int (nI kc), .int td, .ref m1, .ref m2, .ref m3, .ref m4], xA γ m1 12 f, xA γ m2 12 mt, xA γ m3 72 tg, xA γ m4 14 tp] ++ xKp γ kq ka kn (xGt tg)) H := hP
  have hD : va_D A ([xO q0 2 [.ref q1, .ref q4, .int (nI kc), .int td, .ref q2, .ref q3], xO q1 0 [.ref a1, .int (nI n)], xA γ a1 12 f, xO q2 0 [.ref a2, .int tn], xA γ a2 12 tf, xO q3 1 [.ref a3, .int wn], xA γ a3 12 wf, xQ γ q4 6 (fun t9 => some (kq t9)), xL γ o 1 h, xO m0 3 [.int th, .int (nI n), .int (nI kc), .int td, .ref m1, .ref m2, .ref m3, .ref m4], xA γ m1 12 f, xA γ m2 12 mt, xA γ m3 72 tg, xA γ m4 14 tp] ++ xKp γ kq ka kn (xGt tg)) := hD
  refine lv_aload_n hx hb dL_law_763 rfl (lv_at hl 1 rfl) ?_
  refine xVR (q0 := 0) (ci := 2) (As := []) (rest := []) (stk := [.int (nI (xCnt (xSt n f) n))]) ⟨hx, hb, hml, hown, hts⟩ (c_X2_steepPlaces γ l q0 q1 q2 q3 q4 kc td a1 n f (by omega) (by omega)) (cwV 0 hts gL_law_X2_steepPlaces rfl rfl rfl hdv_X2_steepPlaces ⟨(Nat.le_of_ble_eq_true rfl), (Nat.le_of_ble_eq_true rfl)⟩) hK hP [0, 1, 2] rfl rfl rfl rfl hl.1 rfl (Nat.le_of_ble_eq_true rfl) dL_law_764 ⟨(by omega : _ ≤ 601024), (by omega : _ ≤ 7293034)⟩ rfl ?_
  refine lv_aload_n hx hb dL_law_767 rfl (lv_at hl 2 rfl) ?_
  refine xVM (q0 := 9) (ci := 3) (As := []) (rest := [.int (nI (xCnt (xSt n f) n))]) ⟨hx, hb, hml, hown, hts⟩ (c_X3_steepPlaces γ l m0 m1 m2 m3 m4 n kc th td f hn0 hn1) (cwV 0 hts gL_law_X3_steepPlaces rfl rfl rfl hdv_X3_steepPlaces ⟨(Nat.le_of_ble_eq_true rfl), (Nat.le_of_ble_eq_true rfl)⟩) hK hP hD hS hA [9, 10] rfl rfl rfl rfl rfl hl.1 rfl (Nat.le_of_ble_eq_true rfl) dL_law_768 ⟨(by omega : _ ≤ 601024), (by omega : _ ≤ 7293034)⟩ (fun r9 w9 H locs hw hP hD hS => ?_)
  obtain ⟨rfl, rfl⟩ := hw
  have hP : xP γ ([xO q0 2 [.ref q1, .ref q4, .int (nI kc), .int td, .ref q2, .ref q3], xO q1 0 [.ref a1, .int (nI n)], xA γ a1 12 f, xO q2 0 [.ref a2, .int tn], xA γ a2 12 tf, xO q3 1 [.ref a3, .int wn], xA γ a3 12 wf, xQ γ q4 6 (fun t9 => some (kq t9)), xL γ o 1 h, xO m0 3 [.int 0, .int (nI n), .int (nI kc), .int td, .ref m1, .ref m2, .ref m3, .ref m4], xA γ m1 12 f, xA γ m2 12 mt, xA γ m3 72 tg, xA γ m4 14 tp] ++ xKp γ kq ka kn (xGt tg)) H := hP
  have hD : va_D A ([xO q0 2 [.ref q1, .ref q4, .int (nI kc), .int td, .ref q2, .ref q3], xO q1 0 [.ref a1, .int (nI n)], xA γ a1 12 f, xO q2 0 [.ref a2, .int tn], xA γ a2 12 tf, xO q3 1 [.ref a3, .int wn], xA γ a3 12 wf, xQ γ q4 6 (fun t9 => some (kq t9)), xL γ o 1 h, xO m0 3 [.int 0, .int (nI n), .int (nI kc), .int td, .ref m1, .ref m2, .ref m3, .ref m4], xA γ m1 12 f, xA γ m2 12 mt, xA γ m3 72 tg, xA γ m4 14 tp] ++ xKp γ kq ka kn (xGt tg)) := hD
  refine W.eq (g2 := F0 m 771 ls [.int (nI (xCnt (xSt n f) n)), .int (nI (xCnt (xSt n f) n))]) rfl ?_
  refine lv_icmp_eq (tgt := 1426) hx hb dL_law_771 (by decide) (fun _ => ?_) (fun c => absurd (rfl) c)
  exact K n kc td 0 tn wn f tf wf mt tg tp h kn _ _ d0 _ _ ls hd0 (hI.same hj) (hkn) hP hD hS (by omega) (by omega) (lv_sub hl [0, 1, 2, 3, 4] rfl)

theorem hdv_X3_nextToTip : yX3_nextToTip.cls = RX3 ∧ yX3_nextToTip.cls ≠ "java/lang/invoke/MethodHandle" ∧ yX3_nextToTip.cls ≠ "java/lang/invoke/VarHandle" ∧ (parseMethodDescriptor yX3_nextToTip.desc).map (fun d => d.parameters.length) = some 0 := by decide +kernel
set_option maxHeartbeats 4000000 in
set_option maxRecDepth 100000 in
theorem xcase_nextToTip {p : Program} {e : Env} {s : State} {m : MethodId} {below : List Frame} {meth : Method} {c : Code} (l : Launch) (hlt : l.stackTraces = false) {b L : Nat} {xs : Nat → Int32} (hL : L ≤ 1536) (C0 : lw_At p s m meth c b L xs) {γ : xG} (hK : xK γ s) (sa : Nat → Nat) (hEv : xEv s) (hEs : xEs sa s) (hEn : xEn s) {A : Nat → Prop} (hA : ∀ q : Nat, s.heap.size ≤ q → A q) (hbA : ¬ A b) (hEh : xEh A s s.heap) (q0 q1 a1 q2 a2 q3 a3 q4 o m0 m1 m2 m3 m4 : Nat) (kq ka : Nat → Nat) (j i : Nat) (hj : j < 512) (hi : i + 2 < L) (K : xK9 p l e s m below meth c b γ A q0 q1 a1 q2 a2 q3 a3 q4 o m0 m1 m2 m3 m4 kq ka (j + 1) i) (n kc : Nat) (td th tn wn : Int32) (f tf wf mt tg tp : xRow) (h : Nat → Int64) (kn : Nat → Int32) (H : Heap) (locs : List Loc) (d0 : Drawn) (cells slots : Nat) (ls : Array Slot) (hd0 : s.drawn.sameBut d0 lw_cs) (hI : xInv j n kc f tg) (hkn : ∀ t, t < kc → kn t = nI n) (hP : xP γ (LW γ q0 q1 a1 q2 a2 q3 a3 q4 o m0 m1 m2 m3 m4 kq ka n kc td th tn wn f tf wf mt tg tp h kn) H) (hD : va_D A (LW γ q0 q1 a1 q2 a2 q3 a3 q4 o m0 m1 m2 m3 m4 kq ka n kc td th tn wn f tf wf mt tg tp h kn)) (hS : va_S A s.heap H locs) (hc : cells ≤ 26 + j) (hs : slots ≤ 257 + 17 * j) (hl : lv_has ls 9 [(0, .ref b), (1, .ref q0), (2, .ref m0), (3, .ref o), (4, .int (nI i))]) : W p l e room_1 (s.setDrawn d0) m #[Value.ref b] below meth c H locs cells slots (lw_Z below #[Value.ref b] s) (F0 m 776 ls []) := by
  obtain ⟨hx, hb, hr, hml, hown, hts0, hX, hbl, hlocks, hgv⟩ := id C0
  have hts : ∀ w ∈ wsL_law, w.before #[Value.ref b] (s.setDrawn d0) = true := fun w h => dr_words hts0 d0 w (wsL_law_in w h)
  have hown : s.vm.findClass RL = some m.cls := hown
  have hX : va_X b L xs (s.setDrawn d0) s.heap := va_X.moved (u := s) (U := s.setDrawn d0) (Vm.Alike.refl s.vm) hX
  have hK : xK γ (s.setDrawn d0) := va_K.moved (u := s) (U := s.setDrawn d0) (Vm.Alike.refl s.vm) hK
  have hn0 := hI.1
  have hn1 := hI.2.1
  have hkc := hI.2.2.1
  have hP : xP γ ([xO q0 2 [.ref q1, .ref q4, .int (nI kc), .int td, .ref q2, .ref q3], xO q1 0 [.ref a1, .int (nI n)], xA γ a1 12 f, xO q2 0 [.ref a2, .int tn], xA γ a2 12 tf, xO q3 1 [.ref a3, .int wn], xA γ a3 12 wf, xQ γ q4 6 (fun t9 => some (kq t9)), xL γ o 1 h, xO m0 3 [.int th, .int (nI n), .int (nI kc), .int td, .ref m1, .ref m2, .ref m3, .ref m4], xA γ m1 12 f, xA γ m2 12 mt, xA γ m3 72 tg, xA γ m4 14 tp] ++ xKp γ kq ka kn (xGt tg)) H := hP
  have hD : va_D A ([xO q0 2 [.ref q1, .ref q4, .int (nI kc), .int td, .ref q2, .ref q3], xO q1 0 [.ref a1, .int (nI n)], xA γ a1 12 f, xO q2 0 [.ref a2, .int tn], xA γ a2 12 tf, xO q3 1 [.ref a3, .int wn], xA γ a3 12 wf, xQ γ q4 6 (fun t9 => some (kq t9)), xL γ o 1 h, xO m0 3 [.int th, .int (nI n), .int (nI kc), .int td, .ref m1, .ref m2, .ref m3, .ref m4], xA γ m1 12 f, xA γ m2 12 mt, xA γ m3 72 tg, xA γ m4 14 tp] ++ xKp γ kq ka kn (xGt tg)) := hD
  refine lv_aload_n hx hb dL_law_776 rfl (lv_at hl 1 rfl) ?_
  refine xVR (q0 := 0) (ci := 2) (As := []) (rest := []) (stk := [.int (xFi (xSt n f) n)]) ⟨hx, hb, hml, hown, hts⟩ (c_X2_nextToTip γ l q0 q1 q2 q3 q4 kc td a1 n f (by omega) (by omega)) (cwV 0 hts gL_law_X2_nextToTip rfl rfl rfl hdv_X2_nextToTip ⟨(Nat.le_of_ble_eq_true rfl), (Nat.le_of_ble_eq_true rfl)⟩) hK hP [0, 1, 2] rfl rfl rfl rfl hl.1 rfl (Nat.le_of_ble_eq_true rfl) dL_law_777 ⟨(by omega : _ ≤ 601024), (by omega : _ ≤ 7293034)⟩ rfl ?_
  refine lv_aload_n hx hb dL_law_780 rfl (lv_at hl 2 rfl) ?_
  refine xVM (q0 := 9) (ci := 3) (As := []) (rest := [.int (xFi (xSt n f) n)]) ⟨hx, hb, hml, hown, hts⟩ (c_X3_nextToTip γ l m0 m1 m2 m3 m4 n kc th td f hn0 hn1) (cwV 0 hts gL_law_X3_nextToTip rfl rfl rfl hdv_X3_nextToTip ⟨(Nat.le_of_ble_eq_true rfl), (Nat.le_of_ble_eq_true rfl)⟩) hK hP hD hS hA [9, 10] rfl rfl rfl rfl rfl hl.1 rfl (Nat.le_of_ble_eq_true rfl) dL_law_781 ⟨(by omega : _ ≤ 601024), (by omega : _ ≤ 7293034)⟩ (fun r9 w9 H locs hw hP hD hS => ?_)
  obtain ⟨rfl, rfl⟩ := hw
  have hP : xP γ ([xO q0 2 [.ref q1, .ref q4, .int (nI kc), .int td, .ref q2, .ref q3], xO q1 0 [.ref a1, .int (nI n)], xA γ a1 12 f, xO q2 0 [.ref a2, .int tn], xA γ a2 12 tf, xO q3 1 [.ref a3, .int wn], xA γ a3 12 wf, xQ γ q4 6 (fun t9 => some (kq t9)), xL γ o 1 h, xO m0 3 [.int 0, .int (nI n), .int (nI kc), .int td, .ref m1, .ref m2, .ref m3, .ref m4], xA γ m1 12 f, xA γ m2 12 mt, xA γ m3 72 tg, xA γ m4 14 tp] ++ xKp γ kq ka kn (xGt tg)) H := hP
  have hD : va_D A ([xO q0 2 [.ref q1, .ref q4, .int (nI kc), .int td, .ref q2, .ref q3], xO q1 0 [.ref a1, .int (nI n)], xA γ a1 12 f, xO q2 0 [.ref a2, .int tn], xA γ a2 12 tf, xO q3 1 [.ref a3, .int wn], xA γ a3 12 wf, xQ γ q4 6 (fun t9 => some (kq t9)), xL γ o 1 h, xO m0 3 [.int 0, .int (nI n), .int (nI kc), .int td, .ref m1, .ref m2, .ref m3, .ref m4], xA γ m1 12 f, xA γ m2 12 mt, xA γ m3 72 tg, xA γ m4 14 tp] ++ xKp γ kq ka kn (xGt tg)) := hD
  refine W.eq (g2 := F0 m 784 ls [.int (xFi (xSt n f) n), .int (xFi (xSt n f) n)]) rfl ?_
  refine lv_icmp_eq (tgt := 1426) hx hb dL_law_784 (by decide) (fun _ => ?_) (fun c => absurd (rfl) c)
  exact K n kc td 0 tn wn f tf wf mt tg tp h kn _ _ d0 _ _ ls hd0 (hI.same hj) (hkn) hP hD hS (by omega) (by omega) (lv_sub hl [0, 1, 2, 3, 4] rfl)

theorem hdv_X3_levelAxes : yX3_levelAxes.cls = RX3 ∧ yX3_levelAxes.cls ≠ "java/lang/invoke/MethodHandle" ∧ yX3_levelAxes.cls ≠ "java/lang/invoke/VarHandle" ∧ (parseMethodDescriptor yX3_levelAxes.desc).map (fun d => d.parameters.length) = some 0 := by decide +kernel
set_option maxHeartbeats 4000000 in
set_option maxRecDepth 100000 in
theorem xcase_levelAxes {p : Program} {e : Env} {s : State} {m : MethodId} {below : List Frame} {meth : Method} {c : Code} (l : Launch) (hlt : l.stackTraces = false) {b L : Nat} {xs : Nat → Int32} (hL : L ≤ 1536) (C0 : lw_At p s m meth c b L xs) {γ : xG} (hK : xK γ s) (sa : Nat → Nat) (hEv : xEv s) (hEs : xEs sa s) (hEn : xEn s) {A : Nat → Prop} (hA : ∀ q : Nat, s.heap.size ≤ q → A q) (hbA : ¬ A b) (hEh : xEh A s s.heap) (q0 q1 a1 q2 a2 q3 a3 q4 o m0 m1 m2 m3 m4 : Nat) (kq ka : Nat → Nat) (j i : Nat) (hj : j < 512) (hi : i + 2 < L) (K : xK9 p l e s m below meth c b γ A q0 q1 a1 q2 a2 q3 a3 q4 o m0 m1 m2 m3 m4 kq ka (j + 1) i) (n kc : Nat) (td th tn wn : Int32) (f tf wf mt tg tp : xRow) (h : Nat → Int64) (kn : Nat → Int32) (H : Heap) (locs : List Loc) (d0 : Drawn) (cells slots : Nat) (ls : Array Slot) (hd0 : s.drawn.sameBut d0 lw_cs) (hI : xInv j n kc f tg) (hkn : ∀ t, t < kc → kn t = nI n) (hP : xP γ (LW γ q0 q1 a1 q2 a2 q3 a3 q4 o m0 m1 m2 m3 m4 kq ka n kc td th tn wn f tf wf mt tg tp h kn) H) (hD : va_D A (LW γ q0 q1 a1 q2 a2 q3 a3 q4 o m0 m1 m2 m3 m4 kq ka n kc td th tn wn f tf wf mt tg tp h kn)) (hS : va_S A s.heap H locs) (hc : cells ≤ 26 + j) (hs : slots ≤ 257 + 17 * j) (hl : lv_has ls 9 [(0, .ref b), (1, .ref q0), (2, .ref m0), (3, .ref o), (4, .int (nI i))]) : W p l e room_1 (s.setDrawn d0) m #[Value.ref b] below meth c H locs cells slots (lw_Z below #[Value.ref b] s) (F0 m 845 ls []) := by
  obtain ⟨hx, hb, hr, hml, hown, hts0, hX, hbl, hlocks, hgv⟩ := id C0
  have hts : ∀ w ∈ wsL_law, w.before #[Value.ref b] (s.setDrawn d0) = true := fun w h => dr_words hts0 d0 w (wsL_law_in w h)
  have hown : s.vm.findClass RL = some m.cls := hown
  have hX : va_X b L xs (s.setDrawn d0) s.heap := va_X.moved (u := s) (U := s.setDrawn d0) (Vm.Alike.refl s.vm) hX
  have hK : xK γ (s.setDrawn d0) := va_K.moved (u := s) (U := s.setDrawn d0) (Vm.Alike.refl s.vm) hK
  have hn0 := hI.1
  have hn1 := hI.2.1
  have hkc := hI.2.2.1
  have hP : xP γ ([xO q0 2 [.ref q1, .ref q4, .int (nI kc), .int td, .ref q2, .ref q3], xO q1 0 [.ref a1, .int (nI n)], xA γ a1 12 f, xO q2 0 [.ref a2, .int tn], xA γ a2 12 tf, xO q3 1 [.ref a3, .int wn], xA γ a3 12 wf, xQ γ q4 6 (fun t9 => some (kq t9)), xL γ o 1 h, xO m0 3 [.int th, .int (nI n), .int (nI kc), .int td, .ref m1, .ref m2, .ref m3, .ref m4], xA γ m1 12 f, xA γ m2 12 mt, xA γ m3 72 tg, xA γ m4 14 tp] ++ xKp γ kq ka kn (xGt tg)) H := hP
  have hD : va_D A ([xO q0 2 [.ref q1, .ref q4, .int (nI kc), .int td, .ref q2, .ref q3], xO q1 0 [.ref a1, .int (nI n)], xA γ a1 12 f, xO q2 0 [.ref a2, .int tn], xA γ a2 12 tf, xO q3 1 [.ref a3, .int wn], xA γ a3 12 wf, xQ γ q4 6 (fun t9 => some (kq t9)), xL γ o 1 h, xO m0 3 [.int th, .int (nI n), .int (nI kc), .int td, .ref m1, .ref m2, .ref m3, .ref m4], xA γ m1 12 f, xA γ m2 12 mt, xA γ m3 72 tg, xA γ m4 14 tp] ++ xKp γ kq ka kn (xGt tg)) := hD
  refine lv_aload_n hx hb dL_law_845 rfl (lv_at hl 1 rfl) ?_
  refine xVR (q0 := 0) (ci := 2) (As := []) (rest := []) (stk := [.int (nI (xCnt (xLv n f) n))]) ⟨hx, hb, hml, hown, hts⟩ (c_X2_levelAxes γ l q0 q1 q2 q3 q4 kc td a1 n f (by omega) (by omega)) (cwV 0 hts gL_law_X2_levelAxes rfl rfl rfl hdv_X2_levelAxes ⟨(Nat.le_of_ble_eq_true rfl), (Nat.le_of_ble_eq_true rfl)⟩) hK hP [0, 1, 2] rfl rfl rfl rfl hl.1 rfl (Nat.le_of_ble_eq_true rfl) dL_law_846 ⟨(by omega : _ ≤ 601024), (by omega : _ ≤ 7293034)⟩ rfl ?_
  refine lv_aload_n hx hb dL_law_849 rfl (lv_at hl 2 rfl) ?_
  refine xVM (q0 := 9) (ci := 3) (As := []) (rest := [.int (nI (xCnt (xLv n f) n))]) ⟨hx, hb, hml, hown, hts⟩ (c_X3_levelAxes γ l m0 m1 m2 m3 m4 n kc th td f hn0 hn1) (cwV 0 hts gL_law_X3_levelAxes rfl rfl rfl hdv_X3_levelAxes ⟨(Nat.le_of_ble_eq_true rfl), (Nat.le_of_ble_eq_true rfl)⟩) hK hP hD hS hA [9, 10] rfl rfl rfl rfl rfl hl.1 rfl (Nat.le_of_ble_eq_true rfl) dL_law_850 ⟨(by omega : _ ≤ 601024), (by omega : _ ≤ 7293034)⟩ (fun r9 w9 H locs hw hP hD hS => ?_)
  obtain ⟨rfl, rfl⟩ := hw
  have hP : xP γ ([xO q0 2 [.ref q1, .ref q4, .int (nI kc), .int td, .ref q2, .ref q3], xO q1 0 [.ref a1, .int (nI n)], xA γ a1 12 f, xO q2 0 [.ref a2, .int tn], xA γ a2 12 tf, xO q3 1 [.ref a3, .int wn], xA γ a3 12 wf, xQ γ q4 6 (fun t9 => some (kq t9)), xL γ o 1 h, xO m0 3 [.int 0, .int (nI n), .int (nI kc), .int td, .ref m1, .ref m2, .ref m3, .ref m4], xA γ m1 12 f, xA γ m2 12 mt, xA γ m3 72 tg, xA γ m4 14 tp] ++ xKp γ kq ka kn (xGt tg)) H := hP
  have hD : va_D A ([xO q0 2 [.ref q1, .ref q4, .int (nI kc), .int td, .ref q2, .ref q3], xO q1 0 [.ref a1, .int (nI n)], xA γ a1 12 f, xO q2 0 [.ref a2, .int tn], xA γ a2 12 tf, xO q3 1 [.ref a3, .int wn], xA γ a3 12 wf, xQ γ q4 6 (fun t9 => some (kq t9)), xL γ o 1 h, xO m0 3 [.int 0, .int (nI n), .int (nI kc), .int td, .ref m1, .ref m2, .ref m3, .ref m4], xA γ m1 12 f, xA γ m2 12 mt, xA γ m3 72 tg, xA γ m4 14 tp] ++ xKp γ kq ka kn (xGt tg)) := hD
  refine W.eq (g2 := F0 m 853 ls [.int (nI (xCnt (xLv n f) n)), .int (nI (xCnt (xLv n f) n))]) rfl ?_
  refine lv_icmp_eq (tgt := 1426) hx hb dL_law_853 (by decide) (fun _ => ?_) (fun c => absurd (rfl) c)
  exact K n kc td 0 tn wn f tf wf mt tg tp h kn _ _ d0 _ _ ls hd0 (hI.same hj) (hkn) hP hD hS (by omega) (by omega) (lv_sub hl [0, 1, 2, 3, 4] rfl)

theorem hdv_X3_bestAxis : yX3_bestAxis.cls = RX3 ∧ yX3_bestAxis.cls ≠ "java/lang/invoke/MethodHandle" ∧ yX3_bestAxis.cls ≠ "java/lang/invoke/VarHandle" ∧ (parseMethodDescriptor yX3_bestAxis.desc).map (fun d => d.parameters.length) = some 0 := by decide +kernel
set_option maxHeartbeats 4000000 in
set_option maxRecDepth 100000 in
theorem xcase_bestAxis {p : Program} {e : Env} {s : State} {m : MethodId} {below : List Frame} {meth : Method} {c : Code} (l : Launch) (hlt : l.stackTraces = false) {b L : Nat} {xs : Nat → Int32} (hL : L ≤ 1536) (C0 : lw_At p s m meth c b L xs) {γ : xG} (hK : xK γ s) (sa : Nat → Nat) (hEv : xEv s) (hEs : xEs sa s) (hEn : xEn s) {A : Nat → Prop} (hA : ∀ q : Nat, s.heap.size ≤ q → A q) (hbA : ¬ A b) (hEh : xEh A s s.heap) (q0 q1 a1 q2 a2 q3 a3 q4 o m0 m1 m2 m3 m4 : Nat) (kq ka : Nat → Nat) (j i : Nat) (hj : j < 512) (hi : i + 2 < L) (K : xK9 p l e s m below meth c b γ A q0 q1 a1 q2 a2 q3 a3 q4 o m0 m1 m2 m3 m4 kq ka (j + 1) i) (n kc : Nat) (td th tn wn : Int32) (f tf wf mt tg tp : xRow) (h : Nat → Int64) (kn : Nat → Int32) (H : Heap) (locs : List Loc) (d0 : Drawn) (cells slots : Nat) (ls : Array Slot) (hd0 : s.drawn.sameBut d0 lw_cs) (hI : xInv j n kc f tg) (hkn : ∀ t, t < kc → kn t = nI n) (hP : xP γ (LW γ q0 q1 a1 q2 a2 q3 a3 q4 o m0 m1 m2 m3 m4 kq ka n kc td th tn wn f tf wf mt tg tp h kn) H) (hD : va_D A (LW γ q0 q1 a1 q2 a2 q3 a3 q4 o m0 m1 m2 m3 m4 kq ka n kc td th tn wn f tf wf mt tg tp h kn)) (hS : va_S A s.heap H locs) (hc : cells ≤ 26 + j) (hs : slots ≤ 257 + 17 * j) (hl : lv_has ls 9 [(0, .ref b), (1, .ref q0), (2, .ref m0), (3, .ref o), (4, .int (nI i))]) : W p l e room_1 (s.setDrawn d0) m #[Value.ref b] below meth c H locs cells slots (lw_Z below #[Value.ref b] s) (F0 m 858 ls []) := by
  obtain ⟨hx, hb, hr, hml, hown, hts0, hX, hbl, hlocks, hgv⟩ := id C0
  have hts : ∀ w ∈ wsL_law, w.before #[Value.ref b] (s.setDrawn d0) = true := fun w h => dr_words hts0 d0 w (wsL_law_in w h)
  have hown : s.vm.findClass RL = some m.cls := hown
  have hX : va_X b L xs (s.setDrawn d0) s.heap := va_X.moved (u := s) (U := s.setDrawn d0) (Vm.Alike.refl s.vm) hX
  have hK : xK γ (s.setDrawn d0) := va_K.moved (u := s) (U := s.setDrawn d0) (Vm.Alike.refl s.vm) hK
  have hn0 := hI.1
  have hn1 := hI.2.1
  have hkc := hI.2.2.1
  have hP : xP γ ([xO q0 2 [.ref q1, .ref q4, .int (nI kc), .int td, .ref q2, .ref q3], xO q1 0 [.ref a1, .int (nI n)], xA γ a1 12 f, xO q2 0 [.ref a2, .int tn], xA γ a2 12 tf, xO q3 1 [.ref a3, .int wn], xA γ a3 12 wf, xQ γ q4 6 (fun t9 => some (kq t9)), xL γ o 1 h, xO m0 3 [.int th, .int (nI n), .int (nI kc), .int td, .ref m1, .ref m2, .ref m3, .ref m4], xA γ m1 12 f, xA γ m2 12 mt, xA γ m3 72 tg, xA γ m4 14 tp] ++ xKp γ kq ka kn (xGt tg)) H := hP
  have hD : va_D A ([xO q0 2 [.ref q1, .ref q4, .int (nI kc), .int td, .ref q2, .ref q3], xO q1 0 [.ref a1, .int (nI n)], xA γ a1 12 f, xO q2 0 [.ref a2, .int tn], xA γ a2 12 tf, xO q3 1 [.ref a3, .int wn], xA γ a3 12 wf, xQ γ q4 6 (fun t9 => some (kq t9)), xL γ o 1 h, xO m0 3 [.int th, .int (nI n), .int (nI kc), .int td, .ref m1, .ref m2, .ref m3, .ref m4], xA γ m1 12 f, xA γ m2 12 mt, xA γ m3 72 tg, xA γ m4 14 tp] ++ xKp γ kq ka kn (xGt tg)) := hD
  refine lv_aload_n hx hb dL_law_858 rfl (lv_at hl 1 rfl) ?_
  refine xVR (q0 := 0) (ci := 2) (As := []) (rest := []) (stk := [.int (nI (xBa (xTlt n f) (n - 1)))]) ⟨hx, hb, hml, hown, hts⟩ (c_X2_bestAxis γ l q0 q1 q2 q3 q4 kc td a1 n f (by omega) (by omega)) (cwV 0 hts gL_law_X2_bestAxis rfl rfl rfl hdv_X2_bestAxis ⟨(Nat.le_of_ble_eq_true rfl), (Nat.le_of_ble_eq_true rfl)⟩) hK hP [0, 1, 2] rfl rfl rfl rfl hl.1 rfl (Nat.le_of_ble_eq_true rfl) dL_law_859 ⟨(by omega : _ ≤ 601024), (by omega : _ ≤ 7293034)⟩ rfl ?_
  refine lv_aload_n hx hb dL_law_862 rfl (lv_at hl 2 rfl) ?_
  refine xVM (q0 := 9) (ci := 3) (As := []) (rest := [.int (nI (xBa (xTlt n f) (n - 1)))]) ⟨hx, hb, hml, hown, hts⟩ (c_X3_bestAxis γ l m0 m1 m2 m3 m4 n kc th td f hn0 hn1) (cwV 0 hts gL_law_X3_bestAxis rfl rfl rfl hdv_X3_bestAxis ⟨(Nat.le_of_ble_eq_true rfl), (Nat.le_of_ble_eq_true rfl)⟩) hK hP hD hS hA [9, 10] rfl rfl rfl rfl rfl hl.1 rfl (Nat.le_of_ble_eq_true rfl) dL_law_863 ⟨(by omega : _ ≤ 601024), (by omega : _ ≤ 7293034)⟩ (fun r9 w9 H locs hw hP hD hS => ?_)
  obtain ⟨rfl, rfl⟩ := hw
  have hP : xP γ ([xO q0 2 [.ref q1, .ref q4, .int (nI kc), .int td, .ref q2, .ref q3], xO q1 0 [.ref a1, .int (nI n)], xA γ a1 12 f, xO q2 0 [.ref a2, .int tn], xA γ a2 12 tf, xO q3 1 [.ref a3, .int wn], xA γ a3 12 wf, xQ γ q4 6 (fun t9 => some (kq t9)), xL γ o 1 h, xO m0 3 [.int 0, .int (nI n), .int (nI kc), .int td, .ref m1, .ref m2, .ref m3, .ref m4], xA γ m1 12 f, xA γ m2 12 mt, xA γ m3 72 tg, xA γ m4 14 tp] ++ xKp γ kq ka kn (xGt tg)) H := hP
  have hD : va_D A ([xO q0 2 [.ref q1, .ref q4, .int (nI kc), .int td, .ref q2, .ref q3], xO q1 0 [.ref a1, .int (nI n)], xA γ a1 12 f, xO q2 0 [.ref a2, .int tn], xA γ a2 12 tf, xO q3 1 [.ref a3, .int wn], xA γ a3 12 wf, xQ γ q4 6 (fun t9 => some (kq t9)), xL γ o 1 h, xO m0 3 [.int 0, .int (nI n), .int (nI kc), .int td, .ref m1, .ref m2, .ref m3, .ref m4], xA γ m1 12 f, xA γ m2 12 mt, xA γ m3 72 tg, xA γ m4 14 tp] ++ xKp γ kq ka kn (xGt tg)) := hD
  refine W.eq (g2 := F0 m 866 ls [.int (nI (xBa (xTlt n f) (n - 1))), .int (nI (xBa (xTlt n f) (n - 1)))]) rfl ?_
  refine lv_icmp_eq (tgt := 1426) hx hb dL_law_866 (by decide) (fun _ => ?_) (fun c => absurd (rfl) c)
  exact K n kc td 0 tn wn f tf wf mt tg tp h kn _ _ d0 _ _ ls hd0 (hI.same hj) (hkn) hP hD hS (by omega) (by omega) (lv_sub hl [0, 1, 2, 3, 4] rfl)

theorem hds_L_numberIn : yL_numberIn.cls ≠ "java/lang/invoke/MethodHandle" ∧ yL_numberIn.cls ≠ "java/lang/invoke/VarHandle" ∧ (parseMethodDescriptor yL_numberIn.desc).map (fun d => d.parameters.length) = some 4 := by decide +kernel
theorem hdv_X3_numberIn : yX3_numberIn.cls = RX3 ∧ yX3_numberIn.cls ≠ "java/lang/invoke/MethodHandle" ∧ yX3_numberIn.cls ≠ "java/lang/invoke/VarHandle" ∧ (parseMethodDescriptor yX3_numberIn.desc).map (fun d => d.parameters.length) = some 2 := by decide +kernel
set_option maxHeartbeats 4000000 in
set_option maxRecDepth 100000 in
theorem xcase_numberIn {p : Program} {e : Env} {s : State} {m : MethodId} {below : List Frame} {meth : Method} {c : Code} (l : Launch) (hlt : l.stackTraces = false) {b L : Nat} {xs : Nat → Int32} (hL : L ≤ 1536) (C0 : lw_At p s m meth c b L xs) {γ : xG} (hK : xK γ s) (sa : Nat → Nat) (hEv : xEv s) (hEs : xEs sa s) (hEn : xEn s) {A : Nat → Prop} (hA : ∀ q : Nat, s.heap.size ≤ q → A q) (hbA : ¬ A b) (hEh : xEh A s s.heap) (q0 q1 a1 q2 a2 q3 a3 q4 o m0 m1 m2 m3 m4 : Nat) (kq ka : Nat → Nat) (j i : Nat) (hj : j < 512) (hi : i + 2 < L) (K : xK9 p l e s m below meth c b γ A q0 q1 a1 q2 a2 q3 a3 q4 o m0 m1 m2 m3 m4 kq ka (j + 1) i) (n kc : Nat) (td th tn wn : Int32) (f tf wf mt tg tp : xRow) (h : Nat → Int64) (kn : Nat → Int32) (H : Heap) (locs : List Loc) (d0 : Drawn) (cells slots : Nat) (ls : Array Slot) (hd0 : s.drawn.sameBut d0 lw_cs) (hI : xInv j n kc f tg) (hkn : ∀ t, t < kc → kn t = nI n) (hP : xP γ (LW γ q0 q1 a1 q2 a2 q3 a3 q4 o m0 m1 m2 m3 m4 kq ka n kc td th tn wn f tf wf mt tg tp h kn) H) (hD : va_D A (LW γ q0 q1 a1 q2 a2 q3 a3 q4 o m0 m1 m2 m3 m4 kq ka n kc td th tn wn f tf wf mt tg tp h kn)) (hS : va_S A s.heap H locs) (hc : cells ≤ 26 + j) (hs : slots ≤ 257 + 17 * j) (hl : lv_has ls 9 [(0, .ref b), (1, .ref q0), (2, .ref m0), (3, .ref o), (4, .int (nI i))]) : W p l e room_1 (s.setDrawn d0) m #[Value.ref b] below meth c H locs cells slots (lw_Z below #[Value.ref b] s) (F0 m 871 ls []) := by
  obtain ⟨hx, hb, hr, hml, hown, hts0, hX, hbl, hlocks, hgv⟩ := id C0
  have hts : ∀ w ∈ wsL_law, w.before #[Value.ref b] (s.setDrawn d0) = true := fun w h => dr_words hts0 d0 w (wsL_law_in w h)
  have hown : s.vm.findClass RL = some m.cls := hown
  have hX : va_X b L xs (s.setDrawn d0) s.heap := va_X.moved (u := s) (U := s.setDrawn d0) (Vm.Alike.refl s.vm) hX
  have hK : xK γ (s.setDrawn d0) := va_K.moved (u := s) (U := s.setDrawn d0) (Vm.Alike.refl s.vm) hK
  have hn0 := hI.1
  have hn1 := hI.2.1
  have hkc := hI.2.2.1
  have hP : xP γ ([xO q0 2 [.ref q1, .ref q4, .int (nI kc), .int td, .ref q2, .ref q3], xO q1 0 [.ref a1, .int (nI n)], xA γ a1 12 f, xO q2 0 [.ref a2, .int tn], xA γ a2 12 tf, xO q3 1 [.ref a3, .int wn], xA γ a3 12 wf, xQ γ q4 6 (fun t9 => some (kq t9)), xL γ o 1 h, xO m0 3 [.int th, .int (nI n), .int (nI kc), .int td, .ref m1, .ref m2, .ref m3, .ref m4], xA γ m1 12 f, xA γ m2 12 mt, xA γ m3 72 tg, xA γ m4 14 tp] ++ xKp γ kq ka kn (xGt tg)) H := hP
  have hD : va_D A ([xO q0 2 [.ref q1, .ref q4, .int (nI kc), .int td, .ref q2, .ref q3], xO q1 0 [.ref a1, .int (nI n)], xA γ a1 12 f, xO q2 0 [.ref a2, .int tn], xA γ a2 12 tf, xO q3 1 [.ref a3, .int wn], xA γ a3 12 wf, xQ γ q4 6 (fun t9 => some (kq t9)), xL γ o 1 h, xO m0 3 [.int th, .int (nI n), .int (nI kc), .int td, .ref m1, .ref m2, .ref m3, .ref m4], xA γ m1 12 f, xA γ m2 12 mt, xA γ m3 72 tg, xA γ m4 14 tp] ++ xKp γ kq ka kn (xGt tg)) := hD
  by_cases hp : xInB (xs (i + 1)) 0 (nI kc - 1) = true
  · obtain ⟨k, hk, e1⟩ := xInB_pl (n := kc) (by omega) hp
    by_cases hq : xInB (xs (i + 2)) 0 (nI n - 1) = true
    · obtain ⟨k2, hk2, e2⟩ := xInB_pl hn1 hq
      refine lv_aload_n hx hb dL_law_871 rfl (lv_at hl 1 rfl) ?_
      refine lv_aload_n hx hb dL_law_872 rfl (lv_at hl 0 rfl) ?_
      refine lv_iload hx hb dL_law_873 (lv_at hl 4 rfl) ?_
      refine lv_iconst (v := 1) hx hb dL_law_875 (by decide) ?_
      refine lv_iadd hx hb dL_law_876 ?_
      refine x_top (y := nI (i + 1)) (nI_add i 1) ?_
      refine x_sld hx hb hX hbl hbA hS (i + 1) rfl (by omega) (by omega) dL_law_877 ?_
      refine x_top (y := nI k) (e1) ?_
      refine lv_aload_n hx hb dL_law_878 rfl (lv_at hl 0 rfl) ?_
      refine lv_iload hx hb dL_law_879 (lv_at hl 4 rfl) ?_
      refine lv_iconst (v := 2) hx hb dL_law_881 (by decide) ?_
      refine lv_iadd hx hb dL_law_882 ?_
      refine x_top (y := nI (i + 2)) (nI_add i 2) ?_
      refine x_sld hx hb hX hbl hbA hS (i + 2) rfl (by omega) (by omega) dL_law_883 ?_
      refine x_top (y := nI k2) (e2) ?_
      refine lv_aload_n hx hb dL_law_884 rfl (lv_at hl 3 rfl) ?_
      refine xSME (Ex := fun _ => True) (As := [.ref q0, .int (nI k), .int (nI k2), .ref o]) (rest := []) ⟨hx, hb, hml, hown, hts⟩ (c_L_numberIn γ l q0 q1 q2 q3 q4 kc td a1 n f kq ka kn (xGt tg) k k2 hn0 hn1 hk hkc hk2 o h) (vx_cwSW 4 hts gL_law_L_numberIn rfl rfl rfl hds_L_numberIn ⟨(Nat.le_of_ble_eq_true rfl), (Nat.le_of_ble_eq_true rfl)⟩) (fun _ _ _ _ h => h) (fun _ _ _ => trivial) hK hP hD hS hA [14 + 2 * k, 14 + 2 * k + 1, 0, 1, 2, 7, 8] (by simp [va_nd] <;> omega) (xismC (xKp_o (base := [xO q0 2 [.ref q1, .ref q4, .int (nI kc), .int td, .ref q2, .ref q3], xO q1 0 [.ref a1, .int (nI n)], xA γ a1 12 f, xO q2 0 [.ref a2, .int tn], xA γ a2 12 tf, xO q3 1 [.ref a3, .int wn], xA γ a3 12 wf, xQ γ q4 6 (fun t9 => some (kq t9)), xL γ o 1 h, xO m0 3 [.int th, .int (nI n), .int (nI kc), .int td, .ref m1, .ref m2, .ref m3, .ref m4], xA γ m1 12 f, xA γ m2 12 mt, xA γ m3 72 tg, xA γ m4 14 tp]) (ks := (xGt tg)) (nb := 14) (t := k) rfl (by omega) (hkn k (by omega))) (xismC (xKp_r (base := [xO q0 2 [.ref q1, .ref q4, .int (nI kc), .int td, .ref q2, .ref q3], xO q1 0 [.ref a1, .int (nI n)], xA γ a1 12 f, xO q2 0 [.ref a2, .int tn], xA γ a2 12 tf, xO q3 1 [.ref a3, .int wn], xA γ a3 12 wf, xQ γ q4 6 (fun t9 => some (kq t9)), xL γ o 1 h, xO m0 3 [.int th, .int (nI n), .int (nI kc), .int td, .ref m1, .ref m2, .ref m3, .ref m4], xA γ m1 12 f, xA γ m2 12 mt, xA γ m3 72 tg, xA γ m4 14 tp]) (kn := kn) (ks := (xGt tg)) (nb := 14) (t := k) rfl (by omega)) (xismC rfl (xismC rfl (xismC rfl (xismC rfl (xismC rfl xismN))))))) rfl hl.1 rfl (Nat.le_of_ble_eq_true rfl) dL_law_885 ⟨(by omega : _ ≤ 601024), (by omega : _ ≤ 7293034)⟩ (fun r9 w9 H locs hw hP hD hS => ?_)
      obtain ⟨rfl, rfl⟩ := hw
      rw [xup_2 (xKp_o (base := [xO q0 2 [.ref q1, .ref q4, .int (nI kc), .int td, .ref q2, .ref q3], xO q1 0 [.ref a1, .int (nI n)], xA γ a1 12 f, xO q2 0 [.ref a2, .int tn], xA γ a2 12 tf, xO q3 1 [.ref a3, .int wn], xA γ a3 12 wf, xQ γ q4 6 (fun t9 => some (kq t9)), xL γ o 1 h, xO m0 3 [.int th, .int (nI n), .int (nI kc), .int td, .ref m1, .ref m2, .ref m3, .ref m4], xA γ m1 12 f, xA γ m2 12 mt, xA γ m3 72 tg, xA γ m4 14 tp]) (ks := (xGt tg)) (nb := 14) (t := k) rfl (by omega) (hkn k (by omega))) (xKp_r (base := [xO q0 2 [.ref q1, .ref q4, .int (nI kc), .int td, .ref q2, .ref q3], xO q1 0 [.ref a1, .int (nI n)], xA γ a1 12 f, xO q2 0 [.ref a2, .int tn], xA γ a2 12 tf, xO q3 1 [.ref a3, .int wn], xA γ a3 12 wf, xQ γ q4 6 (fun t9 => some (kq t9)), xL γ o 1 h, xO m0 3 [.int th, .int (nI n), .int (nI kc), .int td, .ref m1, .ref m2, .ref m3, .ref m4], xA γ m1 12 f, xA γ m2 12 mt, xA γ m3 72 tg, xA γ m4 14 tp]) (kn := kn) (ks := (xGt tg)) (nb := 14) (t := k) rfl (by omega))] at hP hD
      have hP : xP γ ([xO q0 2 [.ref q1, .ref q4, .int (nI kc), .int td, .ref q2, .ref q3], xO q1 0 [.ref a1, .int (nI n)], xA γ a1 12 f, xO q2 0 [.ref a2, .int tn], xA γ a2 12 tf, xO q3 1 [.ref a3, .int wn], xA γ a3 12 wf, xQ γ q4 6 (fun t9 => some (kq t9)), xL γ o 1 (vp_updL h 0 (Int32.toInt64 ((xGt tg) k k2))), xO m0 3 [.int th, .int (nI n), .int (nI kc), .int td, .ref m1, .ref m2, .ref m3, .ref m4], xA γ m1 12 f, xA γ m2 12 mt, xA γ m3 72 tg, xA γ m4 14 tp] ++ xKp γ kq ka kn (xGt tg)) H := hP
      have hD : va_D A ([xO q0 2 [.ref q1, .ref q4, .int (nI kc), .int td, .ref q2, .ref q3], xO q1 0 [.ref a1, .int (nI n)], xA γ a1 12 f, xO q2 0 [.ref a2, .int tn], xA γ a2 12 tf, xO q3 1 [.ref a3, .int wn], xA γ a3 12 wf, xQ γ q4 6 (fun t9 => some (kq t9)), xL γ o 1 (vp_updL h 0 (Int32.toInt64 ((xGt tg) k k2))), xO m0 3 [.int th, .int (nI n), .int (nI kc), .int td, .ref m1, .ref m2, .ref m3, .ref m4], xA γ m1 12 f, xA γ m2 12 mt, xA γ m3 72 tg, xA γ m4 14 tp] ++ xKp γ kq ka kn (xGt tg)) := hD
      refine W.eq (g2 := F0 m 888 ls [.int 0]) rfl ?_
      refine lv_istore (lv' := [(5, .int 0), (0, .ref b), (1, .ref q0), (2, .ref m0), (3, .ref o), (4, .int (nI i))]) hx hb dL_law_888 hl (by decide) rfl (fun ls hl => ?_)
      refine lv_aload_n hx hb dL_law_890 rfl (lv_at hl 3 rfl) ?_
      refine lv_aload_n hx hb dL_law_891 rfl (lv_at hl 1 rfl) ?_
      refine lv_iload hx hb dL_law_892 (lv_at hl 5 rfl) ?_
      refine lv_iconst (v := 1) hx hb dL_law_894 (by decide) ?_
      refine lv_iadd hx hb dL_law_895 ?_
      refine x_top (y := nI (i + 1)) (nI_add i 1) ?_
      refine x_sld hx hb hX hbl hbA hS (i + 1) rfl (by omega) (by omega) dL_law_896 ?_
      refine x_top (y := nI k) (e1) ?_
      refine lv_aload_n hx hb dL_law_897 rfl (lv_at hl 1 rfl) ?_
      refine lv_iload hx hb dL_law_898 (lv_at hl 5 rfl) ?_
      refine lv_iconst (v := 2) hx hb dL_law_900 (by decide) ?_
      refine lv_iadd hx hb dL_law_901 ?_
      refine x_top (y := nI (i + 2)) (nI_add i 2) ?_
      refine x_sld hx hb hX hbl hbA hS (i + 2) rfl (by omega) (by omega) dL_law_902 ?_
      refine x_top (y := nI k2) (e2) ?_
      refine xVM (q0 := 9) (ci := 3) (As := [.int (nI k), .int (nI k2)]) (rest := []) ⟨hx, hb, hml, hown, hts⟩ (c_X3_numberIn γ l m0 m1 m2 m3 m4 n kc th td tg k k2 hn0 hn1 hk hkc hk2) (cwV 2 hts gL_law_X3_numberIn rfl rfl rfl hdv_X3_numberIn ⟨(Nat.le_of_ble_eq_true rfl), (Nat.le_of_ble_eq_true rfl)⟩) hK hP hD hS hA [9, 12] rfl rfl rfl rfl rfl hl.1 rfl (Nat.le_of_ble_eq_true rfl) dL_law_903 ⟨(by omega : _ ≤ 601024), (by omega : _ ≤ 7293034)⟩ (fun r9 w9 H locs hw hP hD hS => ?_)
      obtain ⟨rfl, rfl⟩ := hw
      have hP : xP γ ([xO q0 2 [.ref q1, .ref q4, .int (nI kc), .int td, .ref q2, .ref q3], xO q1 0 [.ref a1, .int (nI n)], xA γ a1 12 f, xO q2 0 [.ref a2, .int tn], xA γ a2 12 tf, xO q3 1 [.ref a3, .int wn], xA γ a3 12 wf, xQ γ q4 6 (fun t9 => some (kq t9)), xL γ o 1 (vp_updL h 0 (Int32.toInt64 ((xGt tg) k k2))), xO m0 3 [.int 0, .int (nI n), .int (nI kc), .int td, .ref m1, .ref m2, .ref m3, .ref m4], xA γ m1 12 f, xA γ m2 12 mt, xA γ m3 72 tg, xA γ m4 14 tp] ++ xKp γ kq ka kn (xGt tg)) H := hP
      have hD : va_D A ([xO q0 2 [.ref q1, .ref q4, .int (nI kc), .int td, .ref q2, .ref q3], xO q1 0 [.ref a1, .int (nI n)], xA γ a1 12 f, xO q2 0 [.ref a2, .int tn], xA γ a2 12 tf, xO q3 1 [.ref a3, .int wn], xA γ a3 12 wf, xQ γ q4 6 (fun t9 => some (kq t9)), xL γ o 1 (vp_updL h 0 (Int32.toInt64 ((xGt tg) k k2))), xO m0 3 [.int 0, .int (nI n), .int (nI kc), .int td, .ref m1, .ref m2, .ref m3, .ref m4], xA γ m1 12 f, xA γ m2 12 mt, xA γ m3 72 tg, xA γ m4 14 tp] ++ xKp γ kq ka kn (xGt tg)) := hD
      refine W.eq (g2 := F0 m 906 ls [.int (xGt tg k k2)]) rfl ?_
      refine lv_istore (lv' := [(6, .int (xGt tg k k2)), (5, .int 0), (0, .ref b), (1, .ref q0), (2, .ref m0), (3, .ref o), (4, .int (nI i))]) hx hb dL_law_906 hl (by decide) rfl (fun ls hl => ?_)
      refine lv_aload_n hx hb dL_law_908 rfl (lv_at hl 4 rfl) ?_
      refine xVR (q0 := 9) (ci := 3) (As := []) (rest := []) (stk := [.int 0]) ⟨hx, hb, hml, hown, hts⟩ (c_X3_thrown γ l m0 m1 m2 m3 m4 n kc 0 td) (cwV 0 hts gL_law_X3_thrown rfl rfl rfl hdv_X3_thrown ⟨(Nat.le_of_ble_eq_true rfl), (Nat.le_of_ble_eq_true rfl)⟩) hK hP [9] rfl rfl rfl rfl hl.1 rfl (Nat.le_of_ble_eq_true rfl) dL_law_909 ⟨(by omega : _ ≤ 601024), (by omega : _ ≤ 7293034)⟩ rfl ?_
      refine lv_iload hx hb dL_law_912 (lv_at hl 1 rfl) ?_
      refine lv_icmp_eq (tgt := 919) hx hb dL_law_914 (by decide) (fun _ => ?_) (fun c => absurd (rfl) c)
      refine lv_iload hx hb dL_law_919 (lv_at hl 1 rfl) ?_
      refine lv_if_ne (tgt := 936) hx hb dL_law_921 (by decide) (fun c => absurd rfl c) (fun _ => ?_)
      refine lv_aload_n hx hb dL_law_924 rfl (lv_at hl 5 rfl) ?_
      refine lv_iconst (v := 0) hx hb dL_law_925 (by decide) ?_
      refine x_lald (f := vp_updL h 0 (Int32.toInt64 ((xGt tg) k k2))) hx hb hK hP 8 rfl 0 rfl (by decide) (by decide) dL_law_926 ?_
      refine x_topl (y := Int32.toInt64 ((xGt tg) k k2)) rfl ?_
      refine lv_iload hx hb dL_law_927 (lv_at hl 0 rfl) ?_
      refine lv_i2l (v := Int32.toInt64 (xGt tg k k2)) hx hb dL_law_929 rfl ?_
      refine x_lcmp (rfl) hx hb dL_law_930 ?_
      refine lv_if_eq (tgt := 936) hx hb dL_law_931 (by decide) (fun _ => ?_) (fun c => absurd rfl c)
      refine lv_goto (tgt := 1426) hx hb dL_law_936 (by decide) ?_
      exact K n kc td 0 tn wn f tf wf mt tg tp (vp_updL h 0 (Int32.toInt64 ((xGt tg) k k2))) kn _ _ d0 _ _ ls hd0 (hI.same hj) (hkn) hP hD hS (by omega) (by omega) (lv_sub hl [2, 3, 4, 5, 6] rfl)
    · have hxb : xInB (xs (i + 2)) 0 (nI n - 1) = false := by simpa using hq
      refine lv_aload_n hx hb dL_law_871 rfl (lv_at hl 1 rfl) ?_
      refine lv_aload_n hx hb dL_law_872 rfl (lv_at hl 0 rfl) ?_
      refine lv_iload hx hb dL_law_873 (lv_at hl 4 rfl) ?_
      refine lv_iconst (v := 1) hx hb dL_law_875 (by decide) ?_
      refine lv_iadd hx hb dL_law_876 ?_
      refine x_top (y := nI (i + 1)) (nI_add i 1) ?_
      refine x_sld hx hb hX hbl hbA hS (i + 1) rfl (by omega) (by omega) dL_law_877 ?_
      refine x_top (y := nI k) (e1) ?_
      refine lv_aload_n hx hb dL_law_878 rfl (lv_at hl 0 rfl) ?_
      refine lv_iload hx hb dL_law_879 (lv_at hl 4 rfl) ?_
      refine lv_iconst (v := 2) hx hb dL_law_881 (by decide) ?_
      refine lv_iadd hx hb dL_law_882 ?_
      refine x_top (y := nI (i + 2)) (nI_add i 2) ?_
      refine x_sld hx hb hX hbl hbA hS (i + 2) rfl (by omega) (by omega) dL_law_883 ?_
      refine lv_aload_n hx hb dL_law_884 rfl (lv_at hl 3 rfl) ?_
      refine xSME (Ex := xW1 sa) (As := [.ref q0, .int (nI k), .int (xs (i + 2)), .ref o]) (rest := []) ⟨hx, hb, hml, hown, hts⟩ (c_L_numberIn_x2 γ l hlt sa q0 q1 q2 q3 q4 kc td a1 n f kq k (xs (i + 2)) hn0 hn1 hk hkc hxb o h) (vx_cwSW 4 hts gL_law_L_numberIn rfl rfl rfl hds_L_numberIn ⟨(Nat.le_of_ble_eq_true rfl), (Nat.le_of_ble_eq_true rfl)⟩) xW1_blind (fun U hU hW => ⟨xE.at hW hU hEv hEs hEh hS, va_Nc.moved hW.alike hEn.1, va_Nc.moved hW.alike hEn.2⟩) hK hP hD hS hA [0, 1, 2, 7, 8] rfl rfl rfl hl.1 rfl (Nat.le_of_ble_eq_true rfl) dL_law_885 ⟨(by omega : _ ≤ 601024), (by omega : _ ≤ 7293034)⟩ (fun r9 w9 H locs hw hP hD hS => ?_)
      obtain ⟨rfl, rfl⟩ := hw
      have hP : xP γ ([xO q0 2 [.ref q1, .ref q4, .int (nI kc), .int td, .ref q2, .ref q3], xO q1 0 [.ref a1, .int (nI n)], xA γ a1 12 f, xO q2 0 [.ref a2, .int tn], xA γ a2 12 tf, xO q3 1 [.ref a3, .int wn], xA γ a3 12 wf, xQ γ q4 6 (fun t9 => some (kq t9)), xL γ o 1 h, xO m0 3 [.int th, .int (nI n), .int (nI kc), .int td, .ref m1, .ref m2, .ref m3, .ref m4], xA γ m1 12 f, xA γ m2 12 mt, xA γ m3 72 tg, xA γ m4 14 tp] ++ xKp γ kq ka kn (xGt tg)) H := hP
      have hD : va_D A ([xO q0 2 [.ref q1, .ref q4, .int (nI kc), .int td, .ref q2, .ref q3], xO q1 0 [.ref a1, .int (nI n)], xA γ a1 12 f, xO q2 0 [.ref a2, .int tn], xA γ a2 12 tf, xO q3 1 [.ref a3, .int wn], xA γ a3 12 wf, xQ γ q4 6 (fun t9 => some (kq t9)), xL γ o 1 h, xO m0 3 [.int th, .int (nI n), .int (nI kc), .int td, .ref m1, .ref m2, .ref m3, .ref m4], xA γ m1 12 f, xA γ m2 12 mt, xA γ m3 72 tg, xA γ m4 14 tp] ++ xKp γ kq ka kn (xGt tg)) := hD
      refine W.eq (g2 := F0 m 888 ls [.int 1]) rfl ?_
      refine lv_istore (lv' := [(5, .int 1), (0, .ref b), (1, .ref q0), (2, .ref m0), (3, .ref o), (4, .int (nI i))]) hx hb dL_law_888 hl (by decide) rfl (fun ls hl => ?_)
      refine lv_aload_n hx hb dL_law_890 rfl (lv_at hl 3 rfl) ?_
      refine lv_aload_n hx hb dL_law_891 rfl (lv_at hl 1 rfl) ?_
      refine lv_iload hx hb dL_law_892 (lv_at hl 5 rfl) ?_
      refine lv_iconst (v := 1) hx hb dL_law_894 (by decide) ?_
      refine lv_iadd hx hb dL_law_895 ?_
      refine x_top (y := nI (i + 1)) (nI_add i 1) ?_
      refine x_sld hx hb hX hbl hbA hS (i + 1) rfl (by omega) (by omega) dL_law_896 ?_
      refine x_top (y := nI k) (e1) ?_
      refine lv_aload_n hx hb dL_law_897 rfl (lv_at hl 1 rfl) ?_
      refine lv_iload hx hb dL_law_898 (lv_at hl 5 rfl) ?_
      refine lv_iconst (v := 2) hx hb dL_law_900 (by decide) ?_
      refine lv_iadd hx hb dL_law_901 ?_
      refine x_top (y := nI (i + 2)) (nI_add i 2) ?_
      refine x_sld hx hb hX hbl hbA hS (i + 2) rfl (by omega) (by omega) dL_law_902 ?_
      refine xVM (q0 := 9) (ci := 3) (As := [.int (nI k), .int (xs (i + 2))]) (rest := []) ⟨hx, hb, hml, hown, hts⟩ (c_X3_numberIn_x2 γ l m0 m1 m2 m3 m4 n kc th td k (xs (i + 2)) hk hkc hxb) (cwV 2 hts gL_law_X3_numberIn rfl rfl rfl hdv_X3_numberIn ⟨(Nat.le_of_ble_eq_true rfl), (Nat.le_of_ble_eq_true rfl)⟩) hK hP hD hS hA [9] rfl rfl rfl rfl rfl hl.1 rfl (Nat.le_of_ble_eq_true rfl) dL_law_903 ⟨(by omega : _ ≤ 601024), (by omega : _ ≤ 7293034)⟩ (fun r9 w9 H locs hw hP hD hS => ?_)
      obtain ⟨rfl, rfl⟩ := hw
      have hP : xP γ ([xO q0 2 [.ref q1, .ref q4, .int (nI kc), .int td, .ref q2, .ref q3], xO q1 0 [.ref a1, .int (nI n)], xA γ a1 12 f, xO q2 0 [.ref a2, .int tn], xA γ a2 12 tf, xO q3 1 [.ref a3, .int wn], xA γ a3 12 wf, xQ γ q4 6 (fun t9 => some (kq t9)), xL γ o 1 h, xO m0 3 [.int 1, .int (nI n), .int (nI kc), .int td, .ref m1, .ref m2, .ref m3, .ref m4], xA γ m1 12 f, xA γ m2 12 mt, xA γ m3 72 tg, xA γ m4 14 tp] ++ xKp γ kq ka kn (xGt tg)) H := hP
      have hD : va_D A ([xO q0 2 [.ref q1, .ref q4, .int (nI kc), .int td, .ref q2, .ref q3], xO q1 0 [.ref a1, .int (nI n)], xA γ a1 12 f, xO q2 0 [.ref a2, .int tn], xA γ a2 12 tf, xO q3 1 [.ref a3, .int wn], xA γ a3 12 wf, xQ γ q4 6 (fun t9 => some (kq t9)), xL γ o 1 h, xO m0 3 [.int 1, .int (nI n), .int (nI kc), .int td, .ref m1, .ref m2, .ref m3, .ref m4], xA γ m1 12 f, xA γ m2 12 mt, xA γ m3 72 tg, xA γ m4 14 tp] ++ xKp γ kq ka kn (xGt tg)) := hD
      refine W.eq (g2 := F0 m 906 ls [.int 0]) rfl ?_
      refine lv_istore (lv' := [(6, .int 0), (5, .int 1), (0, .ref b), (1, .ref q0), (2, .ref m0), (3, .ref o), (4, .int (nI i))]) hx hb dL_law_906 hl (by decide) rfl (fun ls hl => ?_)
      refine lv_aload_n hx hb dL_law_908 rfl (lv_at hl 4 rfl) ?_
      refine xVR (q0 := 9) (ci := 3) (As := []) (rest := []) (stk := [.int 1]) ⟨hx, hb, hml, hown, hts⟩ (c_X3_thrown γ l m0 m1 m2 m3 m4 n kc 1 td) (cwV 0 hts gL_law_X3_thrown rfl rfl rfl hdv_X3_thrown ⟨(Nat.le_of_ble_eq_true rfl), (Nat.le_of_ble_eq_true rfl)⟩) hK hP [9] rfl rfl rfl rfl hl.1 rfl (Nat.le_of_ble_eq_true rfl) dL_law_909 ⟨(by omega : _ ≤ 601024), (by omega : _ ≤ 7293034)⟩ rfl ?_
      refine lv_iload hx hb dL_law_912 (lv_at hl 1 rfl) ?_
      refine lv_icmp_eq (tgt := 919) hx hb dL_law_914 (by decide) (fun _ => ?_) (fun c => absurd (rfl) c)
      refine lv_iload hx hb dL_law_919 (lv_at hl 1 rfl) ?_
      refine lv_if_ne (tgt := 936) hx hb dL_law_921 (by decide) (fun _ => ?_) (fun c => absurd c (by decide))
      refine lv_goto (tgt := 1426) hx hb dL_law_936 (by decide) ?_
      exact K n kc td 1 tn wn f tf wf mt tg tp h kn _ _ d0 _ _ ls hd0 (hI.same hj) (hkn) hP hD hS (by omega) (by omega) (lv_sub hl [2, 3, 4, 5, 6] rfl)
  · have hxb : xInB (xs (i + 1)) 0 (nI kc - 1) = false := by simpa using hp
    refine lv_aload_n hx hb dL_law_871 rfl (lv_at hl 1 rfl) ?_
    refine lv_aload_n hx hb dL_law_872 rfl (lv_at hl 0 rfl) ?_
    refine lv_iload hx hb dL_law_873 (lv_at hl 4 rfl) ?_
    refine lv_iconst (v := 1) hx hb dL_law_875 (by decide) ?_
    refine lv_iadd hx hb dL_law_876 ?_
    refine x_top (y := nI (i + 1)) (nI_add i 1) ?_
    refine x_sld hx hb hX hbl hbA hS (i + 1) rfl (by omega) (by omega) dL_law_877 ?_
    refine lv_aload_n hx hb dL_law_878 rfl (lv_at hl 0 rfl) ?_
    refine lv_iload hx hb dL_law_879 (lv_at hl 4 rfl) ?_
    refine lv_iconst (v := 2) hx hb dL_law_881 (by decide) ?_
    refine lv_iadd hx hb dL_law_882 ?_
    refine x_top (y := nI (i + 2)) (nI_add i 2) ?_
    refine x_sld hx hb hX hbl hbA hS (i + 2) rfl (by omega) (by omega) dL_law_883 ?_
    refine lv_aload_n hx hb dL_law_884 rfl (lv_at hl 3 rfl) ?_
    refine xSME (Ex := xW1 sa) (As := [.ref q0, .int (xs (i + 1)), .int (xs (i + 2)), .ref o]) (rest := []) ⟨hx, hb, hml, hown, hts⟩ (c_L_numberIn_x1 γ l hlt sa q0 q1 q2 q3 q4 kc td kq (xs (i + 1)) (xs (i + 2)) hkc hxb o h) (vx_cwSW 4 hts gL_law_L_numberIn rfl rfl rfl hds_L_numberIn ⟨(Nat.le_of_ble_eq_true rfl), (Nat.le_of_ble_eq_true rfl)⟩) xW1_blind (fun U hU hW => ⟨xE.at hW hU hEv hEs hEh hS, va_Nc.moved hW.alike hEn.1, va_Nc.moved hW.alike hEn.2⟩) hK hP hD hS hA [0, 7, 8] rfl rfl rfl hl.1 rfl (Nat.le_of_ble_eq_true rfl) dL_law_885 ⟨(by omega : _ ≤ 601024), (by omega : _ ≤ 7293034)⟩ (fun r9 w9 H locs hw hP hD hS => ?_)
    obtain ⟨rfl, rfl⟩ := hw
    have hP : xP γ ([xO q0 2 [.ref q1, .ref q4, .int (nI kc), .int td, .ref q2, .ref q3], xO q1 0 [.ref a1, .int (nI n)], xA γ a1 12 f, xO q2 0 [.ref a2, .int tn], xA γ a2 12 tf, xO q3 1 [.ref a3, .int wn], xA γ a3 12 wf, xQ γ q4 6 (fun t9 => some (kq t9)), xL γ o 1 h, xO m0 3 [.int th, .int (nI n), .int (nI kc), .int td, .ref m1, .ref m2, .ref m3, .ref m4], xA γ m1 12 f, xA γ m2 12 mt, xA γ m3 72 tg, xA γ m4 14 tp] ++ xKp γ kq ka kn (xGt tg)) H := hP
    have hD : va_D A ([xO q0 2 [.ref q1, .ref q4, .int (nI kc), .int td, .ref q2, .ref q3], xO q1 0 [.ref a1, .int (nI n)], xA γ a1 12 f, xO q2 0 [.ref a2, .int tn], xA γ a2 12 tf, xO q3 1 [.ref a3, .int wn], xA γ a3 12 wf, xQ γ q4 6 (fun t9 => some (kq t9)), xL γ o 1 h, xO m0 3 [.int th, .int (nI n), .int (nI kc), .int td, .ref m1, .ref m2, .ref m3, .ref m4], xA γ m1 12 f, xA γ m2 12 mt, xA γ m3 72 tg, xA γ m4 14 tp] ++ xKp γ kq ka kn (xGt tg)) := hD
    refine W.eq (g2 := F0 m 888 ls [.int 1]) rfl ?_
    refine lv_istore (lv' := [(5, .int 1), (0, .ref b), (1, .ref q0), (2, .ref m0), (3, .ref o), (4, .int (nI i))]) hx hb dL_law_888 hl (by decide) rfl (fun ls hl => ?_)
    refine lv_aload_n hx hb dL_law_890 rfl (lv_at hl 3 rfl) ?_
    refine lv_aload_n hx hb dL_law_891 rfl (lv_at hl 1 rfl) ?_
    refine lv_iload hx hb dL_law_892 (lv_at hl 5 rfl) ?_
    refine lv_iconst (v := 1) hx hb dL_law_894 (by decide) ?_
    refine lv_iadd hx hb dL_law_895 ?_
    refine x_top (y := nI (i + 1)) (nI_add i 1) ?_
    refine x_sld hx hb hX hbl hbA hS (i + 1) rfl (by omega) (by omega) dL_law_896 ?_
    refine lv_aload_n hx hb dL_law_897 rfl (lv_at hl 1 rfl) ?_
    refine lv_iload hx hb dL_law_898 (lv_at hl 5 rfl) ?_
    refine lv_iconst (v := 2) hx hb dL_law_900 (by decide) ?_
    refine lv_iadd hx hb dL_law_901 ?_
    refine x_top (y := nI (i + 2)) (nI_add i 2) ?_
    refine x_sld hx hb hX hbl hbA hS (i + 2) rfl (by omega) (by omega) dL_law_902 ?_
    refine xVM (q0 := 9) (ci := 3) (As := [.int (xs (i + 1)), .int (xs (i + 2))]) (rest := []) ⟨hx, hb, hml, hown, hts⟩ (c_X3_numberIn_x1 γ l m0 m1 m2 m3 m4 n kc th td (xs (i + 1)) (xs (i + 2)) hxb) (cwV 2 hts gL_law_X3_numberIn rfl rfl rfl hdv_X3_numberIn ⟨(Nat.le_of_ble_eq_true rfl), (Nat.le_of_ble_eq_true rfl)⟩) hK hP hD hS hA [9] rfl rfl rfl rfl rfl hl.1 rfl (Nat.le_of_ble_eq_true rfl) dL_law_903 ⟨(by omega : _ ≤ 601024), (by omega : _ ≤ 7293034)⟩ (fun r9 w9 H locs hw hP hD hS => ?_)
    obtain ⟨rfl, rfl⟩ := hw
    have hP : xP γ ([xO q0 2 [.ref q1, .ref q4, .int (nI kc), .int td, .ref q2, .ref q3], xO q1 0 [.ref a1, .int (nI n)], xA γ a1 12 f, xO q2 0 [.ref a2, .int tn], xA γ a2 12 tf, xO q3 1 [.ref a3, .int wn], xA γ a3 12 wf, xQ γ q4 6 (fun t9 => some (kq t9)), xL γ o 1 h, xO m0 3 [.int 1, .int (nI n), .int (nI kc), .int td, .ref m1, .ref m2, .ref m3, .ref m4], xA γ m1 12 f, xA γ m2 12 mt, xA γ m3 72 tg, xA γ m4 14 tp] ++ xKp γ kq ka kn (xGt tg)) H := hP
    have hD : va_D A ([xO q0 2 [.ref q1, .ref q4, .int (nI kc), .int td, .ref q2, .ref q3], xO q1 0 [.ref a1, .int (nI n)], xA γ a1 12 f, xO q2 0 [.ref a2, .int tn], xA γ a2 12 tf, xO q3 1 [.ref a3, .int wn], xA γ a3 12 wf, xQ γ q4 6 (fun t9 => some (kq t9)), xL γ o 1 h, xO m0 3 [.int 1, .int (nI n), .int (nI kc), .int td, .ref m1, .ref m2, .ref m3, .ref m4], xA γ m1 12 f, xA γ m2 12 mt, xA γ m3 72 tg, xA γ m4 14 tp] ++ xKp γ kq ka kn (xGt tg)) := hD
    refine W.eq (g2 := F0 m 906 ls [.int 0]) rfl ?_
    refine lv_istore (lv' := [(6, .int 0), (5, .int 1), (0, .ref b), (1, .ref q0), (2, .ref m0), (3, .ref o), (4, .int (nI i))]) hx hb dL_law_906 hl (by decide) rfl (fun ls hl => ?_)
    refine lv_aload_n hx hb dL_law_908 rfl (lv_at hl 4 rfl) ?_
    refine xVR (q0 := 9) (ci := 3) (As := []) (rest := []) (stk := [.int 1]) ⟨hx, hb, hml, hown, hts⟩ (c_X3_thrown γ l m0 m1 m2 m3 m4 n kc 1 td) (cwV 0 hts gL_law_X3_thrown rfl rfl rfl hdv_X3_thrown ⟨(Nat.le_of_ble_eq_true rfl), (Nat.le_of_ble_eq_true rfl)⟩) hK hP [9] rfl rfl rfl rfl hl.1 rfl (Nat.le_of_ble_eq_true rfl) dL_law_909 ⟨(by omega : _ ≤ 601024), (by omega : _ ≤ 7293034)⟩ rfl ?_
    refine lv_iload hx hb dL_law_912 (lv_at hl 1 rfl) ?_
    refine lv_icmp_eq (tgt := 919) hx hb dL_law_914 (by decide) (fun _ => ?_) (fun c => absurd (rfl) c)
    refine lv_iload hx hb dL_law_919 (lv_at hl 1 rfl) ?_
    refine lv_if_ne (tgt := 936) hx hb dL_law_921 (by decide) (fun _ => ?_) (fun c => absurd c (by decide))
    refine lv_goto (tgt := 1426) hx hb dL_law_936 (by decide) ?_
    exact K n kc td 1 tn wn f tf wf mt tg tp h kn _ _ d0 _ _ ls hd0 (hI.same hj) (hkn) hP hD hS (by omega) (by omega) (lv_sub hl [2, 3, 4, 5, 6] rfl)

theorem hds_L_differences : yL_differences.cls ≠ "java/lang/invoke/MethodHandle" ∧ yL_differences.cls ≠ "java/lang/invoke/VarHandle" ∧ (parseMethodDescriptor yL_differences.desc).map (fun d => d.parameters.length) = some 3 := by decide +kernel
theorem hdv_X3_differences : yX3_differences.cls = RX3 ∧ yX3_differences.cls ≠ "java/lang/invoke/MethodHandle" ∧ yX3_differences.cls ≠ "java/lang/invoke/VarHandle" ∧ (parseMethodDescriptor yX3_differences.desc).map (fun d => d.parameters.length) = some 1 := by decide +kernel
set_option maxHeartbeats 4000000 in
set_option maxRecDepth 100000 in
theorem xcase_differences {p : Program} {e : Env} {s : State} {m : MethodId} {below : List Frame} {meth : Method} {c : Code} (l : Launch) (hlt : l.stackTraces = false) {b L : Nat} {xs : Nat → Int32} (hL : L ≤ 1536) (C0 : lw_At p s m meth c b L xs) {γ : xG} (hK : xK γ s) (sa : Nat → Nat) (hEv : xEv s) (hEs : xEs sa s) (hEn : xEn s) {A : Nat → Prop} (hA : ∀ q : Nat, s.heap.size ≤ q → A q) (hbA : ¬ A b) (hEh : xEh A s s.heap) (q0 q1 a1 q2 a2 q3 a3 q4 o m0 m1 m2 m3 m4 : Nat) (kq ka : Nat → Nat) (j i : Nat) (hj : j < 512) (hi : i + 2 < L) (K : xK9 p l e s m below meth c b γ A q0 q1 a1 q2 a2 q3 a3 q4 o m0 m1 m2 m3 m4 kq ka (j + 1) i) (n kc : Nat) (td th tn wn : Int32) (f tf wf mt tg tp : xRow) (h : Nat → Int64) (kn : Nat → Int32) (H : Heap) (locs : List Loc) (d0 : Drawn) (cells slots : Nat) (ls : Array Slot) (hd0 : s.drawn.sameBut d0 lw_cs) (hI : xInv j n kc f tg) (hkn : ∀ t, t < kc → kn t = nI n) (hP : xP γ (LW γ q0 q1 a1 q2 a2 q3 a3 q4 o m0 m1 m2 m3 m4 kq ka n kc td th tn wn f tf wf mt tg tp h kn) H) (hD : va_D A (LW γ q0 q1 a1 q2 a2 q3 a3 q4 o m0 m1 m2 m3 m4 kq ka n kc td th tn wn f tf wf mt tg tp h kn)) (hS : va_S A s.heap H locs) (hc : cells ≤ 26 + j) (hs : slots ≤ 257 + 17 * j) (hl : lv_has ls 9 [(0, .ref b), (1, .ref q0), (2, .ref m0), (3, .ref o), (4, .int (nI i))]) : W p l e room_1 (s.setDrawn d0) m #[Value.ref b] below meth c H locs cells slots (lw_Z below #[Value.ref b] s) (F0 m 939 ls []) := by
  obtain ⟨hx, hb, hr, hml, hown, hts0, hX, hbl, hlocks, hgv⟩ := id C0
  have hts : ∀ w ∈ wsL_law, w.before #[Value.ref b] (s.setDrawn d0) = true := fun w h => dr_words hts0 d0 w (wsL_law_in w h)
  have hown : s.vm.findClass RL = some m.cls := hown
  have hX : va_X b L xs (s.setDrawn d0) s.heap := va_X.moved (u := s) (U := s.setDrawn d0) (Vm.Alike.refl s.vm) hX
  have hK : xK γ (s.setDrawn d0) := va_K.moved (u := s) (U := s.setDrawn d0) (Vm.Alike.refl s.vm) hK
  have hn0 := hI.1
  have hn1 := hI.2.1
  have hkc := hI.2.2.1
  have hP : xP γ ([xO q0 2 [.ref q1, .ref q4, .int (nI kc), .int td, .ref q2, .ref q3], xO q1 0 [.ref a1, .int (nI n)], xA γ a1 12 f, xO q2 0 [.ref a2, .int tn], xA γ a2 12 tf, xO q3 1 [.ref a3, .int wn], xA γ a3 12 wf, xQ γ q4 6 (fun t9 => some (kq t9)), xL γ o 1 h, xO m0 3 [.int th, .int (nI n), .int (nI kc), .int td, .ref m1, .ref m2, .ref m3, .ref m4], xA γ m1 12 f, xA γ m2 12 mt, xA γ m3 72 tg, xA γ m4 14 tp] ++ xKp γ kq ka kn (xGt tg)) H := hP
  have hD : va_D A ([xO q0 2 [.ref q1, .ref q4, .int (nI kc), .int td, .ref q2, .ref q3], xO q1 0 [.ref a1, .int (nI n)], xA γ a1 12 f, xO q2 0 [.ref a2, .int tn], xA γ a2 12 tf, xO q3 1 [.ref a3, .int wn], xA γ a3 12 wf, xQ γ q4 6 (fun t9 => some (kq t9)), xL γ o 1 h, xO m0 3 [.int th, .int (nI n), .int (nI kc), .int td, .ref m1, .ref m2, .ref m3, .ref m4], xA γ m1 12 f, xA γ m2 12 mt, xA γ m3 72 tg, xA γ m4 14 tp] ++ xKp γ kq ka kn (xGt tg)) := hD
  by_cases hp : xInB (xs (i + 1)) 0 (nI kc - 1) = true
  · obtain ⟨k, hk, e1⟩ := xInB_pl (n := kc) (by omega) hp
    refine lv_aload_n hx hb dL_law_939 rfl (lv_at hl 1 rfl) ?_
    refine lv_aload_n hx hb dL_law_940 rfl (lv_at hl 0 rfl) ?_
    refine lv_iload hx hb dL_law_941 (lv_at hl 4 rfl) ?_
    refine lv_iconst (v := 1) hx hb dL_law_943 (by decide) ?_
    refine lv_iadd hx hb dL_law_944 ?_
    refine x_top (y := nI (i + 1)) (nI_add i 1) ?_
    refine x_sld hx hb hX hbl hbA hS (i + 1) rfl (by omega) (by omega) dL_law_945 ?_
    refine x_top (y := nI k) (e1) ?_
    refine lv_aload_n hx hb dL_law_946 rfl (lv_at hl 3 rfl) ?_
    refine xSME (Ex := fun _ => True) (As := [.ref q0, .int (nI k), .ref o]) (rest := []) ⟨hx, hb, hml, hown, hts⟩ (c_L_differences γ l q0 q1 q2 q3 q4 kc td a1 n f kq ka kn (xGt tg) k hn0 hn1 hk hkc o h) (vx_cwSW 3 hts gL_law_L_differences rfl rfl rfl hds_L_differences ⟨(Nat.le_of_ble_eq_true rfl), (Nat.le_of_ble_eq_true rfl)⟩) (fun _ _ _ _ h => h) (fun _ _ _ => trivial) hK hP hD hS hA [14 + 2 * k, 14 + 2 * k + 1, 0, 1, 2, 7, 8] (by simp [va_nd] <;> omega) (xismC (xKp_o (base := [xO q0 2 [.ref q1, .ref q4, .int (nI kc), .int td, .ref q2, .ref q3], xO q1 0 [.ref a1, .int (nI n)], xA γ a1 12 f, xO q2 0 [.ref a2, .int tn], xA γ a2 12 tf, xO q3 1 [.ref a3, .int wn], xA γ a3 12 wf, xQ γ q4 6 (fun t9 => some (kq t9)), xL γ o 1 h, xO m0 3 [.int th, .int (nI n), .int (nI kc), .int td, .ref m1, .ref m2, .ref m3, .ref m4], xA γ m1 12 f, xA γ m2 12 mt, xA γ m3 72 tg, xA γ m4 14 tp]) (ks := (xGt tg)) (nb := 14) (t := k) rfl (by omega) (hkn k (by omega))) (xismC (xKp_r (base := [xO q0 2 [.ref q1, .ref q4, .int (nI kc), .int td, .ref q2, .ref q3], xO q1 0 [.ref a1, .int (nI n)], xA γ a1 12 f, xO q2 0 [.ref a2, .int tn], xA γ a2 12 tf, xO q3 1 [.ref a3, .int wn], xA γ a3 12 wf, xQ γ q4 6 (fun t9 => some (kq t9)), xL γ o 1 h, xO m0 3 [.int th, .int (nI n), .int (nI kc), .int td, .ref m1, .ref m2, .ref m3, .ref m4], xA γ m1 12 f, xA γ m2 12 mt, xA γ m3 72 tg, xA γ m4 14 tp]) (kn := kn) (ks := (xGt tg)) (nb := 14) (t := k) rfl (by omega)) (xismC rfl (xismC rfl (xismC rfl (xismC rfl (xismC rfl xismN))))))) rfl hl.1 rfl (Nat.le_of_ble_eq_true rfl) dL_law_947 ⟨(by omega : _ ≤ 601024), (by omega : _ ≤ 7293034)⟩ (fun r9 w9 H locs hw hP hD hS => ?_)
    obtain ⟨rfl, rfl⟩ := hw
    rw [xup_2 (xKp_o (base := [xO q0 2 [.ref q1, .ref q4, .int (nI kc), .int td, .ref q2, .ref q3], xO q1 0 [.ref a1, .int (nI n)], xA γ a1 12 f, xO q2 0 [.ref a2, .int tn], xA γ a2 12 tf, xO q3 1 [.ref a3, .int wn], xA γ a3 12 wf, xQ γ q4 6 (fun t9 => some (kq t9)), xL γ o 1 h, xO m0 3 [.int th, .int (nI n), .int (nI kc), .int td, .ref m1, .ref m2, .ref m3, .ref m4], xA γ m1 12 f, xA γ m2 12 mt, xA γ m3 72 tg, xA γ m4 14 tp]) (ks := (xGt tg)) (nb := 14) (t := k) rfl (by omega) (hkn k (by omega))) (xKp_r (base := [xO q0 2 [.ref q1, .ref q4, .int (nI kc), .int td, .ref q2, .ref q3], xO q1 0 [.ref a1, .int (nI n)], xA γ a1 12 f, xO q2 0 [.ref a2, .int tn], xA γ a2 12 tf, xO q3 1 [.ref a3, .int wn], xA γ a3 12 wf, xQ γ q4 6 (fun t9 => some (kq t9)), xL γ o 1 h, xO m0 3 [.int th, .int (nI n), .int (nI kc), .int td, .ref m1, .ref m2, .ref m3, .ref m4], xA γ m1 12 f, xA γ m2 12 mt, xA γ m3 72 tg, xA γ m4 14 tp]) (kn := kn) (ks := (xGt tg)) (nb := 14) (t := k) rfl (by omega))] at hP hD
    have hP : xP γ ([xO q0 2 [.ref q1, .ref q4, .int (nI kc), .int td, .ref q2, .ref q3], xO q1 0 [.ref a1, .int (nI n)], xA γ a1 12 f, xO q2 0 [.ref a2, .int tn], xA γ a2 12 tf, xO q3 1 [.ref a3, .int wn], xA γ a3 12 wf, xQ γ q4 6 (fun t9 => some (kq t9)), xL γ o 1 (vp_updL h 0 (Int32.toInt64 (nI (xCnt (xNe f ((xGt tg) k)) n)))), xO m0 3 [.int th, .int (nI n), .int (nI kc), .int td, .ref m1, .ref m2, .ref m3, .ref m4], xA γ m1 12 f, xA γ m2 12 mt, xA γ m3 72 tg, xA γ m4 14 tp] ++ xKp γ kq ka kn (xGt tg)) H := hP
    have hD : va_D A ([xO q0 2 [.ref q1, .ref q4, .int (nI kc), .int td, .ref q2, .ref q3], xO q1 0 [.ref a1, .int (nI n)], xA γ a1 12 f, xO q2 0 [.ref a2, .int tn], xA γ a2 12 tf, xO q3 1 [.ref a3, .int wn], xA γ a3 12 wf, xQ γ q4 6 (fun t9 => some (kq t9)), xL γ o 1 (vp_updL h 0 (Int32.toInt64 (nI (xCnt (xNe f ((xGt tg) k)) n)))), xO m0 3 [.int th, .int (nI n), .int (nI kc), .int td, .ref m1, .ref m2, .ref m3, .ref m4], xA γ m1 12 f, xA γ m2 12 mt, xA γ m3 72 tg, xA γ m4 14 tp] ++ xKp γ kq ka kn (xGt tg)) := hD
    refine W.eq (g2 := F0 m 950 ls [.int 0]) rfl ?_
    refine lv_istore (lv' := [(5, .int 0), (0, .ref b), (1, .ref q0), (2, .ref m0), (3, .ref o), (4, .int (nI i))]) hx hb dL_law_950 hl (by decide) rfl (fun ls hl => ?_)
    refine lv_aload_n hx hb dL_law_952 rfl (lv_at hl 3 rfl) ?_
    refine lv_aload_n hx hb dL_law_953 rfl (lv_at hl 1 rfl) ?_
    refine lv_iload hx hb dL_law_954 (lv_at hl 5 rfl) ?_
    refine lv_iconst (v := 1) hx hb dL_law_956 (by decide) ?_
    refine lv_iadd hx hb dL_law_957 ?_
    refine x_top (y := nI (i + 1)) (nI_add i 1) ?_
    refine x_sld hx hb hX hbl hbA hS (i + 1) rfl (by omega) (by omega) dL_law_958 ?_
    refine x_top (y := nI k) (e1) ?_
    refine xVM (q0 := 9) (ci := 3) (As := [.int (nI k)]) (rest := []) ⟨hx, hb, hml, hown, hts⟩ (c_X3_differences γ l m0 m1 m2 m3 m4 n kc th td f tg k hn0 hn1 hk hkc) (cwV 1 hts gL_law_X3_differences rfl rfl rfl hdv_X3_differences ⟨(Nat.le_of_ble_eq_true rfl), (Nat.le_of_ble_eq_true rfl)⟩) hK hP hD hS hA [9, 10, 12] rfl rfl rfl rfl rfl hl.1 rfl (Nat.le_of_ble_eq_true rfl) dL_law_959 ⟨(by omega : _ ≤ 601024), (by omega : _ ≤ 7293034)⟩ (fun r9 w9 H locs hw hP hD hS => ?_)
    obtain ⟨rfl, rfl⟩ := hw
    have hP : xP γ ([xO q0 2 [.ref q1, .ref q4, .int (nI kc), .int td, .ref q2, .ref q3], xO q1 0 [.ref a1, .int (nI n)], xA γ a1 12 f, xO q2 0 [.ref a2, .int tn], xA γ a2 12 tf, xO q3 1 [.ref a3, .int wn], xA γ a3 12 wf, xQ γ q4 6 (fun t9 => some (kq t9)), xL γ o 1 (vp_updL h 0 (Int32.toInt64 (nI (xCnt (xNe f ((xGt tg) k)) n)))), xO m0 3 [.int 0, .int (nI n), .int (nI kc), .int td, .ref m1, .ref m2, .ref m3, .ref m4], xA γ m1 12 f, xA γ m2 12 mt, xA γ m3 72 tg, xA γ m4 14 tp] ++ xKp γ kq ka kn (xGt tg)) H := hP
    have hD : va_D A ([xO q0 2 [.ref q1, .ref q4, .int (nI kc), .int td, .ref q2, .ref q3], xO q1 0 [.ref a1, .int (nI n)], xA γ a1 12 f, xO q2 0 [.ref a2, .int tn], xA γ a2 12 tf, xO q3 1 [.ref a3, .int wn], xA γ a3 12 wf, xQ γ q4 6 (fun t9 => some (kq t9)), xL γ o 1 (vp_updL h 0 (Int32.toInt64 (nI (xCnt (xNe f ((xGt tg) k)) n)))), xO m0 3 [.int 0, .int (nI n), .int (nI kc), .int td, .ref m1, .ref m2, .ref m3, .ref m4], xA γ m1 12 f, xA γ m2 12 mt, xA γ m3 72 tg, xA γ m4 14 tp] ++ xKp γ kq ka kn (xGt tg)) := hD
    refine W.eq (g2 := F0 m 962 ls [.int (nI (xCnt (xNe f (xGt tg k)) n))]) rfl ?_
    refine lv_istore (lv' := [(6, .int (nI (xCnt (xNe f (xGt tg k)) n))), (5, .int 0), (0, .ref b), (1, .ref q0), (2, .ref m0), (3, .ref o), (4, .int (nI i))]) hx hb dL_law_962 hl (by decide) rfl (fun ls hl => ?_)
    refine lv_aload_n hx hb dL_law_964 rfl (lv_at hl 4 rfl) ?_
    refine xVR (q0 := 9) (ci := 3) (As := []) (rest := []) (stk := [.int 0]) ⟨hx, hb, hml, hown, hts⟩ (c_X3_thrown γ l m0 m1 m2 m3 m4 n kc 0 td) (cwV 0 hts gL_law_X3_thrown rfl rfl rfl hdv_X3_thrown ⟨(Nat.le_of_ble_eq_true rfl), (Nat.le_of_ble_eq_true rfl)⟩) hK hP [9] rfl rfl rfl rfl hl.1 rfl (Nat.le_of_ble_eq_true rfl) dL_law_965 ⟨(by omega : _ ≤ 601024), (by omega : _ ≤ 7293034)⟩ rfl ?_
    refine lv_iload hx hb dL_law_968 (lv_at hl 1 rfl) ?_
    refine lv_icmp_eq (tgt := 975) hx hb dL_law_970 (by decide) (fun _ => ?_) (fun c => absurd (rfl) c)
    refine lv_iload hx hb dL_law_975 (lv_at hl 1 rfl) ?_
    refine lv_if_ne (tgt := 992) hx hb dL_law_977 (by decide) (fun c => absurd rfl c) (fun _ => ?_)
    refine lv_aload_n hx hb dL_law_980 rfl (lv_at hl 5 rfl) ?_
    refine lv_iconst (v := 0) hx hb dL_law_981 (by decide) ?_
    refine x_lald (f := vp_updL h 0 (Int32.toInt64 (nI (xCnt (xNe f ((xGt tg) k)) n)))) hx hb hK hP 8 rfl 0 rfl (by decide) (by decide) dL_law_982 ?_
    refine x_topl (y := Int32.toInt64 (nI (xCnt (xNe f ((xGt tg) k)) n))) rfl ?_
    refine lv_iload hx hb dL_law_983 (lv_at hl 0 rfl) ?_
    refine lv_i2l (v := Int32.toInt64 (nI (xCnt (xNe f (xGt tg k)) n))) hx hb dL_law_985 rfl ?_
    refine x_lcmp (rfl) hx hb dL_law_986 ?_
    refine lv_if_eq (tgt := 992) hx hb dL_law_987 (by decide) (fun _ => ?_) (fun c => absurd rfl c)
    refine lv_goto (tgt := 1426) hx hb dL_law_992 (by decide) ?_
    exact K n kc td 0 tn wn f tf wf mt tg tp (vp_updL h 0 (Int32.toInt64 (nI (xCnt (xNe f ((xGt tg) k)) n)))) kn _ _ d0 _ _ ls hd0 (hI.same hj) (hkn) hP hD hS (by omega) (by omega) (lv_sub hl [2, 3, 4, 5, 6] rfl)
  · have hxb : xInB (xs (i + 1)) 0 (nI kc - 1) = false := by simpa using hp
    refine lv_aload_n hx hb dL_law_939 rfl (lv_at hl 1 rfl) ?_
    refine lv_aload_n hx hb dL_law_940 rfl (lv_at hl 0 rfl) ?_
    refine lv_iload hx hb dL_law_941 (lv_at hl 4 rfl) ?_
    refine lv_iconst (v := 1) hx hb dL_law_943 (by decide) ?_
    refine lv_iadd hx hb dL_law_944 ?_
    refine x_top (y := nI (i + 1)) (nI_add i 1) ?_
    refine x_sld hx hb hX hbl hbA hS (i + 1) rfl (by omega) (by omega) dL_law_945 ?_
    refine lv_aload_n hx hb dL_law_946 rfl (lv_at hl 3 rfl) ?_
    refine xSME (Ex := xW1 sa) (As := [.ref q0, .int (xs (i + 1)), .ref o]) (rest := []) ⟨hx, hb, hml, hown, hts⟩ (c_L_differences_x γ l hlt sa q0 q1 q2 q3 q4 kc td kq (xs (i + 1)) hkc hxb o h) (vx_cwSW 3 hts gL_law_L_differences rfl rfl rfl hds_L_differences ⟨(Nat.le_of_ble_eq_true rfl), (Nat.le_of_ble_eq_true rfl)⟩) xW1_blind (fun U hU hW => ⟨xE.at hW hU hEv hEs hEh hS, va_Nc.moved hW.alike hEn.1, va_Nc.moved hW.alike hEn.2⟩) hK hP hD hS hA [0, 7, 8] rfl rfl rfl hl.1 rfl (Nat.le_of_ble_eq_true rfl) dL_law_947 ⟨(by omega : _ ≤ 601024), (by omega : _ ≤ 7293034)⟩ (fun r9 w9 H locs hw hP hD hS => ?_)
    obtain ⟨rfl, rfl⟩ := hw
    have hP : xP γ ([xO q0 2 [.ref q1, .ref q4, .int (nI kc), .int td, .ref q2, .ref q3], xO q1 0 [.ref a1, .int (nI n)], xA γ a1 12 f, xO q2 0 [.ref a2, .int tn], xA γ a2 12 tf, xO q3 1 [.ref a3, .int wn], xA γ a3 12 wf, xQ γ q4 6 (fun t9 => some (kq t9)), xL γ o 1 h, xO m0 3 [.int th, .int (nI n), .int (nI kc), .int td, .ref m1, .ref m2, .ref m3, .ref m4], xA γ m1 12 f, xA γ m2 12 mt, xA γ m3 72 tg, xA γ m4 14 tp] ++ xKp γ kq ka kn (xGt tg)) H := hP
    have hD : va_D A ([xO q0 2 [.ref q1, .ref q4, .int (nI kc), .int td, .ref q2, .ref q3], xO q1 0 [.ref a1, .int (nI n)], xA γ a1 12 f, xO q2 0 [.ref a2, .int tn], xA γ a2 12 tf, xO q3 1 [.ref a3, .int wn], xA γ a3 12 wf, xQ γ q4 6 (fun t9 => some (kq t9)), xL γ o 1 h, xO m0 3 [.int th, .int (nI n), .int (nI kc), .int td, .ref m1, .ref m2, .ref m3, .ref m4], xA γ m1 12 f, xA γ m2 12 mt, xA γ m3 72 tg, xA γ m4 14 tp] ++ xKp γ kq ka kn (xGt tg)) := hD
    refine W.eq (g2 := F0 m 950 ls [.int 1]) rfl ?_
    refine lv_istore (lv' := [(5, .int 1), (0, .ref b), (1, .ref q0), (2, .ref m0), (3, .ref o), (4, .int (nI i))]) hx hb dL_law_950 hl (by decide) rfl (fun ls hl => ?_)
    refine lv_aload_n hx hb dL_law_952 rfl (lv_at hl 3 rfl) ?_
    refine lv_aload_n hx hb dL_law_953 rfl (lv_at hl 1 rfl) ?_
    refine lv_iload hx hb dL_law_954 (lv_at hl 5 rfl) ?_
    refine lv_iconst (v := 1) hx hb dL_law_956 (by decide) ?_
    refine lv_iadd hx hb dL_law_957 ?_
    refine x_top (y := nI (i + 1)) (nI_add i 1) ?_
    refine x_sld hx hb hX hbl hbA hS (i + 1) rfl (by omega) (by omega) dL_law_958 ?_
    refine xVM (q0 := 9) (ci := 3) (As := [.int (xs (i + 1))]) (rest := []) ⟨hx, hb, hml, hown, hts⟩ (c_X3_differences_x γ l m0 m1 m2 m3 m4 n kc th td (xs (i + 1)) hxb) (cwV 1 hts gL_law_X3_differences rfl rfl rfl hdv_X3_differences ⟨(Nat.le_of_ble_eq_true rfl), (Nat.le_of_ble_eq_true rfl)⟩) hK hP hD hS hA [9] rfl rfl rfl rfl rfl hl.1 rfl (Nat.le_of_ble_eq_true rfl) dL_law_959 ⟨(by omega : _ ≤ 601024), (by omega : _ ≤ 7293034)⟩ (fun r9 w9 H locs hw hP hD hS => ?_)
    obtain ⟨rfl, rfl⟩ := hw
    have hP : xP γ ([xO q0 2 [.ref q1, .ref q4, .int (nI kc), .int td, .ref q2, .ref q3], xO q1 0 [.ref a1, .int (nI n)], xA γ a1 12 f, xO q2 0 [.ref a2, .int tn], xA γ a2 12 tf, xO q3 1 [.ref a3, .int wn], xA γ a3 12 wf, xQ γ q4 6 (fun t9 => some (kq t9)), xL γ o 1 h, xO m0 3 [.int 1, .int (nI n), .int (nI kc), .int td, .ref m1, .ref m2, .ref m3, .ref m4], xA γ m1 12 f, xA γ m2 12 mt, xA γ m3 72 tg, xA γ m4 14 tp] ++ xKp γ kq ka kn (xGt tg)) H := hP
    have hD : va_D A ([xO q0 2 [.ref q1, .ref q4, .int (nI kc), .int td, .ref q2, .ref q3], xO q1 0 [.ref a1, .int (nI n)], xA γ a1 12 f, xO q2 0 [.ref a2, .int tn], xA γ a2 12 tf, xO q3 1 [.ref a3, .int wn], xA γ a3 12 wf, xQ γ q4 6 (fun t9 => some (kq t9)), xL γ o 1 h, xO m0 3 [.int 1, .int (nI n), .int (nI kc), .int td, .ref m1, .ref m2, .ref m3, .ref m4], xA γ m1 12 f, xA γ m2 12 mt, xA γ m3 72 tg, xA γ m4 14 tp] ++ xKp γ kq ka kn (xGt tg)) := hD
    refine W.eq (g2 := F0 m 962 ls [.int 0]) rfl ?_
    refine lv_istore (lv' := [(6, .int 0), (5, .int 1), (0, .ref b), (1, .ref q0), (2, .ref m0), (3, .ref o), (4, .int (nI i))]) hx hb dL_law_962 hl (by decide) rfl (fun ls hl => ?_)
    refine lv_aload_n hx hb dL_law_964 rfl (lv_at hl 4 rfl) ?_
    refine xVR (q0 := 9) (ci := 3) (As := []) (rest := []) (stk := [.int 1]) ⟨hx, hb, hml, hown, hts⟩ (c_X3_thrown γ l m0 m1 m2 m3 m4 n kc 1 td) (cwV 0 hts gL_law_X3_thrown rfl rfl rfl hdv_X3_thrown ⟨(Nat.le_of_ble_eq_true rfl), (Nat.le_of_ble_eq_true rfl)⟩) hK hP [9] rfl rfl rfl rfl hl.1 rfl (Nat.le_of_ble_eq_true rfl) dL_law_965 ⟨(by omega : _ ≤ 601024), (by omega : _ ≤ 7293034)⟩ rfl ?_
    refine lv_iload hx hb dL_law_968 (lv_at hl 1 rfl) ?_
    refine lv_icmp_eq (tgt := 975) hx hb dL_law_970 (by decide) (fun _ => ?_) (fun c => absurd (rfl) c)
    refine lv_iload hx hb dL_law_975 (lv_at hl 1 rfl) ?_
    refine lv_if_ne (tgt := 992) hx hb dL_law_977 (by decide) (fun _ => ?_) (fun c => absurd c (by decide))
    refine lv_goto (tgt := 1426) hx hb dL_law_992 (by decide) ?_
    exact K n kc td 1 tn wn f tf wf mt tg tp h kn _ _ d0 _ _ ls hd0 (hI.same hj) (hkn) hP hD hS (by omega) (by omega) (lv_sub hl [2, 3, 4, 5, 6] rfl)

theorem hds_L_canReach : yL_canReach.cls ≠ "java/lang/invoke/MethodHandle" ∧ yL_canReach.cls ≠ "java/lang/invoke/VarHandle" ∧ (parseMethodDescriptor yL_canReach.desc).map (fun d => d.parameters.length) = some 3 := by decide +kernel
theorem hdv_X3_canReach : yX3_canReach.cls = RX3 ∧ yX3_canReach.cls ≠ "java/lang/invoke/MethodHandle" ∧ yX3_canReach.cls ≠ "java/lang/invoke/VarHandle" ∧ (parseMethodDescriptor yX3_canReach.desc).map (fun d => d.parameters.length) = some 1 := by decide +kernel
set_option maxHeartbeats 4000000 in
set_option maxRecDepth 100000 in
theorem xcase_canReach {p : Program} {e : Env} {s : State} {m : MethodId} {below : List Frame} {meth : Method} {c : Code} (l : Launch) (hlt : l.stackTraces = false) {b L : Nat} {xs : Nat → Int32} (hL : L ≤ 1536) (C0 : lw_At p s m meth c b L xs) {γ : xG} (hK : xK γ s) (sa : Nat → Nat) (hEv : xEv s) (hEs : xEs sa s) (hEn : xEn s) {A : Nat → Prop} (hA : ∀ q : Nat, s.heap.size ≤ q → A q) (hbA : ¬ A b) (hEh : xEh A s s.heap) (q0 q1 a1 q2 a2 q3 a3 q4 o m0 m1 m2 m3 m4 : Nat) (kq ka : Nat → Nat) (j i : Nat) (hj : j < 512) (hi : i + 2 < L) (K : xK9 p l e s m below meth c b γ A q0 q1 a1 q2 a2 q3 a3 q4 o m0 m1 m2 m3 m4 kq ka (j + 1) i) (n kc : Nat) (td th tn wn : Int32) (f tf wf mt tg tp : xRow) (h : Nat → Int64) (kn : Nat → Int32) (H : Heap) (locs : List Loc) (d0 : Drawn) (cells slots : Nat) (ls : Array Slot) (hd0 : s.drawn.sameBut d0 lw_cs) (hI : xInv j n kc f tg) (hkn : ∀ t, t < kc → kn t = nI n) (hP : xP γ (LW γ q0 q1 a1 q2 a2 q3 a3 q4 o m0 m1 m2 m3 m4 kq ka n kc td th tn wn f tf wf mt tg tp h kn) H) (hD : va_D A (LW γ q0 q1 a1 q2 a2 q3 a3 q4 o m0 m1 m2 m3 m4 kq ka n kc td th tn wn f tf wf mt tg tp h kn)) (hS : va_S A s.heap H locs) (hc : cells ≤ 26 + j) (hs : slots ≤ 257 + 17 * j) (hl : lv_has ls 9 [(0, .ref b), (1, .ref q0), (2, .ref m0), (3, .ref o), (4, .int (nI i))]) : W p l e room_1 (s.setDrawn d0) m #[Value.ref b] below meth c H locs cells slots (lw_Z below #[Value.ref b] s) (F0 m 995 ls []) := by
  obtain ⟨hx, hb, hr, hml, hown, hts0, hX, hbl, hlocks, hgv⟩ := id C0
  have hts : ∀ w ∈ wsL_law, w.before #[Value.ref b] (s.setDrawn d0) = true := fun w h => dr_words hts0 d0 w (wsL_law_in w h)
  have hown : s.vm.findClass RL = some m.cls := hown
  have hX : va_X b L xs (s.setDrawn d0) s.heap := va_X.moved (u := s) (U := s.setDrawn d0) (Vm.Alike.refl s.vm) hX
  have hK : xK γ (s.setDrawn d0) := va_K.moved (u := s) (U := s.setDrawn d0) (Vm.Alike.refl s.vm) hK
  have hn0 := hI.1
  have hn1 := hI.2.1
  have hkc := hI.2.2.1
  have hP : xP γ ([xO q0 2 [.ref q1, .ref q4, .int (nI kc), .int td, .ref q2, .ref q3], xO q1 0 [.ref a1, .int (nI n)], xA γ a1 12 f, xO q2 0 [.ref a2, .int tn], xA γ a2 12 tf, xO q3 1 [.ref a3, .int wn], xA γ a3 12 wf, xQ γ q4 6 (fun t9 => some (kq t9)), xL γ o 1 h, xO m0 3 [.int th, .int (nI n), .int (nI kc), .int td, .ref m1, .ref m2, .ref m3, .ref m4], xA γ m1 12 f, xA γ m2 12 mt, xA γ m3 72 tg, xA γ m4 14 tp] ++ xKp γ kq ka kn (xGt tg)) H := hP
  have hD : va_D A ([xO q0 2 [.ref q1, .ref q4, .int (nI kc), .int td, .ref q2, .ref q3], xO q1 0 [.ref a1, .int (nI n)], xA γ a1 12 f, xO q2 0 [.ref a2, .int tn], xA γ a2 12 tf, xO q3 1 [.ref a3, .int wn], xA γ a3 12 wf, xQ γ q4 6 (fun t9 => some (kq t9)), xL γ o 1 h, xO m0 3 [.int th, .int (nI n), .int (nI kc), .int td, .ref m1, .ref m2, .ref m3, .ref m4], xA γ m1 12 f, xA γ m2 12 mt, xA γ m3 72 tg, xA γ m4 14 tp] ++ xKp γ kq ka kn (xGt tg)) := hD
  by_cases hp : xInB (xs (i + 1)) 0 (nI kc - 1) = true
  · obtain ⟨k, hk, e1⟩ := xInB_pl (n := kc) (by omega) hp
    refine lv_aload_n hx hb dL_law_995 rfl (lv_at hl 1 rfl) ?_
    refine lv_aload_n hx hb dL_law_996 rfl (lv_at hl 0 rfl) ?_
    refine lv_iload hx hb dL_law_997 (lv_at hl 4 rfl) ?_
    refine lv_iconst (v := 1) hx hb dL_law_999 (by decide) ?_
    refine lv_iadd hx hb dL_law_1000 ?_
    refine x_top (y := nI (i + 1)) (nI_add i 1) ?_
    refine x_sld hx hb hX hbl hbA hS (i + 1) rfl (by omega) (by omega) dL_law_1001 ?_
    refine x_top (y := nI k) (e1) ?_
    refine lv_aload_n hx hb dL_law_1002 rfl (lv_at hl 3 rfl) ?_
    refine xSME (Ex := fun _ => True) (As := [.ref q0, .int (nI k), .ref o]) (rest := []) ⟨hx, hb, hml, hown, hts⟩ (c_L_canReach γ l q0 q1 q2 q3 q4 kc td a1 n f kq ka kn (xGt tg) k hn0 hn1 hk hkc o h) (vx_cwSW 3 hts gL_law_L_canReach rfl rfl rfl hds_L_canReach ⟨(Nat.le_of_ble_eq_true rfl), (Nat.le_of_ble_eq_true rfl)⟩) (fun _ _ _ _ h => h) (fun _ _ _ => trivial) hK hP hD hS hA [14 + 2 * k, 14 + 2 * k + 1, 0, 1, 2, 7, 8] (by simp [va_nd] <;> omega) (xismC (xKp_o (base := [xO q0 2 [.ref q1, .ref q4, .int (nI kc), .int td, .ref q2, .ref q3], xO q1 0 [.ref a1, .int (nI n)], xA γ a1 12 f, xO q2 0 [.ref a2, .int tn], xA γ a2 12 tf, xO q3 1 [.ref a3, .int wn], xA γ a3 12 wf, xQ γ q4 6 (fun t9 => some (kq t9)), xL γ o 1 h, xO m0 3 [.int th, .int (nI n), .int (nI kc), .int td, .ref m1, .ref m2, .ref m3, .ref m4], xA γ m1 12 f, xA γ m2 12 mt, xA γ m3 72 tg, xA γ m4 14 tp]) (ks := (xGt tg)) (nb := 14) (t := k) rfl (by omega) (hkn k (by omega))) (xismC (xKp_r (base := [xO q0 2 [.ref q1, .ref q4, .int (nI kc), .int td, .ref q2, .ref q3], xO q1 0 [.ref a1, .int (nI n)], xA γ a1 12 f, xO q2 0 [.ref a2, .int tn], xA γ a2 12 tf, xO q3 1 [.ref a3, .int wn], xA γ a3 12 wf, xQ γ q4 6 (fun t9 => some (kq t9)), xL γ o 1 h, xO m0 3 [.int th, .int (nI n), .int (nI kc), .int td, .ref m1, .ref m2, .ref m3, .ref m4], xA γ m1 12 f, xA γ m2 12 mt, xA γ m3 72 tg, xA γ m4 14 tp]) (kn := kn) (ks := (xGt tg)) (nb := 14) (t := k) rfl (by omega)) (xismC rfl (xismC rfl (xismC rfl (xismC rfl (xismC rfl xismN))))))) rfl hl.1 rfl (Nat.le_of_ble_eq_true rfl) dL_law_1003 ⟨(by omega : _ ≤ 601024), (by omega : _ ≤ 7293034)⟩ (fun r9 w9 H locs hw hP hD hS => ?_)
    obtain ⟨rfl, rfl⟩ := hw
    rw [xup_2 (xKp_o (base := [xO q0 2 [.ref q1, .ref q4, .int (nI kc), .int td, .ref q2, .ref q3], xO q1 0 [.ref a1, .int (nI n)], xA γ a1 12 f, xO q2 0 [.ref a2, .int tn], xA γ a2 12 tf, xO q3 1 [.ref a3, .int wn], xA γ a3 12 wf, xQ γ q4 6 (fun t9 => some (kq t9)), xL γ o 1 h, xO m0 3 [.int th, .int (nI n), .int (nI kc), .int td, .ref m1, .ref m2, .ref m3, .ref m4], xA γ m1 12 f, xA γ m2 12 mt, xA γ m3 72 tg, xA γ m4 14 tp]) (ks := (xGt tg)) (nb := 14) (t := k) rfl (by omega) (hkn k (by omega))) (xKp_r (base := [xO q0 2 [.ref q1, .ref q4, .int (nI kc), .int td, .ref q2, .ref q3], xO q1 0 [.ref a1, .int (nI n)], xA γ a1 12 f, xO q2 0 [.ref a2, .int tn], xA γ a2 12 tf, xO q3 1 [.ref a3, .int wn], xA γ a3 12 wf, xQ γ q4 6 (fun t9 => some (kq t9)), xL γ o 1 h, xO m0 3 [.int th, .int (nI n), .int (nI kc), .int td, .ref m1, .ref m2, .ref m3, .ref m4], xA γ m1 12 f, xA γ m2 12 mt, xA γ m3 72 tg, xA γ m4 14 tp]) (kn := kn) (ks := (xGt tg)) (nb := 14) (t := k) rfl (by omega))] at hP hD
    have hP : xP γ ([xO q0 2 [.ref q1, .ref q4, .int (nI kc), .int td, .ref q2, .ref q3], xO q1 0 [.ref a1, .int (nI n)], xA γ a1 12 f, xO q2 0 [.ref a2, .int tn], xA γ a2 12 tf, xO q3 1 [.ref a3, .int wn], xA γ a3 12 wf, xQ γ q4 6 (fun t9 => some (kq t9)), xL γ o 1 (vp_updL h 0 (xBL (xCB n f ((xGt tg) k)))), xO m0 3 [.int th, .int (nI n), .int (nI kc), .int td, .ref m1, .ref m2, .ref m3, .ref m4], xA γ m1 12 f, xA γ m2 12 mt, xA γ m3 72 tg, xA γ m4 14 tp] ++ xKp γ kq ka kn (xGt tg)) H := hP
    have hD : va_D A ([xO q0 2 [.ref q1, .ref q4, .int (nI kc), .int td, .ref q2, .ref q3], xO q1 0 [.ref a1, .int (nI n)], xA γ a1 12 f, xO q2 0 [.ref a2, .int tn], xA γ a2 12 tf, xO q3 1 [.ref a3, .int wn], xA γ a3 12 wf, xQ γ q4 6 (fun t9 => some (kq t9)), xL γ o 1 (vp_updL h 0 (xBL (xCB n f ((xGt tg) k)))), xO m0 3 [.int th, .int (nI n), .int (nI kc), .int td, .ref m1, .ref m2, .ref m3, .ref m4], xA γ m1 12 f, xA γ m2 12 mt, xA γ m3 72 tg, xA γ m4 14 tp] ++ xKp γ kq ka kn (xGt tg)) := hD
    refine W.eq (g2 := F0 m 1006 ls [.int 0]) rfl ?_
    refine lv_istore (lv' := [(5, .int 0), (0, .ref b), (1, .ref q0), (2, .ref m0), (3, .ref o), (4, .int (nI i))]) hx hb dL_law_1006 hl (by decide) rfl (fun ls hl => ?_)
    refine lv_aload_n hx hb dL_law_1008 rfl (lv_at hl 3 rfl) ?_
    refine lv_aload_n hx hb dL_law_1009 rfl (lv_at hl 1 rfl) ?_
    refine lv_iload hx hb dL_law_1010 (lv_at hl 5 rfl) ?_
    refine lv_iconst (v := 1) hx hb dL_law_1012 (by decide) ?_
    refine lv_iadd hx hb dL_law_1013 ?_
    refine x_top (y := nI (i + 1)) (nI_add i 1) ?_
    refine x_sld hx hb hX hbl hbA hS (i + 1) rfl (by omega) (by omega) dL_law_1014 ?_
    refine x_top (y := nI k) (e1) ?_
    refine xVM (q0 := 9) (ci := 3) (As := [.int (nI k)]) (rest := []) ⟨hx, hb, hml, hown, hts⟩ (c_X3_canReach γ l m0 m1 m2 m3 m4 n kc th td f tg tp k hn0 hn1 hk hkc) (cwV 1 hts gL_law_X3_canReach rfl rfl rfl hdv_X3_canReach ⟨(Nat.le_of_ble_eq_true rfl), (Nat.le_of_ble_eq_true rfl)⟩) hK hP hD hS hA [9, 10, 12, 13] rfl rfl rfl rfl rfl hl.1 rfl (Nat.le_of_ble_eq_true rfl) dL_law_1015 ⟨(by omega : _ ≤ 601024), (by omega : _ ≤ 7293034)⟩ (fun r9 w9 H locs hw hP hD hS => ?_)
    obtain ⟨rfl, h165x, rfl⟩ := hw
    have hP : xP γ ([xO q0 2 [.ref q1, .ref q4, .int (nI kc), .int td, .ref q2, .ref q3], xO q1 0 [.ref a1, .int (nI n)], xA γ a1 12 f, xO q2 0 [.ref a2, .int tn], xA γ a2 12 tf, xO q3 1 [.ref a3, .int wn], xA γ a3 12 wf, xQ γ q4 6 (fun t9 => some (kq t9)), xL γ o 1 (vp_updL h 0 (xBL (xCB n f ((xGt tg) k)))), xO m0 3 [.int 0, .int (nI n), .int (nI kc), .int td, .ref m1, .ref m2, .ref m3, .ref m4], xA γ m1 12 f, xA γ m2 12 mt, xA γ m3 72 tg, xA γ m4 14 h165x] ++ xKp γ kq ka kn (xGt tg)) H := hP
    have hD : va_D A ([xO q0 2 [.ref q1, .ref q4, .int (nI kc), .int td, .ref q2, .ref q3], xO q1 0 [.ref a1, .int (nI n)], xA γ a1 12 f, xO q2 0 [.ref a2, .int tn], xA γ a2 12 tf, xO q3 1 [.ref a3, .int wn], xA γ a3 12 wf, xQ γ q4 6 (fun t9 => some (kq t9)), xL γ o 1 (vp_updL h 0 (xBL (xCB n f ((xGt tg) k)))), xO m0 3 [.int 0, .int (nI n), .int (nI kc), .int td, .ref m1, .ref m2, .ref m3, .ref m4], xA γ m1 12 f, xA γ m2 12 mt, xA γ m3 72 tg, xA γ m4 14 h165x] ++ xKp γ kq ka kn (xGt tg)) := hD
    refine W.eq (g2 := F0 m 1018 ls [.int (if xSv n f (xGt tg k) = true then 1 else 0)]) rfl ?_
    refine lv_istore (lv' := [(6, .int (if xSv n f (xGt tg k) = true then 1 else 0)), (5, .int 0), (0, .ref b), (1, .ref q0), (2, .ref m0), (3, .ref o), (4, .int (nI i))]) hx hb dL_law_1018 hl (by decide) rfl (fun ls hl => ?_)
    refine lv_aload_n hx hb dL_law_1020 rfl (lv_at hl 4 rfl) ?_
    refine xVR (q0 := 9) (ci := 3) (As := []) (rest := []) (stk := [.int 0]) ⟨hx, hb, hml, hown, hts⟩ (c_X3_thrown γ l m0 m1 m2 m3 m4 n kc 0 td) (cwV 0 hts gL_law_X3_thrown rfl rfl rfl hdv_X3_thrown ⟨(Nat.le_of_ble_eq_true rfl), (Nat.le_of_ble_eq_true rfl)⟩) hK hP [9] rfl rfl rfl rfl hl.1 rfl (Nat.le_of_ble_eq_true rfl) dL_law_1021 ⟨(by omega : _ ≤ 601024), (by omega : _ ≤ 7293034)⟩ rfl ?_
    refine lv_iload hx hb dL_law_1024 (lv_at hl 1 rfl) ?_
    refine lv_icmp_eq (tgt := 1031) hx hb dL_law_1026 (by decide) (fun _ => ?_) (fun c => absurd (rfl) c)
    refine lv_iload hx hb dL_law_1031 (lv_at hl 1 rfl) ?_
    refine lv_if_ne (tgt := 1055) hx hb dL_law_1033 (by decide) (fun c => absurd rfl c) (fun _ => ?_)
    refine lv_aload_n hx hb dL_law_1036 rfl (lv_at hl 5 rfl) ?_
    refine lv_iconst (v := 0) hx hb dL_law_1037 (by decide) ?_
    refine x_lald (f := vp_updL h 0 (xBL (xCB n f ((xGt tg) k)))) hx hb hK hP 8 rfl 0 rfl (by decide) (by decide) dL_law_1038 ?_
    refine x_topl (y := xBL (xCB n f (xGt tg k))) rfl ?_
    refine lv_iload hx hb dL_law_1039 (lv_at hl 0 rfl) ?_
    refine lv_if_eq (tgt := 1048) hx hb dL_law_1041 (by decide) (fun c1041 => ?_) (fun c1041 => ?_)
    · refine lv_lconst (v := 0) hx hb dL_law_1048 (by decide) ?_
      refine x_lcmp (by rw [← xSv_eq hn0 hn1 hI.f (hI.g k hk), xBL_f (xB_f c1041)]) hx hb dL_law_1049 ?_
      refine lv_if_eq (tgt := 1055) hx hb dL_law_1050 (by decide) (fun _ => ?_) (fun c => absurd rfl c)
      refine lv_goto (tgt := 1426) hx hb dL_law_1055 (by decide) ?_
      exact K n kc td 0 tn wn f tf wf mt tg h165x (vp_updL h 0 (xBL (xCB n f ((xGt tg) k)))) kn _ _ d0 _ _ ls hd0 (hI.same hj) (hkn) hP hD hS (by omega) (by omega) (lv_sub hl [2, 3, 4, 5, 6] rfl)
    · refine lv_lconst (v := 1) hx hb dL_law_1044 (by decide) ?_
      refine lv_goto (tgt := 1049) hx hb dL_law_1045 (by decide) ?_
      refine x_lcmp (by rw [← xSv_eq hn0 hn1 hI.f (hI.g k hk), xBL_t (xB_t c1041)]) hx hb dL_law_1049 ?_
      refine lv_if_eq (tgt := 1055) hx hb dL_law_1050 (by decide) (fun _ => ?_) (fun c => absurd rfl c)
      refine lv_goto (tgt := 1426) hx hb dL_law_1055 (by decide) ?_
      exact K n kc td 0 tn wn f tf wf mt tg h165x (vp_updL h 0 (xBL (xCB n f ((xGt tg) k)))) kn _ _ d0 _ _ ls hd0 (hI.same hj) (hkn) hP hD hS (by omega) (by omega) (lv_sub hl [2, 3, 4, 5, 6] rfl)
  · have hxb : xInB (xs (i + 1)) 0 (nI kc - 1) = false := by simpa using hp
    refine lv_aload_n hx hb dL_law_995 rfl (lv_at hl 1 rfl) ?_
    refine lv_aload_n hx hb dL_law_996 rfl (lv_at hl 0 rfl) ?_
    refine lv_iload hx hb dL_law_997 (lv_at hl 4 rfl) ?_
    refine lv_iconst (v := 1) hx hb dL_law_999 (by decide) ?_
    refine lv_iadd hx hb dL_law_1000 ?_
    refine x_top (y := nI (i + 1)) (nI_add i 1) ?_
    refine x_sld hx hb hX hbl hbA hS (i + 1) rfl (by omega) (by omega) dL_law_1001 ?_
    refine lv_aload_n hx hb dL_law_1002 rfl (lv_at hl 3 rfl) ?_
    refine xSME (Ex := xW1 sa) (As := [.ref q0, .int (xs (i + 1)), .ref o]) (rest := []) ⟨hx, hb, hml, hown, hts⟩ (c_L_canReach_x γ l hlt sa q0 q1 q2 q3 q4 kc td kq (xs (i + 1)) hkc hxb o h) (vx_cwSW 3 hts gL_law_L_canReach rfl rfl rfl hds_L_canReach ⟨(Nat.le_of_ble_eq_true rfl), (Nat.le_of_ble_eq_true rfl)⟩) xW1_blind (fun U hU hW => ⟨xE.at hW hU hEv hEs hEh hS, va_Nc.moved hW.alike hEn.1, va_Nc.moved hW.alike hEn.2⟩) hK hP hD hS hA [0, 7, 8] rfl rfl rfl hl.1 rfl (Nat.le_of_ble_eq_true rfl) dL_law_1003 ⟨(by omega : _ ≤ 601024), (by omega : _ ≤ 7293034)⟩ (fun r9 w9 H locs hw hP hD hS => ?_)
    obtain ⟨rfl, rfl⟩ := hw
    have hP : xP γ ([xO q0 2 [.ref q1, .ref q4, .int (nI kc), .int td, .ref q2, .ref q3], xO q1 0 [.ref a1, .int (nI n)], xA γ a1 12 f, xO q2 0 [.ref a2, .int tn], xA γ a2 12 tf, xO q3 1 [.ref a3, .int wn], xA γ a3 12 wf, xQ γ q4 6 (fun t9 => some (kq t9)), xL γ o 1 h, xO m0 3 [.int th, .int (nI n), .int (nI kc), .int td, .ref m1, .ref m2, .ref m3, .ref m4], xA γ m1 12 f, xA γ m2 12 mt, xA γ m3 72 tg, xA γ m4 14 tp] ++ xKp γ kq ka kn (xGt tg)) H := hP
    have hD : va_D A ([xO q0 2 [.ref q1, .ref q4, .int (nI kc), .int td, .ref q2, .ref q3], xO q1 0 [.ref a1, .int (nI n)], xA γ a1 12 f, xO q2 0 [.ref a2, .int tn], xA γ a2 12 tf, xO q3 1 [.ref a3, .int wn], xA γ a3 12 wf, xQ γ q4 6 (fun t9 => some (kq t9)), xL γ o 1 h, xO m0 3 [.int th, .int (nI n), .int (nI kc), .int td, .ref m1, .ref m2, .ref m3, .ref m4], xA γ m1 12 f, xA γ m2 12 mt, xA γ m3 72 tg, xA γ m4 14 tp] ++ xKp γ kq ka kn (xGt tg)) := hD
    refine W.eq (g2 := F0 m 1006 ls [.int 1]) rfl ?_
    refine lv_istore (lv' := [(5, .int 1), (0, .ref b), (1, .ref q0), (2, .ref m0), (3, .ref o), (4, .int (nI i))]) hx hb dL_law_1006 hl (by decide) rfl (fun ls hl => ?_)
    refine lv_aload_n hx hb dL_law_1008 rfl (lv_at hl 3 rfl) ?_
    refine lv_aload_n hx hb dL_law_1009 rfl (lv_at hl 1 rfl) ?_
    refine lv_iload hx hb dL_law_1010 (lv_at hl 5 rfl) ?_
    refine lv_iconst (v := 1) hx hb dL_law_1012 (by decide) ?_
    refine lv_iadd hx hb dL_law_1013 ?_
    refine x_top (y := nI (i + 1)) (nI_add i 1) ?_
    refine x_sld hx hb hX hbl hbA hS (i + 1) rfl (by omega) (by omega) dL_law_1014 ?_
    refine xVM (q0 := 9) (ci := 3) (As := [.int (xs (i + 1))]) (rest := []) ⟨hx, hb, hml, hown, hts⟩ (c_X3_canReach_x γ l m0 m1 m2 m3 m4 n kc th td (xs (i + 1)) hxb) (cwV 1 hts gL_law_X3_canReach rfl rfl rfl hdv_X3_canReach ⟨(Nat.le_of_ble_eq_true rfl), (Nat.le_of_ble_eq_true rfl)⟩) hK hP hD hS hA [9] rfl rfl rfl rfl rfl hl.1 rfl (Nat.le_of_ble_eq_true rfl) dL_law_1015 ⟨(by omega : _ ≤ 601024), (by omega : _ ≤ 7293034)⟩ (fun r9 w9 H locs hw hP hD hS => ?_)
    obtain ⟨rfl, rfl⟩ := hw
    have hP : xP γ ([xO q0 2 [.ref q1, .ref q4, .int (nI kc), .int td, .ref q2, .ref q3], xO q1 0 [.ref a1, .int (nI n)], xA γ a1 12 f, xO q2 0 [.ref a2, .int tn], xA γ a2 12 tf, xO q3 1 [.ref a3, .int wn], xA γ a3 12 wf, xQ γ q4 6 (fun t9 => some (kq t9)), xL γ o 1 h, xO m0 3 [.int 1, .int (nI n), .int (nI kc), .int td, .ref m1, .ref m2, .ref m3, .ref m4], xA γ m1 12 f, xA γ m2 12 mt, xA γ m3 72 tg, xA γ m4 14 tp] ++ xKp γ kq ka kn (xGt tg)) H := hP
    have hD : va_D A ([xO q0 2 [.ref q1, .ref q4, .int (nI kc), .int td, .ref q2, .ref q3], xO q1 0 [.ref a1, .int (nI n)], xA γ a1 12 f, xO q2 0 [.ref a2, .int tn], xA γ a2 12 tf, xO q3 1 [.ref a3, .int wn], xA γ a3 12 wf, xQ γ q4 6 (fun t9 => some (kq t9)), xL γ o 1 h, xO m0 3 [.int 1, .int (nI n), .int (nI kc), .int td, .ref m1, .ref m2, .ref m3, .ref m4], xA γ m1 12 f, xA γ m2 12 mt, xA γ m3 72 tg, xA γ m4 14 tp] ++ xKp γ kq ka kn (xGt tg)) := hD
    refine W.eq (g2 := F0 m 1018 ls [.int 0]) rfl ?_
    refine lv_istore (lv' := [(6, .int 0), (5, .int 1), (0, .ref b), (1, .ref q0), (2, .ref m0), (3, .ref o), (4, .int (nI i))]) hx hb dL_law_1018 hl (by decide) rfl (fun ls hl => ?_)
    refine lv_aload_n hx hb dL_law_1020 rfl (lv_at hl 4 rfl) ?_
    refine xVR (q0 := 9) (ci := 3) (As := []) (rest := []) (stk := [.int 1]) ⟨hx, hb, hml, hown, hts⟩ (c_X3_thrown γ l m0 m1 m2 m3 m4 n kc 1 td) (cwV 0 hts gL_law_X3_thrown rfl rfl rfl hdv_X3_thrown ⟨(Nat.le_of_ble_eq_true rfl), (Nat.le_of_ble_eq_true rfl)⟩) hK hP [9] rfl rfl rfl rfl hl.1 rfl (Nat.le_of_ble_eq_true rfl) dL_law_1021 ⟨(by omega : _ ≤ 601024), (by omega : _ ≤ 7293034)⟩ rfl ?_
    refine lv_iload hx hb dL_law_1024 (lv_at hl 1 rfl) ?_
    refine lv_icmp_eq (tgt := 1031) hx hb dL_law_1026 (by decide) (fun _ => ?_) (fun c => absurd (rfl) c)
    refine lv_iload hx hb dL_law_1031 (lv_at hl 1 rfl) ?_
    refine lv_if_ne (tgt := 1055) hx hb dL_law_1033 (by decide) (fun _ => ?_) (fun c => absurd c (by decide))
    refine lv_goto (tgt := 1426) hx hb dL_law_1055 (by decide) ?_
    exact K n kc td 1 tn wn f tf wf mt tg tp h kn _ _ d0 _ _ ls hd0 (hI.same hj) (hkn) hP hD hS (by omega) (by omega) (lv_sub hl [2, 3, 4, 5, 6] rfl)

theorem hdv_X3_reachable : yX3_reachable.cls = RX3 ∧ yX3_reachable.cls ≠ "java/lang/invoke/MethodHandle" ∧ yX3_reachable.cls ≠ "java/lang/invoke/VarHandle" ∧ (parseMethodDescriptor yX3_reachable.desc).map (fun d => d.parameters.length) = some 0 := by decide +kernel
set_option maxHeartbeats 4000000 in
set_option maxRecDepth 100000 in
theorem xcase_reachable {p : Program} {e : Env} {s : State} {m : MethodId} {below : List Frame} {meth : Method} {c : Code} (l : Launch) (hlt : l.stackTraces = false) {b L : Nat} {xs : Nat → Int32} (hL : L ≤ 1536) (C0 : lw_At p s m meth c b L xs) {γ : xG} (hK : xK γ s) (sa : Nat → Nat) (hEv : xEv s) (hEs : xEs sa s) (hEn : xEn s) {A : Nat → Prop} (hA : ∀ q : Nat, s.heap.size ≤ q → A q) (hbA : ¬ A b) (hEh : xEh A s s.heap) (q0 q1 a1 q2 a2 q3 a3 q4 o m0 m1 m2 m3 m4 : Nat) (kq ka : Nat → Nat) (j i : Nat) (hj : j < 512) (hi : i + 2 < L) (K : xK9 p l e s m below meth c b γ A q0 q1 a1 q2 a2 q3 a3 q4 o m0 m1 m2 m3 m4 kq ka (j + 1) i) (n kc : Nat) (td th tn wn : Int32) (f tf wf mt tg tp : xRow) (h : Nat → Int64) (kn : Nat → Int32) (H : Heap) (locs : List Loc) (d0 : Drawn) (cells slots : Nat) (ls : Array Slot) (hd0 : s.drawn.sameBut d0 lw_cs) (hI : xInv j n kc f tg) (hkn : ∀ t, t < kc → kn t = nI n) (hP : xP γ (LW γ q0 q1 a1 q2 a2 q3 a3 q4 o m0 m1 m2 m3 m4 kq ka n kc td th tn wn f tf wf mt tg tp h kn) H) (hD : va_D A (LW γ q0 q1 a1 q2 a2 q3 a3 q4 o m0 m1 m2 m3 m4 kq ka n kc td th tn wn f tf wf mt tg tp h kn)) (hS : va_S A s.heap H locs) (hc : cells ≤ 26 + j) (hs : slots ≤ 257 + 17 * j) (hl : lv_has ls 9 [(0, .ref b), (1, .ref q0), (2, .ref m0), (3, .ref o), (4, .int (nI i))]) : W p l e room_1 (s.setDrawn d0) m #[Value.ref b] below meth c H locs cells slots (lw_Z below #[Value.ref b] s) (F0 m 1058 ls []) := by
  obtain ⟨hx, hb, hr, hml, hown, hts0, hX, hbl, hlocks, hgv⟩ := id C0
  have hts : ∀ w ∈ wsL_law, w.before #[Value.ref b] (s.setDrawn d0) = true := fun w h => dr_words hts0 d0 w (wsL_law_in w h)
  have hown : s.vm.findClass RL = some m.cls := hown
  have hX : va_X b L xs (s.setDrawn d0) s.heap := va_X.moved (u := s) (U := s.setDrawn d0) (Vm.Alike.refl s.vm) hX
  have hK : xK γ (s.setDrawn d0) := va_K.moved (u := s) (U := s.setDrawn d0) (Vm.Alike.refl s.vm) hK
  have hn0 := hI.1
  have hn1 := hI.2.1
  have hkc := hI.2.2.1
  have hP : xP γ ([xO q0 2 [.ref q1, .ref q4, .int (nI kc), .int td, .ref q2, .ref q3], xO q1 0 [.ref a1, .int (nI n)], xA γ a1 12 f, xO q2 0 [.ref a2, .int tn], xA γ a2 12 tf, xO q3 1 [.ref a3, .int wn], xA γ a3 12 wf, xQ γ q4 6 (fun t9 => some (kq t9)), xL γ o 1 h, xO m0 3 [.int th, .int (nI n), .int (nI kc), .int td, .ref m1, .ref m2, .ref m3, .ref m4], xA γ m1 12 f, xA γ m2 12 mt, xA γ m3 72 tg, xA γ m4 14 tp] ++ xKp γ kq ka kn (xGt tg)) H := hP
  have hD : va_D A ([xO q0 2 [.ref q1, .ref q4, .int (nI kc), .int td, .ref q2, .ref q3], xO q1 0 [.ref a1, .int (nI n)], xA γ a1 12 f, xO q2 0 [.ref a2, .int tn], xA γ a2 12 tf, xO q3 1 [.ref a3, .int wn], xA γ a3 12 wf, xQ γ q4 6 (fun t9 => some (kq t9)), xL γ o 1 h, xO m0 3 [.int th, .int (nI n), .int (nI kc), .int td, .ref m1, .ref m2, .ref m3, .ref m4], xA γ m1 12 f, xA γ m2 12 mt, xA γ m3 72 tg, xA γ m4 14 tp] ++ xKp γ kq ka kn (xGt tg)) := hD
  refine lv_aload_n hx hb dL_law_1058 rfl (lv_at hl 1 rfl) ?_
  refine xVR (q0 := 0) (ci := 2) (As := []) (rest := []) (stk := [.int (nI (xCnt (fun t9 => xCB n f ((xGt tg) t9)) kc))]) ⟨hx, hb, hml, hown, hts⟩ (c_X2_reachable γ l q0 q1 q2 q3 q4 kc td a1 n f kq ka kn (xGt tg) hn0 hn1 hkc hkn) (cwV 0 hts gL_law_X2_reachable rfl rfl rfl hdv_X2_reachable ⟨(Nat.le_of_ble_eq_true rfl), (Nat.le_of_ble_eq_true rfl)⟩) hK hP ([0, 1, 2, 7] ++ List.range' 14 12) (xsuf_R (base := [xO q0 2 [.ref q1, .ref q4, .int (nI kc), .int td, .ref q2, .ref q3], xO q1 0 [.ref a1, .int (nI n)], xA γ a1 12 f, xO q2 0 [.ref a2, .int tn], xA γ a2 12 tf, xO q3 1 [.ref a3, .int wn], xA γ a3 12 wf, xQ γ q4 6 (fun t9 => some (kq t9)), xL γ o 1 h, xO m0 3 [.int th, .int (nI n), .int (nI kc), .int td, .ref m1, .ref m2, .ref m3, .ref m4], xA γ m1 12 f, xA γ m2 12 mt, xA γ m3 72 tg, xA γ m4 14 tp]) rfl rfl rfl (by decide)) rfl rfl rfl hl.1 rfl (Nat.le_of_ble_eq_true rfl) dL_law_1059 ⟨(by omega : _ ≤ 601024), (by omega : _ ≤ 7293034)⟩ rfl ?_
  refine lv_aload_n hx hb dL_law_1062 rfl (lv_at hl 2 rfl) ?_
  refine xVM (q0 := 9) (ci := 3) (As := []) (rest := [.int (nI (xCnt (fun t9 => xCB n f ((xGt tg) t9)) kc))]) ⟨hx, hb, hml, hown, hts⟩ (c_X3_reachable γ l m0 m1 m2 m3 m4 n kc th td f tg tp hn0 hn1 hkc) (cwV 0 hts gL_law_X3_reachable rfl rfl rfl hdv_X3_reachable ⟨(Nat.le_of_ble_eq_true rfl), (Nat.le_of_ble_eq_true rfl)⟩) hK hP hD hS hA [9, 10, 12, 13] rfl rfl rfl rfl rfl hl.1 rfl (Nat.le_of_ble_eq_true rfl) dL_law_1063 ⟨(by omega : _ ≤ 601024), (by omega : _ ≤ 7293034)⟩ (fun r9 w9 H locs hw hP hD hS => ?_)
  obtain ⟨rfl, h166x, rfl⟩ := hw
  have hP : xP γ ([xO q0 2 [.ref q1, .ref q4, .int (nI kc), .int td, .ref q2, .ref q3], xO q1 0 [.ref a1, .int (nI n)], xA γ a1 12 f, xO q2 0 [.ref a2, .int tn], xA γ a2 12 tf, xO q3 1 [.ref a3, .int wn], xA γ a3 12 wf, xQ γ q4 6 (fun t9 => some (kq t9)), xL γ o 1 h, xO m0 3 [.int 0, .int (nI n), .int (nI kc), .int td, .ref m1, .ref m2, .ref m3, .ref m4], xA γ m1 12 f, xA γ m2 12 mt, xA γ m3 72 tg, xA γ m4 14 h166x] ++ xKp γ kq ka kn (xGt tg)) H := hP
  have hD : va_D A ([xO q0 2 [.ref q1, .ref q4, .int (nI kc), .int td, .ref q2, .ref q3], xO q1 0 [.ref a1, .int (nI n)], xA γ a1 12 f, xO q2 0 [.ref a2, .int tn], xA γ a2 12 tf, xO q3 1 [.ref a3, .int wn], xA γ a3 12 wf, xQ γ q4 6 (fun t9 => some (kq t9)), xL γ o 1 h, xO m0 3 [.int 0, .int (nI n), .int (nI kc), .int td, .ref m1, .ref m2, .ref m3, .ref m4], xA γ m1 12 f, xA γ m2 12 mt, xA γ m3 72 tg, xA γ m4 14 h166x] ++ xKp γ kq ka kn (xGt tg)) := hD
  refine W.eq (g2 := F0 m 1066 ls [.int (nI (xCnt (fun t9 => xSv n f (xGt tg t9)) kc)), .int (nI (xCnt (fun t9 => xCB n f ((xGt tg) t9)) kc))]) rfl ?_
  refine lv_icmp_eq (tgt := 1426) hx hb dL_law_1066 (by decide) (fun _ => ?_) (fun c => absurd (congrArg nI (xReach_eq hn0 hn1 hI.f hI.g).symm) c)
  exact K n kc td 0 tn wn f tf wf mt tg h166x h kn _ _ d0 _ _ ls hd0 (hI.same hj) (hkn) hP hD hS (by omega) (by omega) (lv_sub hl [0, 1, 2, 3, 4] rfl)

theorem hdv_X3_nearestTarget : yX3_nearestTarget.cls = RX3 ∧ yX3_nearestTarget.cls ≠ "java/lang/invoke/MethodHandle" ∧ yX3_nearestTarget.cls ≠ "java/lang/invoke/VarHandle" ∧ (parseMethodDescriptor yX3_nearestTarget.desc).map (fun d => d.parameters.length) = some 0 := by decide +kernel
set_option maxHeartbeats 4000000 in
set_option maxRecDepth 100000 in
theorem xcase_nearestTarget {p : Program} {e : Env} {s : State} {m : MethodId} {below : List Frame} {meth : Method} {c : Code} (l : Launch) (hlt : l.stackTraces = false) {b L : Nat} {xs : Nat → Int32} (hL : L ≤ 1536) (C0 : lw_At p s m meth c b L xs) {γ : xG} (hK : xK γ s) (sa : Nat → Nat) (hEv : xEv s) (hEs : xEs sa s) (hEn : xEn s) {A : Nat → Prop} (hA : ∀ q : Nat, s.heap.size ≤ q → A q) (hbA : ¬ A b) (hEh : xEh A s s.heap) (q0 q1 a1 q2 a2 q3 a3 q4 o m0 m1 m2 m3 m4 : Nat) (kq ka : Nat → Nat) (j i : Nat) (hj : j < 512) (hi : i + 2 < L) (K : xK9 p l e s m below meth c b γ A q0 q1 a1 q2 a2 q3 a3 q4 o m0 m1 m2 m3 m4 kq ka (j + 1) i) (n kc : Nat) (td th tn wn : Int32) (f tf wf mt tg tp : xRow) (h : Nat → Int64) (kn : Nat → Int32) (H : Heap) (locs : List Loc) (d0 : Drawn) (cells slots : Nat) (ls : Array Slot) (hd0 : s.drawn.sameBut d0 lw_cs) (hI : xInv j n kc f tg) (hkn : ∀ t, t < kc → kn t = nI n) (hP : xP γ (LW γ q0 q1 a1 q2 a2 q3 a3 q4 o m0 m1 m2 m3 m4 kq ka n kc td th tn wn f tf wf mt tg tp h kn) H) (hD : va_D A (LW γ q0 q1 a1 q2 a2 q3 a3 q4 o m0 m1 m2 m3 m4 kq ka n kc td th tn wn f tf wf mt tg tp h kn)) (hS : va_S A s.heap H locs) (hc : cells ≤ 26 + j) (hs : slots ≤ 257 + 17 * j) (hl : lv_has ls 9 [(0, .ref b), (1, .ref q0), (2, .ref m0), (3, .ref o), (4, .int (nI i))]) : W p l e room_1 (s.setDrawn d0) m #[Value.ref b] below meth c H locs cells slots (lw_Z below #[Value.ref b] s) (F0 m 1195 ls []) := by
  obtain ⟨hx, hb, hr, hml, hown, hts0, hX, hbl, hlocks, hgv⟩ := id C0
  have hts : ∀ w ∈ wsL_law, w.before #[Value.ref b] (s.setDrawn d0) = true := fun w h => dr_words hts0 d0 w (wsL_law_in w h)
  have hown : s.vm.findClass RL = some m.cls := hown
  have hX : va_X b L xs (s.setDrawn d0) s.heap := va_X.moved (u := s) (U := s.setDrawn d0) (Vm.Alike.refl s.vm) hX
  have hK : xK γ (s.setDrawn d0) := va_K.moved (u := s) (U := s.setDrawn d0) (Vm.Alike.refl s.vm) hK
  have hn0 := hI.1
  have hn1 := hI.2.1
  have hkc := hI.2.2.1
  have hP : xP γ ([xO q0 2 [.ref q1, .ref q4, .int (nI kc), .int td, .ref q2, .ref q3], xO q1 0 [.ref a1, .int (nI n)], xA γ a1 12 f, xO q2 0 [.ref a2, .int tn], xA γ a2 12 tf, xO q3 1 [.ref a3, .int wn], xA γ a3 12 wf, xQ γ q4 6 (fun t9 => some (kq t9)), xL γ o 1 h, xO m0 3 [.int th, .int (nI n), .int (nI kc), .int td, .ref m1, .ref m2, .ref m3, .ref m4], xA γ m1 12 f, xA γ m2 12 mt, xA γ m3 72 tg, xA γ m4 14 tp] ++ xKp γ kq ka kn (xGt tg)) H := hP
  have hD : va_D A ([xO q0 2 [.ref q1, .ref q4, .int (nI kc), .int td, .ref q2, .ref q3], xO q1 0 [.ref a1, .int (nI n)], xA γ a1 12 f, xO q2 0 [.ref a2, .int tn], xA γ a2 12 tf, xO q3 1 [.ref a3, .int wn], xA γ a3 12 wf, xQ γ q4 6 (fun t9 => some (kq t9)), xL γ o 1 h, xO m0 3 [.int th, .int (nI n), .int (nI kc), .int td, .ref m1, .ref m2, .ref m3, .ref m4], xA γ m1 12 f, xA γ m2 12 mt, xA γ m3 72 tg, xA γ m4 14 tp] ++ xKp γ kq ka kn (xGt tg)) := hD
  refine lv_aload_n hx hb dL_law_1195 rfl (lv_at hl 1 rfl) ?_
  refine xVM (q0 := 0) (ci := 2) (As := []) (rest := []) ⟨hx, hb, hml, hown, hts⟩ (c_X2_nearestTarget γ l q0 q1 q2 q3 q4 kc td a1 n f a3 wn wf kq ka kn (xGt tg) hn0 hn1 hkc hkn) (cwV 0 hts gL_law_X2_nearestTarget rfl rfl rfl hdv_X2_nearestTarget ⟨(Nat.le_of_ble_eq_true rfl), (Nat.le_of_ble_eq_true rfl)⟩) hK hP hD hS hA ([0, 1, 2, 5, 6, 7] ++ List.range' 14 12) rfl (xsuf_M (base := [xO q0 2 [.ref q1, .ref q4, .int (nI kc), .int td, .ref q2, .ref q3], xO q1 0 [.ref a1, .int (nI n)], xA γ a1 12 f, xO q2 0 [.ref a2, .int tn], xA γ a2 12 tf, xO q3 1 [.ref a3, .int wn], xA γ a3 12 wf, xQ γ q4 6 (fun t9 => some (kq t9)), xL γ o 1 h, xO m0 3 [.int th, .int (nI n), .int (nI kc), .int td, .ref m1, .ref m2, .ref m3, .ref m4], xA γ m1 12 f, xA γ m2 12 mt, xA γ m3 72 tg, xA γ m4 14 tp]) rfl rfl rfl (by decide)) rfl rfl rfl hl.1 rfl (Nat.le_of_ble_eq_true rfl) dL_law_1196 ⟨(by omega : _ ≤ 601024), (by omega : _ ≤ 7293034)⟩ (fun r9 w9 H locs hw hP hD hS => ?_)
  obtain ⟨rfl, wn167x, wf168x, rfl⟩ := hw
  rw [xup_suf (base := [xO q0 2 [.ref q1, .ref q4, .int (nI kc), .int td, .ref q2, .ref q3], xO q1 0 [.ref a1, .int (nI n)], xA γ a1 12 f, xO q2 0 [.ref a2, .int tn], xA γ a2 12 tf, xO q3 1 [.ref a3, .int wn], xA γ a3 12 wf, xQ γ q4 6 (fun t9 => some (kq t9)), xL γ o 1 h, xO m0 3 [.int th, .int (nI n), .int (nI kc), .int td, .ref m1, .ref m2, .ref m3, .ref m4], xA γ m1 12 f, xA γ m2 12 mt, xA γ m3 72 tg, xA γ m4 14 tp]) (K := xKp γ kq ka kn (xGt tg)) (is1 := [0, 1, 2, 5, 6, 7]) (w1 := [xO q0 2 [.ref q1, .ref q4, .int (nI kc), .int td, .ref q2, .ref q3], xO q1 0 [.ref a1, .int (nI n)], xA γ a1 12 f, xO q3 1 [.ref a3, .int wn167x], xA γ a3 12 wf168x, xQ γ q4 6 (fun t9 => some (kq t9))]) (nb := 14) rfl rfl rfl (by decide)] at hP hD
  have hP : xP γ ([xO q0 2 [.ref q1, .ref q4, .int (nI kc), .int td, .ref q2, .ref q3], xO q1 0 [.ref a1, .int (nI n)], xA γ a1 12 f, xO q2 0 [.ref a2, .int tn], xA γ a2 12 tf, xO q3 1 [.ref a3, .int wn167x], xA γ a3 12 wf168x, xQ γ q4 6 (fun t9 => some (kq t9)), xL γ o 1 h, xO m0 3 [.int th, .int (nI n), .int (nI kc), .int td, .ref m1, .ref m2, .ref m3, .ref m4], xA γ m1 12 f, xA γ m2 12 mt, xA γ m3 72 tg, xA γ m4 14 tp] ++ xKp γ kq ka kn (xGt tg)) H := hP
  have hD : va_D A ([xO q0 2 [.ref q1, .ref q4, .int (nI kc), .int td, .ref q2, .ref q3], xO q1 0 [.ref a1, .int (nI n)], xA γ a1 12 f, xO q2 0 [.ref a2, .int tn], xA γ a2 12 tf, xO q3 1 [.ref a3, .int wn167x], xA γ a3 12 wf168x, xQ γ q4 6 (fun t9 => some (kq t9)), xL γ o 1 h, xO m0 3 [.int th, .int (nI n), .int (nI kc), .int td, .ref m1, .ref m2, .ref m3, .ref m4], xA γ m1 12 f, xA γ m2 12 mt, xA γ m3 72 tg, xA γ m4 14 tp] ++ xKp γ kq ka kn (xGt tg)) := hD
  refine W.eq (g2 := F0 m 1199 ls [.int ((xNear (fun t9 => xFew n f ((xGt tg) t9)) kc).1)]) rfl ?_
  refine lv_aload_n hx hb dL_law_1199 rfl (lv_at hl 2 rfl) ?_
  refine xVM (q0 := 9) (ci := 3) (As := []) (rest := [.int ((xNear (fun t9 => xFew n f ((xGt tg) t9)) kc).1)]) ⟨hx, hb, hml, hown, hts⟩ (c_X3_nearestTarget γ l m0 m1 m2 m3 m4 n kc th td f tg tp hn0 hn1 hkc) (cwV 0 hts gL_law_X3_nearestTarget rfl rfl rfl hdv_X3_nearestTarget ⟨(Nat.le_of_ble_eq_true rfl), (Nat.le_of_ble_eq_true rfl)⟩) hK hP hD hS hA [9, 10, 12, 13] rfl rfl rfl rfl rfl hl.1 rfl (Nat.le_of_ble_eq_true rfl) dL_law_1200 ⟨(by omega : _ ≤ 601024), (by omega : _ ≤ 7293034)⟩ (fun r9 w9 H locs hw hP hD hS => ?_)
  obtain ⟨rfl, h169x, rfl⟩ := hw
  have hP : xP γ ([xO q0 2 [.ref q1, .ref q4, .int (nI kc), .int td, .ref q2, .ref q3], xO q1 0 [.ref a1, .int (nI n)], xA γ a1 12 f, xO q2 0 [.ref a2, .int tn], xA γ a2 12 tf, xO q3 1 [.ref a3, .int wn167x], xA γ a3 12 wf168x, xQ γ q4 6 (fun t9 => some (kq t9)), xL γ o 1 h, xO m0 3 [.int 0, .int (nI n), .int (nI kc), .int td, .ref m1, .ref m2, .ref m3, .ref m4], xA γ m1 12 f, xA γ m2 12 mt, xA γ m3 72 tg, xA γ m4 14 h169x] ++ xKp γ kq ka kn (xGt tg)) H := hP
  have hD : va_D A ([xO q0 2 [.ref q1, .ref q4, .int (nI kc), .int td, .ref q2, .ref q3], xO q1 0 [.ref a1, .int (nI n)], xA γ a1 12 f, xO q2 0 [.ref a2, .int tn], xA γ a2 12 tf, xO q3 1 [.ref a3, .int wn167x], xA γ a3 12 wf168x, xQ γ q4 6 (fun t9 => some (kq t9)), xL γ o 1 h, xO m0 3 [.int 0, .int (nI n), .int (nI kc), .int td, .ref m1, .ref m2, .ref m3, .ref m4], xA γ m1 12 f, xA γ m2 12 mt, xA γ m3 72 tg, xA γ m4 14 h169x] ++ xKp γ kq ka kn (xGt tg)) := hD
  refine W.eq (g2 := F0 m 1203 ls [.int ((xNrM (fun t9 => xFewM n f (xGt tg t9)) kc).1), .int ((xNear (fun t9 => xFew n f ((xGt tg) t9)) kc).1)]) rfl ?_
  refine lv_icmp_eq (tgt := 1426) hx hb dL_law_1203 (by decide) (fun _ => ?_) (fun c => absurd ((xNear_eq hn0 hn1 hkc hI.f hI.g).symm) c)
  exact K n kc td 0 tn wn167x f tf wf168x mt tg h169x h kn _ _ d0 _ _ ls hd0 (hI.same hj) (hkn) hP hD hS (by omega) (by omega) (lv_sub hl [0, 1, 2, 3, 4] rfl)

theorem hds_L_tipsTo : yL_tipsTo.cls ≠ "java/lang/invoke/MethodHandle" ∧ yL_tipsTo.cls ≠ "java/lang/invoke/VarHandle" ∧ (parseMethodDescriptor yL_tipsTo.desc).map (fun d => d.parameters.length) = some 4 := by decide +kernel
theorem hdv_X3_tipsTo : yX3_tipsTo.cls = RX3 ∧ yX3_tipsTo.cls ≠ "java/lang/invoke/MethodHandle" ∧ yX3_tipsTo.cls ≠ "java/lang/invoke/VarHandle" ∧ (parseMethodDescriptor yX3_tipsTo.desc).map (fun d => d.parameters.length) = some 2 := by decide +kernel
set_option maxHeartbeats 4000000 in
set_option maxRecDepth 100000 in
theorem xcase_tipsTo {p : Program} {e : Env} {s : State} {m : MethodId} {below : List Frame} {meth : Method} {c : Code} (l : Launch) (hlt : l.stackTraces = false) {b L : Nat} {xs : Nat → Int32} (hL : L ≤ 1536) (C0 : lw_At p s m meth c b L xs) {γ : xG} (hK : xK γ s) (sa : Nat → Nat) (hEv : xEv s) (hEs : xEs sa s) (hEn : xEn s) {A : Nat → Prop} (hA : ∀ q : Nat, s.heap.size ≤ q → A q) (hbA : ¬ A b) (hEh : xEh A s s.heap) (q0 q1 a1 q2 a2 q3 a3 q4 o m0 m1 m2 m3 m4 : Nat) (kq ka : Nat → Nat) (j i : Nat) (hj : j < 512) (hi : i + 2 < L) (K : xK9 p l e s m below meth c b γ A q0 q1 a1 q2 a2 q3 a3 q4 o m0 m1 m2 m3 m4 kq ka (j + 1) i) (n kc : Nat) (td th tn wn : Int32) (f tf wf mt tg tp : xRow) (h : Nat → Int64) (kn : Nat → Int32) (H : Heap) (locs : List Loc) (d0 : Drawn) (cells slots : Nat) (ls : Array Slot) (hd0 : s.drawn.sameBut d0 lw_cs) (hI : xInv j n kc f tg) (hkn : ∀ t, t < kc → kn t = nI n) (hP : xP γ (LW γ q0 q1 a1 q2 a2 q3 a3 q4 o m0 m1 m2 m3 m4 kq ka n kc td th tn wn f tf wf mt tg tp h kn) H) (hD : va_D A (LW γ q0 q1 a1 q2 a2 q3 a3 q4 o m0 m1 m2 m3 m4 kq ka n kc td th tn wn f tf wf mt tg tp h kn)) (hS : va_S A s.heap H locs) (hc : cells ≤ 26 + j) (hs : slots ≤ 257 + 17 * j) (hl : lv_has ls 9 [(0, .ref b), (1, .ref q0), (2, .ref m0), (3, .ref o), (4, .int (nI i))]) : W p l e room_1 (s.setDrawn d0) m #[Value.ref b] below meth c H locs cells slots (lw_Z below #[Value.ref b] s) (F0 m 1071 ls []) := by
  obtain ⟨hx, hb, hr, hml, hown, hts0, hX, hbl, hlocks, hgv⟩ := id C0
  have hts : ∀ w ∈ wsL_law, w.before #[Value.ref b] (s.setDrawn d0) = true := fun w h => dr_words hts0 d0 w (wsL_law_in w h)
  have hown : s.vm.findClass RL = some m.cls := hown
  have hX : va_X b L xs (s.setDrawn d0) s.heap := va_X.moved (u := s) (U := s.setDrawn d0) (Vm.Alike.refl s.vm) hX
  have hK : xK γ (s.setDrawn d0) := va_K.moved (u := s) (U := s.setDrawn d0) (Vm.Alike.refl s.vm) hK
  have hn0 := hI.1
  have hn1 := hI.2.1
  have hkc := hI.2.2.1
  have hP : xP γ ([xO q0 2 [.ref q1, .ref q4, .int (nI kc), .int td, .ref q2, .ref q3], xO q1 0 [.ref a1, .int (nI n)], xA γ a1 12 f, xO q2 0 [.ref a2, .int tn], xA γ a2 12 tf, xO q3 1 [.ref a3, .int wn], xA γ a3 12 wf, xQ γ q4 6 (fun t9 => some (kq t9)), xL γ o 1 h, xO m0 3 [.int th, .int (nI n), .int (nI kc), .int td, .ref m1, .ref m2, .ref m3, .ref m4], xA γ m1 12 f, xA γ m2 12 mt, xA γ m3 72 tg, xA γ m4 14 tp] ++ xKp γ kq ka kn (xGt tg)) H := hP
  have hD : va_D A ([xO q0 2 [.ref q1, .ref q4, .int (nI kc), .int td, .ref q2, .ref q3], xO q1 0 [.ref a1, .int (nI n)], xA γ a1 12 f, xO q2 0 [.ref a2, .int tn], xA γ a2 12 tf, xO q3 1 [.ref a3, .int wn], xA γ a3 12 wf, xQ γ q4 6 (fun t9 => some (kq t9)), xL γ o 1 h, xO m0 3 [.int th, .int (nI n), .int (nI kc), .int td, .ref m1, .ref m2, .ref m3, .ref m4], xA γ m1 12 f, xA γ m2 12 mt, xA γ m3 72 tg, xA γ m4 14 tp] ++ xKp γ kq ka kn (xGt tg)) := hD
  by_cases hp : xInB (xs (i + 1)) 0 (nI kc - 1) = true
  · obtain ⟨k, hk, e1⟩ := xInB_pl (n := kc) (by omega) hp
    by_cases hq : xInB (xs (i + 2)) 0 (nI n - 1) = true
    · obtain ⟨k2, hk2, e2⟩ := xInB_pl hn1 hq
      by_cases hcb : xCB n f (xGt tg k) = true
      · have hcb9 := hcb
        have hsv : xSv n f (xGt tg k) = true := by rw [xSv_eq hn0 hn1 hI.f (hI.g k hk)]; exact hcb
        refine lv_aload_n hx hb dL_law_1071 rfl (lv_at hl 1 rfl) ?_
        refine lv_aload_n hx hb dL_law_1072 rfl (lv_at hl 0 rfl) ?_
        refine lv_iload hx hb dL_law_1073 (lv_at hl 4 rfl) ?_
        refine lv_iconst (v := 1) hx hb dL_law_1075 (by decide) ?_
        refine lv_iadd hx hb dL_law_1076 ?_
        refine x_top (y := nI (i + 1)) (nI_add i 1) ?_
        refine x_sld hx hb hX hbl hbA hS (i + 1) rfl (by omega) (by omega) dL_law_1077 ?_
        refine x_top (y := nI k) (e1) ?_
        refine lv_aload_n hx hb dL_law_1078 rfl (lv_at hl 0 rfl) ?_
        refine lv_iload hx hb dL_law_1079 (lv_at hl 4 rfl) ?_
        refine lv_iconst (v := 2) hx hb dL_law_1081 (by decide) ?_
        refine lv_iadd hx hb dL_law_1082 ?_
        refine x_top (y := nI (i + 2)) (nI_add i 2) ?_
        refine x_sld hx hb hX hbl hbA hS (i + 2) rfl (by omega) (by omega) dL_law_1083 ?_
        refine x_top (y := nI k2) (e2) ?_
        refine lv_aload_n hx hb dL_law_1084 rfl (lv_at hl 3 rfl) ?_
        refine xSME (Ex := fun _ => True) (As := [.ref q0, .int (nI k), .int (nI k2), .ref o]) (rest := []) ⟨hx, hb, hml, hown, hts⟩ (c_L_tipsTo γ l q0 q1 q2 q3 q4 kc td a1 n f a3 wn wf kq ka kn (xGt tg) k k2 hn0 hn1 hk hkc hk2 hcb o h) (vx_cwSW 4 hts gL_law_L_tipsTo rfl rfl rfl hds_L_tipsTo ⟨(Nat.le_of_ble_eq_true rfl), (Nat.le_of_ble_eq_true rfl)⟩) (fun _ _ _ _ h => h) (fun _ _ _ => trivial) hK hP hD hS hA [14 + 2 * k, 14 + 2 * k + 1, 0, 1, 2, 5, 6, 7, 8] (by simp [va_nd] <;> omega) (xismC (xKp_o (base := [xO q0 2 [.ref q1, .ref q4, .int (nI kc), .int td, .ref q2, .ref q3], xO q1 0 [.ref a1, .int (nI n)], xA γ a1 12 f, xO q2 0 [.ref a2, .int tn], xA γ a2 12 tf, xO q3 1 [.ref a3, .int wn], xA γ a3 12 wf, xQ γ q4 6 (fun t9 => some (kq t9)), xL γ o 1 h, xO m0 3 [.int th, .int (nI n), .int (nI kc), .int td, .ref m1, .ref m2, .ref m3, .ref m4], xA γ m1 12 f, xA γ m2 12 mt, xA γ m3 72 tg, xA γ m4 14 tp]) (ks := (xGt tg)) (nb := 14) (t := k) rfl (by omega) (hkn k (by omega))) (xismC (xKp_r (base := [xO q0 2 [.ref q1, .ref q4, .int (nI kc), .int td, .ref q2, .ref q3], xO q1 0 [.ref a1, .int (nI n)], xA γ a1 12 f, xO q2 0 [.ref a2, .int tn], xA γ a2 12 tf, xO q3 1 [.ref a3, .int wn], xA γ a3 12 wf, xQ γ q4 6 (fun t9 => some (kq t9)), xL γ o 1 h, xO m0 3 [.int th, .int (nI n), .int (nI kc), .int td, .ref m1, .ref m2, .ref m3, .ref m4], xA γ m1 12 f, xA γ m2 12 mt, xA γ m3 72 tg, xA γ m4 14 tp]) (kn := kn) (ks := (xGt tg)) (nb := 14) (t := k) rfl (by omega)) (xismC rfl (xismC rfl (xismC rfl (xismC rfl (xismC rfl (xismC rfl (xismC rfl xismN))))))))) rfl hl.1 rfl (Nat.le_of_ble_eq_true rfl) dL_law_1085 ⟨(by omega : _ ≤ 601024), (by omega : _ ≤ 7293034)⟩ (fun r9 w9 H locs hw hP hD hS => ?_)
        obtain ⟨rfl, wn170x, wf171x, rfl⟩ := hw
        rw [xup_2 (xKp_o (base := [xO q0 2 [.ref q1, .ref q4, .int (nI kc), .int td, .ref q2, .ref q3], xO q1 0 [.ref a1, .int (nI n)], xA γ a1 12 f, xO q2 0 [.ref a2, .int tn], xA γ a2 12 tf, xO q3 1 [.ref a3, .int wn], xA γ a3 12 wf, xQ γ q4 6 (fun t9 => some (kq t9)), xL γ o 1 h, xO m0 3 [.int th, .int (nI n), .int (nI kc), .int td, .ref m1, .ref m2, .ref m3, .ref m4], xA γ m1 12 f, xA γ m2 12 mt, xA γ m3 72 tg, xA γ m4 14 tp]) (ks := (xGt tg)) (nb := 14) (t := k) rfl (by omega) (hkn k (by omega))) (xKp_r (base := [xO q0 2 [.ref q1, .ref q4, .int (nI kc), .int td, .ref q2, .ref q3], xO q1 0 [.ref a1, .int (nI n)], xA γ a1 12 f, xO q2 0 [.ref a2, .int tn], xA γ a2 12 tf, xO q3 1 [.ref a3, .int wn], xA γ a3 12 wf, xQ γ q4 6 (fun t9 => some (kq t9)), xL γ o 1 h, xO m0 3 [.int th, .int (nI n), .int (nI kc), .int td, .ref m1, .ref m2, .ref m3, .ref m4], xA γ m1 12 f, xA γ m2 12 mt, xA γ m3 72 tg, xA γ m4 14 tp]) (kn := kn) (ks := (xGt tg)) (nb := 14) (t := k) rfl (by omega))] at hP hD
        have hP : xP γ ([xO q0 2 [.ref q1, .ref q4, .int (nI kc), .int td, .ref q2, .ref q3], xO q1 0 [.ref a1, .int (nI n)], xA γ a1 12 f, xO q2 0 [.ref a2, .int tn], xA γ a2 12 tf, xO q3 1 [.ref a3, .int wn170x], xA γ a3 12 wf171x, xQ γ q4 6 (fun t9 => some (kq t9)), xL γ o 1 (vp_updL h 0 (Int32.toInt64 (xHt n f ((xGt tg) k) k2))), xO m0 3 [.int th, .int (nI n), .int (nI kc), .int td, .ref m1, .ref m2, .ref m3, .ref m4], xA γ m1 12 f, xA γ m2 12 mt, xA γ m3 72 tg, xA γ m4 14 tp] ++ xKp γ kq ka kn (xGt tg)) H := hP
        have hD : va_D A ([xO q0 2 [.ref q1, .ref q4, .int (nI kc), .int td, .ref q2, .ref q3], xO q1 0 [.ref a1, .int (nI n)], xA γ a1 12 f, xO q2 0 [.ref a2, .int tn], xA γ a2 12 tf, xO q3 1 [.ref a3, .int wn170x], xA γ a3 12 wf171x, xQ γ q4 6 (fun t9 => some (kq t9)), xL γ o 1 (vp_updL h 0 (Int32.toInt64 (xHt n f ((xGt tg) k) k2))), xO m0 3 [.int th, .int (nI n), .int (nI kc), .int td, .ref m1, .ref m2, .ref m3, .ref m4], xA γ m1 12 f, xA γ m2 12 mt, xA γ m3 72 tg, xA γ m4 14 tp] ++ xKp γ kq ka kn (xGt tg)) := hD
        refine W.eq (g2 := F0 m 1088 ls [.int 0]) rfl ?_
        refine lv_istore (lv' := [(5, .int 0), (0, .ref b), (1, .ref q0), (2, .ref m0), (3, .ref o), (4, .int (nI i))]) hx hb dL_law_1088 hl (by decide) rfl (fun ls hl => ?_)
        refine lv_aload_n hx hb dL_law_1090 rfl (lv_at hl 3 rfl) ?_
        refine lv_aload_n hx hb dL_law_1091 rfl (lv_at hl 1 rfl) ?_
        refine lv_iload hx hb dL_law_1092 (lv_at hl 5 rfl) ?_
        refine lv_iconst (v := 1) hx hb dL_law_1094 (by decide) ?_
        refine lv_iadd hx hb dL_law_1095 ?_
        refine x_top (y := nI (i + 1)) (nI_add i 1) ?_
        refine x_sld hx hb hX hbl hbA hS (i + 1) rfl (by omega) (by omega) dL_law_1096 ?_
        refine x_top (y := nI k) (e1) ?_
        refine lv_aload_n hx hb dL_law_1097 rfl (lv_at hl 1 rfl) ?_
        refine lv_iload hx hb dL_law_1098 (lv_at hl 5 rfl) ?_
        refine lv_iconst (v := 2) hx hb dL_law_1100 (by decide) ?_
        refine lv_iadd hx hb dL_law_1101 ?_
        refine x_top (y := nI (i + 2)) (nI_add i 2) ?_
        refine x_sld hx hb hX hbl hbA hS (i + 2) rfl (by omega) (by omega) dL_law_1102 ?_
        refine x_top (y := nI k2) (e2) ?_
        refine xVM (q0 := 9) (ci := 3) (As := [.int (nI k), .int (nI k2)]) (rest := []) ⟨hx, hb, hml, hown, hts⟩ (c_X3_tipsTo γ l m0 m1 m2 m3 m4 n kc th td f tg tp k k2 hn0 hn1 hk hkc hk2 hsv) (cwV 2 hts gL_law_X3_tipsTo rfl rfl rfl hdv_X3_tipsTo ⟨(Nat.le_of_ble_eq_true rfl), (Nat.le_of_ble_eq_true rfl)⟩) hK hP hD hS hA [9, 10, 12, 13] rfl rfl rfl rfl rfl hl.1 rfl (Nat.le_of_ble_eq_true rfl) dL_law_1103 ⟨(by omega : _ ≤ 601024), (by omega : _ ≤ 7293034)⟩ (fun r9 w9 H locs hw hP hD hS => ?_)
        obtain ⟨rfl, h172x, rfl⟩ := hw
        have hP : xP γ ([xO q0 2 [.ref q1, .ref q4, .int (nI kc), .int td, .ref q2, .ref q3], xO q1 0 [.ref a1, .int (nI n)], xA γ a1 12 f, xO q2 0 [.ref a2, .int tn], xA γ a2 12 tf, xO q3 1 [.ref a3, .int wn170x], xA γ a3 12 wf171x, xQ γ q4 6 (fun t9 => some (kq t9)), xL γ o 1 (vp_updL h 0 (Int32.toInt64 (xHt n f ((xGt tg) k) k2))), xO m0 3 [.int 0, .int (nI n), .int (nI kc), .int td, .ref m1, .ref m2, .ref m3, .ref m4], xA γ m1 12 f, xA γ m2 12 mt, xA γ m3 72 tg, xA γ m4 14 h172x] ++ xKp γ kq ka kn (xGt tg)) H := hP
        have hD : va_D A ([xO q0 2 [.ref q1, .ref q4, .int (nI kc), .int td, .ref q2, .ref q3], xO q1 0 [.ref a1, .int (nI n)], xA γ a1 12 f, xO q2 0 [.ref a2, .int tn], xA γ a2 12 tf, xO q3 1 [.ref a3, .int wn170x], xA γ a3 12 wf171x, xQ γ q4 6 (fun t9 => some (kq t9)), xL γ o 1 (vp_updL h 0 (Int32.toInt64 (xHt n f ((xGt tg) k) k2))), xO m0 3 [.int 0, .int (nI n), .int (nI kc), .int td, .ref m1, .ref m2, .ref m3, .ref m4], xA γ m1 12 f, xA γ m2 12 mt, xA γ m3 72 tg, xA γ m4 14 h172x] ++ xKp γ kq ka kn (xGt tg)) := hD
        refine W.eq (g2 := F0 m 1106 ls [.int (xAr n f (xGt tg k) (xFst1 n f (xGt tg k)) k2)]) rfl ?_
        refine lv_istore (lv' := [(6, .int (xAr n f (xGt tg k) (xFst1 n f (xGt tg k)) k2)), (5, .int 0), (0, .ref b), (1, .ref q0), (2, .ref m0), (3, .ref o), (4, .int (nI i))]) hx hb dL_law_1106 hl (by decide) rfl (fun ls hl => ?_)
        refine lv_aload_n hx hb dL_law_1108 rfl (lv_at hl 4 rfl) ?_
        refine xVR (q0 := 9) (ci := 3) (As := []) (rest := []) (stk := [.int 0]) ⟨hx, hb, hml, hown, hts⟩ (c_X3_thrown γ l m0 m1 m2 m3 m4 n kc 0 td) (cwV 0 hts gL_law_X3_thrown rfl rfl rfl hdv_X3_thrown ⟨(Nat.le_of_ble_eq_true rfl), (Nat.le_of_ble_eq_true rfl)⟩) hK hP [9] rfl rfl rfl rfl hl.1 rfl (Nat.le_of_ble_eq_true rfl) dL_law_1109 ⟨(by omega : _ ≤ 601024), (by omega : _ ≤ 7293034)⟩ rfl ?_
        refine lv_iload hx hb dL_law_1112 (lv_at hl 1 rfl) ?_
        refine lv_icmp_eq (tgt := 1119) hx hb dL_law_1114 (by decide) (fun _ => ?_) (fun c => absurd (rfl) c)
        refine lv_iload hx hb dL_law_1119 (lv_at hl 1 rfl) ?_
        refine lv_if_ne (tgt := 1136) hx hb dL_law_1121 (by decide) (fun c => absurd rfl c) (fun _ => ?_)
        refine lv_aload_n hx hb dL_law_1124 rfl (lv_at hl 5 rfl) ?_
        refine lv_iconst (v := 0) hx hb dL_law_1125 (by decide) ?_
        refine x_lald (f := vp_updL h 0 (Int32.toInt64 (xHt n f ((xGt tg) k) k2))) hx hb hK hP 8 rfl 0 rfl (by decide) (by decide) dL_law_1126 ?_
        refine x_topl (y := Int32.toInt64 (xHt n f ((xGt tg) k) k2)) rfl ?_
        refine lv_iload hx hb dL_law_1127 (lv_at hl 0 rfl) ?_
        refine lv_i2l (v := Int32.toInt64 (xAr n f (xGt tg k) (xFst1 n f (xGt tg k)) k2)) hx hb dL_law_1129 rfl ?_
        refine x_lcmp (by rw [xAr_ht hn0 (Nat.le_of_lt hk2)]) hx hb dL_law_1130 ?_
        refine lv_if_eq (tgt := 1136) hx hb dL_law_1131 (by decide) (fun _ => ?_) (fun c => absurd rfl c)
        refine lv_goto (tgt := 1426) hx hb dL_law_1136 (by decide) ?_
        exact K n kc td 0 tn wn170x f tf wf171x mt tg h172x (vp_updL h 0 (Int32.toInt64 (xHt n f ((xGt tg) k) k2))) kn _ _ d0 _ _ ls hd0 (hI.same hj) (hkn) hP hD hS (by omega) (by omega) (lv_sub hl [2, 3, 4, 5, 6] rfl)
      · have hcb : xCB n f (xGt tg k) = false := by simpa using hcb
        have hsv : xSv n f (xGt tg k) = false := by rw [xSv_eq hn0 hn1 hI.f (hI.g k hk)]; exact hcb
        refine lv_aload_n hx hb dL_law_1071 rfl (lv_at hl 1 rfl) ?_
        refine lv_aload_n hx hb dL_law_1072 rfl (lv_at hl 0 rfl) ?_
        refine lv_iload hx hb dL_law_1073 (lv_at hl 4 rfl) ?_
        refine lv_iconst (v := 1) hx hb dL_law_1075 (by decide) ?_
        refine lv_iadd hx hb dL_law_1076 ?_
        refine x_top (y := nI (i + 1)) (nI_add i 1) ?_
        refine x_sld hx hb hX hbl hbA hS (i + 1) rfl (by omega) (by omega) dL_law_1077 ?_
        refine x_top (y := nI k) (e1) ?_
        refine lv_aload_n hx hb dL_law_1078 rfl (lv_at hl 0 rfl) ?_
        refine lv_iload hx hb dL_law_1079 (lv_at hl 4 rfl) ?_
        refine lv_iconst (v := 2) hx hb dL_law_1081 (by decide) ?_
        refine lv_iadd hx hb dL_law_1082 ?_
        refine x_top (y := nI (i + 2)) (nI_add i 2) ?_
        refine x_sld hx hb hX hbl hbA hS (i + 2) rfl (by omega) (by omega) dL_law_1083 ?_
        refine x_top (y := nI k2) (e2) ?_
        refine lv_aload_n hx hb dL_law_1084 rfl (lv_at hl 3 rfl) ?_
        refine xSME (Ex := xW1 sa) (As := [.ref q0, .int (nI k), .int (nI k2), .ref o]) (rest := []) ⟨hx, hb, hml, hown, hts⟩ (c_L_tipsTo_x3 γ l hlt sa q0 q1 q2 q3 q4 kc td a1 n f kq ka kn (xGt tg) k k2 hn0 hn1 hk hkc hk2 hcb o h) (vx_cwSW 4 hts gL_law_L_tipsTo rfl rfl rfl hds_L_tipsTo ⟨(Nat.le_of_ble_eq_true rfl), (Nat.le_of_ble_eq_true rfl)⟩) xW1_blind (fun U hU hW => ⟨xE.at hW hU hEv hEs hEh hS, va_Nc.moved hW.alike hEn.1, va_Nc.moved hW.alike hEn.2⟩) hK hP hD hS hA [14 + 2 * k, 14 + 2 * k + 1, 0, 1, 2, 7, 8] (by simp [va_nd] <;> omega) (xismC (xKp_o (base := [xO q0 2 [.ref q1, .ref q4, .int (nI kc), .int td, .ref q2, .ref q3], xO q1 0 [.ref a1, .int (nI n)], xA γ a1 12 f, xO q2 0 [.ref a2, .int tn], xA γ a2 12 tf, xO q3 1 [.ref a3, .int wn], xA γ a3 12 wf, xQ γ q4 6 (fun t9 => some (kq t9)), xL γ o 1 h, xO m0 3 [.int th, .int (nI n), .int (nI kc), .int td, .ref m1, .ref m2, .ref m3, .ref m4], xA γ m1 12 f, xA γ m2 12 mt, xA γ m3 72 tg, xA γ m4 14 tp]) (ks := (xGt tg)) (nb := 14) (t := k) rfl (by omega) (hkn k (by omega))) (xismC (xKp_r (base := [xO q0 2 [.ref q1, .ref q4, .int (nI kc), .int td, .ref q2, .ref q3], xO q1 0 [.ref a1, .int (nI n)], xA γ a1 12 f, xO q2 0 [.ref a2, .int tn], xA γ a2 12 tf, xO q3 1 [.ref a3, .int wn], xA γ a3 12 wf, xQ γ q4 6 (fun t9 => some (kq t9)), xL γ o 1 h, xO m0 3 [.int th, .int (nI n), .int (nI kc), .int td, .ref m1, .ref m2, .ref m3, .ref m4], xA γ m1 12 f, xA γ m2 12 mt, xA γ m3 72 tg, xA γ m4 14 tp]) (kn := kn) (ks := (xGt tg)) (nb := 14) (t := k) rfl (by omega)) (xismC rfl (xismC rfl (xismC rfl (xismC rfl (xismC rfl xismN))))))) rfl hl.1 rfl (Nat.le_of_ble_eq_true rfl) dL_law_1085 ⟨(by omega : _ ≤ 601024), (by omega : _ ≤ 7293034)⟩ (fun r9 w9 H locs hw hP hD hS => ?_)
        obtain ⟨rfl, rfl⟩ := hw
        rw [xup_2 (xKp_o (base := [xO q0 2 [.ref q1, .ref q4, .int (nI kc), .int td, .ref q2, .ref q3], xO q1 0 [.ref a1, .int (nI n)], xA γ a1 12 f, xO q2 0 [.ref a2, .int tn], xA γ a2 12 tf, xO q3 1 [.ref a3, .int wn], xA γ a3 12 wf, xQ γ q4 6 (fun t9 => some (kq t9)), xL γ o 1 h, xO m0 3 [.int th, .int (nI n), .int (nI kc), .int td, .ref m1, .ref m2, .ref m3, .ref m4], xA γ m1 12 f, xA γ m2 12 mt, xA γ m3 72 tg, xA γ m4 14 tp]) (ks := (xGt tg)) (nb := 14) (t := k) rfl (by omega) (hkn k (by omega))) (xKp_r (base := [xO q0 2 [.ref q1, .ref q4, .int (nI kc), .int td, .ref q2, .ref q3], xO q1 0 [.ref a1, .int (nI n)], xA γ a1 12 f, xO q2 0 [.ref a2, .int tn], xA γ a2 12 tf, xO q3 1 [.ref a3, .int wn], xA γ a3 12 wf, xQ γ q4 6 (fun t9 => some (kq t9)), xL γ o 1 h, xO m0 3 [.int th, .int (nI n), .int (nI kc), .int td, .ref m1, .ref m2, .ref m3, .ref m4], xA γ m1 12 f, xA γ m2 12 mt, xA γ m3 72 tg, xA γ m4 14 tp]) (kn := kn) (ks := (xGt tg)) (nb := 14) (t := k) rfl (by omega))] at hP hD
        have hP : xP γ ([xO q0 2 [.ref q1, .ref q4, .int (nI kc), .int td, .ref q2, .ref q3], xO q1 0 [.ref a1, .int (nI n)], xA γ a1 12 f, xO q2 0 [.ref a2, .int tn], xA γ a2 12 tf, xO q3 1 [.ref a3, .int wn], xA γ a3 12 wf, xQ γ q4 6 (fun t9 => some (kq t9)), xL γ o 1 h, xO m0 3 [.int th, .int (nI n), .int (nI kc), .int td, .ref m1, .ref m2, .ref m3, .ref m4], xA γ m1 12 f, xA γ m2 12 mt, xA γ m3 72 tg, xA γ m4 14 tp] ++ xKp γ kq ka kn (xGt tg)) H := hP
        have hD : va_D A ([xO q0 2 [.ref q1, .ref q4, .int (nI kc), .int td, .ref q2, .ref q3], xO q1 0 [.ref a1, .int (nI n)], xA γ a1 12 f, xO q2 0 [.ref a2, .int tn], xA γ a2 12 tf, xO q3 1 [.ref a3, .int wn], xA γ a3 12 wf, xQ γ q4 6 (fun t9 => some (kq t9)), xL γ o 1 h, xO m0 3 [.int th, .int (nI n), .int (nI kc), .int td, .ref m1, .ref m2, .ref m3, .ref m4], xA γ m1 12 f, xA γ m2 12 mt, xA γ m3 72 tg, xA γ m4 14 tp] ++ xKp γ kq ka kn (xGt tg)) := hD
        refine W.eq (g2 := F0 m 1088 ls [.int 2]) rfl ?_
        refine lv_istore (lv' := [(5, .int 2), (0, .ref b), (1, .ref q0), (2, .ref m0), (3, .ref o), (4, .int (nI i))]) hx hb dL_law_1088 hl (by decide) rfl (fun ls hl => ?_)
        refine lv_aload_n hx hb dL_law_1090 rfl (lv_at hl 3 rfl) ?_
        refine lv_aload_n hx hb dL_law_1091 rfl (lv_at hl 1 rfl) ?_
        refine lv_iload hx hb dL_law_1092 (lv_at hl 5 rfl) ?_
        refine lv_iconst (v := 1) hx hb dL_law_1094 (by decide) ?_
        refine lv_iadd hx hb dL_law_1095 ?_
        refine x_top (y := nI (i + 1)) (nI_add i 1) ?_
        refine x_sld hx hb hX hbl hbA hS (i + 1) rfl (by omega) (by omega) dL_law_1096 ?_
        refine x_top (y := nI k) (e1) ?_
        refine lv_aload_n hx hb dL_law_1097 rfl (lv_at hl 1 rfl) ?_
        refine lv_iload hx hb dL_law_1098 (lv_at hl 5 rfl) ?_
        refine lv_iconst (v := 2) hx hb dL_law_1100 (by decide) ?_
        refine lv_iadd hx hb dL_law_1101 ?_
        refine x_top (y := nI (i + 2)) (nI_add i 2) ?_
        refine x_sld hx hb hX hbl hbA hS (i + 2) rfl (by omega) (by omega) dL_law_1102 ?_
        refine x_top (y := nI k2) (e2) ?_
        refine xVM (q0 := 9) (ci := 3) (As := [.int (nI k), .int (nI k2)]) (rest := []) ⟨hx, hb, hml, hown, hts⟩ (c_X3_tipsTo_x3 γ l m0 m1 m2 m3 m4 n kc th td f tg tp k k2 hn0 hn1 hk hkc hk2 hsv) (cwV 2 hts gL_law_X3_tipsTo rfl rfl rfl hdv_X3_tipsTo ⟨(Nat.le_of_ble_eq_true rfl), (Nat.le_of_ble_eq_true rfl)⟩) hK hP hD hS hA [9, 10, 12, 13] rfl rfl rfl rfl rfl hl.1 rfl (Nat.le_of_ble_eq_true rfl) dL_law_1103 ⟨(by omega : _ ≤ 601024), (by omega : _ ≤ 7293034)⟩ (fun r9 w9 H locs hw hP hD hS => ?_)
        obtain ⟨rfl, h173x, rfl⟩ := hw
        have hP : xP γ ([xO q0 2 [.ref q1, .ref q4, .int (nI kc), .int td, .ref q2, .ref q3], xO q1 0 [.ref a1, .int (nI n)], xA γ a1 12 f, xO q2 0 [.ref a2, .int tn], xA γ a2 12 tf, xO q3 1 [.ref a3, .int wn], xA γ a3 12 wf, xQ γ q4 6 (fun t9 => some (kq t9)), xL γ o 1 h, xO m0 3 [.int 2, .int (nI n), .int (nI kc), .int td, .ref m1, .ref m2, .ref m3, .ref m4], xA γ m1 12 f, xA γ m2 12 mt, xA γ m3 72 tg, xA γ m4 14 h173x] ++ xKp γ kq ka kn (xGt tg)) H := hP
        have hD : va_D A ([xO q0 2 [.ref q1, .ref q4, .int (nI kc), .int td, .ref q2, .ref q3], xO q1 0 [.ref a1, .int (nI n)], xA γ a1 12 f, xO q2 0 [.ref a2, .int tn], xA γ a2 12 tf, xO q3 1 [.ref a3, .int wn], xA γ a3 12 wf, xQ γ q4 6 (fun t9 => some (kq t9)), xL γ o 1 h, xO m0 3 [.int 2, .int (nI n), .int (nI kc), .int td, .ref m1, .ref m2, .ref m3, .ref m4], xA γ m1 12 f, xA γ m2 12 mt, xA γ m3 72 tg, xA γ m4 14 h173x] ++ xKp γ kq ka kn (xGt tg)) := hD
        refine W.eq (g2 := F0 m 1106 ls [.int 0]) rfl ?_
        refine lv_istore (lv' := [(6, .int 0), (5, .int 2), (0, .ref b), (1, .ref q0), (2, .ref m0), (3, .ref o), (4, .int (nI i))]) hx hb dL_law_1106 hl (by decide) rfl (fun ls hl => ?_)
        refine lv_aload_n hx hb dL_law_1108 rfl (lv_at hl 4 rfl) ?_
        refine xVR (q0 := 9) (ci := 3) (As := []) (rest := []) (stk := [.int 2]) ⟨hx, hb, hml, hown, hts⟩ (c_X3_thrown γ l m0 m1 m2 m3 m4 n kc 2 td) (cwV 0 hts gL_law_X3_thrown rfl rfl rfl hdv_X3_thrown ⟨(Nat.le_of_ble_eq_true rfl), (Nat.le_of_ble_eq_true rfl)⟩) hK hP [9] rfl rfl rfl rfl hl.1 rfl (Nat.le_of_ble_eq_true rfl) dL_law_1109 ⟨(by omega : _ ≤ 601024), (by omega : _ ≤ 7293034)⟩ rfl ?_
        refine lv_iload hx hb dL_law_1112 (lv_at hl 1 rfl) ?_
        refine lv_icmp_eq (tgt := 1119) hx hb dL_law_1114 (by decide) (fun _ => ?_) (fun c => absurd (rfl) c)
        refine lv_iload hx hb dL_law_1119 (lv_at hl 1 rfl) ?_
        refine lv_if_ne (tgt := 1136) hx hb dL_law_1121 (by decide) (fun _ => ?_) (fun c => absurd c (by decide))
        refine lv_goto (tgt := 1426) hx hb dL_law_1136 (by decide) ?_
        exact K n kc td 2 tn wn f tf wf mt tg h173x h kn _ _ d0 _ _ ls hd0 (hI.same hj) (hkn) hP hD hS (by omega) (by omega) (lv_sub hl [2, 3, 4, 5, 6] rfl)
    · have hxb : xInB (xs (i + 2)) 0 (nI n - 1) = false := by simpa using hq
      refine lv_aload_n hx hb dL_law_1071 rfl (lv_at hl 1 rfl) ?_
      refine lv_aload_n hx hb dL_law_1072 rfl (lv_at hl 0 rfl) ?_
      refine lv_iload hx hb dL_law_1073 (lv_at hl 4 rfl) ?_
      refine lv_iconst (v := 1) hx hb dL_law_1075 (by decide) ?_
      refine lv_iadd hx hb dL_law_1076 ?_
      refine x_top (y := nI (i + 1)) (nI_add i 1) ?_
      refine x_sld hx hb hX hbl hbA hS (i + 1) rfl (by omega) (by omega) dL_law_1077 ?_
      refine x_top (y := nI k) (e1) ?_
      refine lv_aload_n hx hb dL_law_1078 rfl (lv_at hl 0 rfl) ?_
      refine lv_iload hx hb dL_law_1079 (lv_at hl 4 rfl) ?_
      refine lv_iconst (v := 2) hx hb dL_law_1081 (by decide) ?_
      refine lv_iadd hx hb dL_law_1082 ?_
      refine x_top (y := nI (i + 2)) (nI_add i 2) ?_
      refine x_sld hx hb hX hbl hbA hS (i + 2) rfl (by omega) (by omega) dL_law_1083 ?_
      refine lv_aload_n hx hb dL_law_1084 rfl (lv_at hl 3 rfl) ?_
      refine xSME (Ex := xW1 sa) (As := [.ref q0, .int (nI k), .int (xs (i + 2)), .ref o]) (rest := []) ⟨hx, hb, hml, hown, hts⟩ (c_L_tipsTo_x2 γ l hlt sa q0 q1 q2 q3 q4 kc td a1 n f kq k (xs (i + 2)) hn0 hn1 hk hkc hxb o h) (vx_cwSW 4 hts gL_law_L_tipsTo rfl rfl rfl hds_L_tipsTo ⟨(Nat.le_of_ble_eq_true rfl), (Nat.le_of_ble_eq_true rfl)⟩) xW1_blind (fun U hU hW => ⟨xE.at hW hU hEv hEs hEh hS, va_Nc.moved hW.alike hEn.1, va_Nc.moved hW.alike hEn.2⟩) hK hP hD hS hA [0, 1, 2, 7, 8] rfl rfl rfl hl.1 rfl (Nat.le_of_ble_eq_true rfl) dL_law_1085 ⟨(by omega : _ ≤ 601024), (by omega : _ ≤ 7293034)⟩ (fun r9 w9 H locs hw hP hD hS => ?_)
      obtain ⟨rfl, rfl⟩ := hw
      have hP : xP γ ([xO q0 2 [.ref q1, .ref q4, .int (nI kc), .int td, .ref q2, .ref q3], xO q1 0 [.ref a1, .int (nI n)], xA γ a1 12 f, xO q2 0 [.ref a2, .int tn], xA γ a2 12 tf, xO q3 1 [.ref a3, .int wn], xA γ a3 12 wf, xQ γ q4 6 (fun t9 => some (kq t9)), xL γ o 1 h, xO m0 3 [.int th, .int (nI n), .int (nI kc), .int td, .ref m1, .ref m2, .ref m3, .ref m4], xA γ m1 12 f, xA γ m2 12 mt, xA γ m3 72 tg, xA γ m4 14 tp] ++ xKp γ kq ka kn (xGt tg)) H := hP
      have hD : va_D A ([xO q0 2 [.ref q1, .ref q4, .int (nI kc), .int td, .ref q2, .ref q3], xO q1 0 [.ref a1, .int (nI n)], xA γ a1 12 f, xO q2 0 [.ref a2, .int tn], xA γ a2 12 tf, xO q3 1 [.ref a3, .int wn], xA γ a3 12 wf, xQ γ q4 6 (fun t9 => some (kq t9)), xL γ o 1 h, xO m0 3 [.int th, .int (nI n), .int (nI kc), .int td, .ref m1, .ref m2, .ref m3, .ref m4], xA γ m1 12 f, xA γ m2 12 mt, xA γ m3 72 tg, xA γ m4 14 tp] ++ xKp γ kq ka kn (xGt tg)) := hD
      refine W.eq (g2 := F0 m 1088 ls [.int 1]) rfl ?_
      refine lv_istore (lv' := [(5, .int 1), (0, .ref b), (1, .ref q0), (2, .ref m0), (3, .ref o), (4, .int (nI i))]) hx hb dL_law_1088 hl (by decide) rfl (fun ls hl => ?_)
      refine lv_aload_n hx hb dL_law_1090 rfl (lv_at hl 3 rfl) ?_
      refine lv_aload_n hx hb dL_law_1091 rfl (lv_at hl 1 rfl) ?_
      refine lv_iload hx hb dL_law_1092 (lv_at hl 5 rfl) ?_
      refine lv_iconst (v := 1) hx hb dL_law_1094 (by decide) ?_
      refine lv_iadd hx hb dL_law_1095 ?_
      refine x_top (y := nI (i + 1)) (nI_add i 1) ?_
      refine x_sld hx hb hX hbl hbA hS (i + 1) rfl (by omega) (by omega) dL_law_1096 ?_
      refine x_top (y := nI k) (e1) ?_
      refine lv_aload_n hx hb dL_law_1097 rfl (lv_at hl 1 rfl) ?_
      refine lv_iload hx hb dL_law_1098 (lv_at hl 5 rfl) ?_
      refine lv_iconst (v := 2) hx hb dL_law_1100 (by decide) ?_
      refine lv_iadd hx hb dL_law_1101 ?_
      refine x_top (y := nI (i + 2)) (nI_add i 2) ?_
      refine x_sld hx hb hX hbl hbA hS (i + 2) rfl (by omega) (by omega) dL_law_1102 ?_
      refine xVM (q0 := 9) (ci := 3) (As := [.int (nI k), .int (xs (i + 2))]) (rest := []) ⟨hx, hb, hml, hown, hts⟩ (c_X3_tipsTo_x2 γ l m0 m1 m2 m3 m4 n kc th td k (xs (i + 2)) hk hkc hxb) (cwV 2 hts gL_law_X3_tipsTo rfl rfl rfl hdv_X3_tipsTo ⟨(Nat.le_of_ble_eq_true rfl), (Nat.le_of_ble_eq_true rfl)⟩) hK hP hD hS hA [9] rfl rfl rfl rfl rfl hl.1 rfl (Nat.le_of_ble_eq_true rfl) dL_law_1103 ⟨(by omega : _ ≤ 601024), (by omega : _ ≤ 7293034)⟩ (fun r9 w9 H locs hw hP hD hS => ?_)
      obtain ⟨rfl, rfl⟩ := hw
      have hP : xP γ ([xO q0 2 [.ref q1, .ref q4, .int (nI kc), .int td, .ref q2, .ref q3], xO q1 0 [.ref a1, .int (nI n)], xA γ a1 12 f, xO q2 0 [.ref a2, .int tn], xA γ a2 12 tf, xO q3 1 [.ref a3, .int wn], xA γ a3 12 wf, xQ γ q4 6 (fun t9 => some (kq t9)), xL γ o 1 h, xO m0 3 [.int 1, .int (nI n), .int (nI kc), .int td, .ref m1, .ref m2, .ref m3, .ref m4], xA γ m1 12 f, xA γ m2 12 mt, xA γ m3 72 tg, xA γ m4 14 tp] ++ xKp γ kq ka kn (xGt tg)) H := hP
      have hD : va_D A ([xO q0 2 [.ref q1, .ref q4, .int (nI kc), .int td, .ref q2, .ref q3], xO q1 0 [.ref a1, .int (nI n)], xA γ a1 12 f, xO q2 0 [.ref a2, .int tn], xA γ a2 12 tf, xO q3 1 [.ref a3, .int wn], xA γ a3 12 wf, xQ γ q4 6 (fun t9 => some (kq t9)), xL γ o 1 h, xO m0 3 [.int 1, .int (nI n), .int (nI kc), .int td, .ref m1, .ref m2, .ref m3, .ref m4], xA γ m1 12 f, xA γ m2 12 mt, xA γ m3 72 tg, xA γ m4 14 tp] ++ xKp γ kq ka kn (xGt tg)) := hD
      refine W.eq (g2 := F0 m 1106 ls [.int 0]) rfl ?_
      refine lv_istore (lv' := [(6, .int 0), (5, .int 1), (0, .ref b), (1, .ref q0), (2, .ref m0), (3, .ref o), (4, .int (nI i))]) hx hb dL_law_1106 hl (by decide) rfl (fun ls hl => ?_)
      refine lv_aload_n hx hb dL_law_1108 rfl (lv_at hl 4 rfl) ?_
      refine xVR (q0 := 9) (ci := 3) (As := []) (rest := []) (stk := [.int 1]) ⟨hx, hb, hml, hown, hts⟩ (c_X3_thrown γ l m0 m1 m2 m3 m4 n kc 1 td) (cwV 0 hts gL_law_X3_thrown rfl rfl rfl hdv_X3_thrown ⟨(Nat.le_of_ble_eq_true rfl), (Nat.le_of_ble_eq_true rfl)⟩) hK hP [9] rfl rfl rfl rfl hl.1 rfl (Nat.le_of_ble_eq_true rfl) dL_law_1109 ⟨(by omega : _ ≤ 601024), (by omega : _ ≤ 7293034)⟩ rfl ?_
      refine lv_iload hx hb dL_law_1112 (lv_at hl 1 rfl) ?_
      refine lv_icmp_eq (tgt := 1119) hx hb dL_law_1114 (by decide) (fun _ => ?_) (fun c => absurd (rfl) c)
      refine lv_iload hx hb dL_law_1119 (lv_at hl 1 rfl) ?_
      refine lv_if_ne (tgt := 1136) hx hb dL_law_1121 (by decide) (fun _ => ?_) (fun c => absurd c (by decide))
      refine lv_goto (tgt := 1426) hx hb dL_law_1136 (by decide) ?_
      exact K n kc td 1 tn wn f tf wf mt tg tp h kn _ _ d0 _ _ ls hd0 (hI.same hj) (hkn) hP hD hS (by omega) (by omega) (lv_sub hl [2, 3, 4, 5, 6] rfl)
  · have hxb : xInB (xs (i + 1)) 0 (nI kc - 1) = false := by simpa using hp
    refine lv_aload_n hx hb dL_law_1071 rfl (lv_at hl 1 rfl) ?_
    refine lv_aload_n hx hb dL_law_1072 rfl (lv_at hl 0 rfl) ?_
    refine lv_iload hx hb dL_law_1073 (lv_at hl 4 rfl) ?_
    refine lv_iconst (v := 1) hx hb dL_law_1075 (by decide) ?_
    refine lv_iadd hx hb dL_law_1076 ?_
    refine x_top (y := nI (i + 1)) (nI_add i 1) ?_
    refine x_sld hx hb hX hbl hbA hS (i + 1) rfl (by omega) (by omega) dL_law_1077 ?_
    refine lv_aload_n hx hb dL_law_1078 rfl (lv_at hl 0 rfl) ?_
    refine lv_iload hx hb dL_law_1079 (lv_at hl 4 rfl) ?_
    refine lv_iconst (v := 2) hx hb dL_law_1081 (by decide) ?_
    refine lv_iadd hx hb dL_law_1082 ?_
    refine x_top (y := nI (i + 2)) (nI_add i 2) ?_
    refine x_sld hx hb hX hbl hbA hS (i + 2) rfl (by omega) (by omega) dL_law_1083 ?_
    refine lv_aload_n hx hb dL_law_1084 rfl (lv_at hl 3 rfl) ?_
    refine xSME (Ex := xW1 sa) (As := [.ref q0, .int (xs (i + 1)), .int (xs (i + 2)), .ref o]) (rest := []) ⟨hx, hb, hml, hown, hts⟩ (c_L_tipsTo_x1 γ l hlt sa q0 q1 q2 q3 q4 kc td kq (xs (i + 1)) (xs (i + 2)) hkc hxb o h) (vx_cwSW 4 hts gL_law_L_tipsTo rfl rfl rfl hds_L_tipsTo ⟨(Nat.le_of_ble_eq_true rfl), (Nat.le_of_ble_eq_true rfl)⟩) xW1_blind (fun U hU hW => ⟨xE.at hW hU hEv hEs hEh hS, va_Nc.moved hW.alike hEn.1, va_Nc.moved hW.alike hEn.2⟩) hK hP hD hS hA [0, 7, 8] rfl rfl rfl hl.1 rfl (Nat.le_of_ble_eq_true rfl) dL_law_1085 ⟨(by omega : _ ≤ 601024), (by omega : _ ≤ 7293034)⟩ (fun r9 w9 H locs hw hP hD hS => ?_)
    obtain ⟨rfl, rfl⟩ := hw
    have hP : xP γ ([xO q0 2 [.ref q1, .ref q4, .int (nI kc), .int td, .ref q2, .ref q3], xO q1 0 [.ref a1, .int (nI n)], xA γ a1 12 f, xO q2 0 [.ref a2, .int tn], xA γ a2 12 tf, xO q3 1 [.ref a3, .int wn], xA γ a3 12 wf, xQ γ q4 6 (fun t9 => some (kq t9)), xL γ o 1 h, xO m0 3 [.int th, .int (nI n), .int (nI kc), .int td, .ref m1, .ref m2, .ref m3, .ref m4], xA γ m1 12 f, xA γ m2 12 mt, xA γ m3 72 tg, xA γ m4 14 tp] ++ xKp γ kq ka kn (xGt tg)) H := hP
    have hD : va_D A ([xO q0 2 [.ref q1, .ref q4, .int (nI kc), .int td, .ref q2, .ref q3], xO q1 0 [.ref a1, .int (nI n)], xA γ a1 12 f, xO q2 0 [.ref a2, .int tn], xA γ a2 12 tf, xO q3 1 [.ref a3, .int wn], xA γ a3 12 wf, xQ γ q4 6 (fun t9 => some (kq t9)), xL γ o 1 h, xO m0 3 [.int th, .int (nI n), .int (nI kc), .int td, .ref m1, .ref m2, .ref m3, .ref m4], xA γ m1 12 f, xA γ m2 12 mt, xA γ m3 72 tg, xA γ m4 14 tp] ++ xKp γ kq ka kn (xGt tg)) := hD
    refine W.eq (g2 := F0 m 1088 ls [.int 1]) rfl ?_
    refine lv_istore (lv' := [(5, .int 1), (0, .ref b), (1, .ref q0), (2, .ref m0), (3, .ref o), (4, .int (nI i))]) hx hb dL_law_1088 hl (by decide) rfl (fun ls hl => ?_)
    refine lv_aload_n hx hb dL_law_1090 rfl (lv_at hl 3 rfl) ?_
    refine lv_aload_n hx hb dL_law_1091 rfl (lv_at hl 1 rfl) ?_
    refine lv_iload hx hb dL_law_1092 (lv_at hl 5 rfl) ?_
    refine lv_iconst (v := 1) hx hb dL_law_1094 (by decide) ?_
    refine lv_iadd hx hb dL_law_1095 ?_
    refine x_top (y := nI (i + 1)) (nI_add i 1) ?_
    refine x_sld hx hb hX hbl hbA hS (i + 1) rfl (by omega) (by omega) dL_law_1096 ?_
    refine lv_aload_n hx hb dL_law_1097 rfl (lv_at hl 1 rfl) ?_
    refine lv_iload hx hb dL_law_1098 (lv_at hl 5 rfl) ?_
    refine lv_iconst (v := 2) hx hb dL_law_1100 (by decide) ?_
    refine lv_iadd hx hb dL_law_1101 ?_
    refine x_top (y := nI (i + 2)) (nI_add i 2) ?_
    refine x_sld hx hb hX hbl hbA hS (i + 2) rfl (by omega) (by omega) dL_law_1102 ?_
    refine xVM (q0 := 9) (ci := 3) (As := [.int (xs (i + 1)), .int (xs (i + 2))]) (rest := []) ⟨hx, hb, hml, hown, hts⟩ (c_X3_tipsTo_x1 γ l m0 m1 m2 m3 m4 n kc th td (xs (i + 1)) (xs (i + 2)) hxb) (cwV 2 hts gL_law_X3_tipsTo rfl rfl rfl hdv_X3_tipsTo ⟨(Nat.le_of_ble_eq_true rfl), (Nat.le_of_ble_eq_true rfl)⟩) hK hP hD hS hA [9] rfl rfl rfl rfl rfl hl.1 rfl (Nat.le_of_ble_eq_true rfl) dL_law_1103 ⟨(by omega : _ ≤ 601024), (by omega : _ ≤ 7293034)⟩ (fun r9 w9 H locs hw hP hD hS => ?_)
    obtain ⟨rfl, rfl⟩ := hw
    have hP : xP γ ([xO q0 2 [.ref q1, .ref q4, .int (nI kc), .int td, .ref q2, .ref q3], xO q1 0 [.ref a1, .int (nI n)], xA γ a1 12 f, xO q2 0 [.ref a2, .int tn], xA γ a2 12 tf, xO q3 1 [.ref a3, .int wn], xA γ a3 12 wf, xQ γ q4 6 (fun t9 => some (kq t9)), xL γ o 1 h, xO m0 3 [.int 1, .int (nI n), .int (nI kc), .int td, .ref m1, .ref m2, .ref m3, .ref m4], xA γ m1 12 f, xA γ m2 12 mt, xA γ m3 72 tg, xA γ m4 14 tp] ++ xKp γ kq ka kn (xGt tg)) H := hP
    have hD : va_D A ([xO q0 2 [.ref q1, .ref q4, .int (nI kc), .int td, .ref q2, .ref q3], xO q1 0 [.ref a1, .int (nI n)], xA γ a1 12 f, xO q2 0 [.ref a2, .int tn], xA γ a2 12 tf, xO q3 1 [.ref a3, .int wn], xA γ a3 12 wf, xQ γ q4 6 (fun t9 => some (kq t9)), xL γ o 1 h, xO m0 3 [.int 1, .int (nI n), .int (nI kc), .int td, .ref m1, .ref m2, .ref m3, .ref m4], xA γ m1 12 f, xA γ m2 12 mt, xA γ m3 72 tg, xA γ m4 14 tp] ++ xKp γ kq ka kn (xGt tg)) := hD
    refine W.eq (g2 := F0 m 1106 ls [.int 0]) rfl ?_
    refine lv_istore (lv' := [(6, .int 0), (5, .int 1), (0, .ref b), (1, .ref q0), (2, .ref m0), (3, .ref o), (4, .int (nI i))]) hx hb dL_law_1106 hl (by decide) rfl (fun ls hl => ?_)
    refine lv_aload_n hx hb dL_law_1108 rfl (lv_at hl 4 rfl) ?_
    refine xVR (q0 := 9) (ci := 3) (As := []) (rest := []) (stk := [.int 1]) ⟨hx, hb, hml, hown, hts⟩ (c_X3_thrown γ l m0 m1 m2 m3 m4 n kc 1 td) (cwV 0 hts gL_law_X3_thrown rfl rfl rfl hdv_X3_thrown ⟨(Nat.le_of_ble_eq_true rfl), (Nat.le_of_ble_eq_true rfl)⟩) hK hP [9] rfl rfl rfl rfl hl.1 rfl (Nat.le_of_ble_eq_true rfl) dL_law_1109 ⟨(by omega : _ ≤ 601024), (by omega : _ ≤ 7293034)⟩ rfl ?_
    refine lv_iload hx hb dL_law_1112 (lv_at hl 1 rfl) ?_
    refine lv_icmp_eq (tgt := 1119) hx hb dL_law_1114 (by decide) (fun _ => ?_) (fun c => absurd (rfl) c)
    refine lv_iload hx hb dL_law_1119 (lv_at hl 1 rfl) ?_
    refine lv_if_ne (tgt := 1136) hx hb dL_law_1121 (by decide) (fun _ => ?_) (fun c => absurd c (by decide))
    refine lv_goto (tgt := 1426) hx hb dL_law_1136 (by decide) ?_
    exact K n kc td 1 tn wn f tf wf mt tg tp h kn _ _ d0 _ _ ls hd0 (hI.same hj) (hkn) hP hD hS (by omega) (by omega) (lv_sub hl [2, 3, 4, 5, 6] rfl)

theorem hds_L_fewestTips : yL_fewestTips.cls ≠ "java/lang/invoke/MethodHandle" ∧ yL_fewestTips.cls ≠ "java/lang/invoke/VarHandle" ∧ (parseMethodDescriptor yL_fewestTips.desc).map (fun d => d.parameters.length) = some 3 := by decide +kernel
theorem hdv_X3_fewestTips : yX3_fewestTips.cls = RX3 ∧ yX3_fewestTips.cls ≠ "java/lang/invoke/MethodHandle" ∧ yX3_fewestTips.cls ≠ "java/lang/invoke/VarHandle" ∧ (parseMethodDescriptor yX3_fewestTips.desc).map (fun d => d.parameters.length) = some 1 := by decide +kernel
set_option maxHeartbeats 4000000 in
set_option maxRecDepth 100000 in
theorem xcase_fewestTips {p : Program} {e : Env} {s : State} {m : MethodId} {below : List Frame} {meth : Method} {c : Code} (l : Launch) (hlt : l.stackTraces = false) {b L : Nat} {xs : Nat → Int32} (hL : L ≤ 1536) (C0 : lw_At p s m meth c b L xs) {γ : xG} (hK : xK γ s) (sa : Nat → Nat) (hEv : xEv s) (hEs : xEs sa s) (hEn : xEn s) {A : Nat → Prop} (hA : ∀ q : Nat, s.heap.size ≤ q → A q) (hbA : ¬ A b) (hEh : xEh A s s.heap) (q0 q1 a1 q2 a2 q3 a3 q4 o m0 m1 m2 m3 m4 : Nat) (kq ka : Nat → Nat) (j i : Nat) (hj : j < 512) (hi : i + 2 < L) (K : xK9 p l e s m below meth c b γ A q0 q1 a1 q2 a2 q3 a3 q4 o m0 m1 m2 m3 m4 kq ka (j + 1) i) (n kc : Nat) (td th tn wn : Int32) (f tf wf mt tg tp : xRow) (h : Nat → Int64) (kn : Nat → Int32) (H : Heap) (locs : List Loc) (d0 : Drawn) (cells slots : Nat) (ls : Array Slot) (hd0 : s.drawn.sameBut d0 lw_cs) (hI : xInv j n kc f tg) (hkn : ∀ t, t < kc → kn t = nI n) (hP : xP γ (LW γ q0 q1 a1 q2 a2 q3 a3 q4 o m0 m1 m2 m3 m4 kq ka n kc td th tn wn f tf wf mt tg tp h kn) H) (hD : va_D A (LW γ q0 q1 a1 q2 a2 q3 a3 q4 o m0 m1 m2 m3 m4 kq ka n kc td th tn wn f tf wf mt tg tp h kn)) (hS : va_S A s.heap H locs) (hc : cells ≤ 26 + j) (hs : slots ≤ 257 + 17 * j) (hl : lv_has ls 9 [(0, .ref b), (1, .ref q0), (2, .ref m0), (3, .ref o), (4, .int (nI i))]) : W p l e room_1 (s.setDrawn d0) m #[Value.ref b] below meth c H locs cells slots (lw_Z below #[Value.ref b] s) (F0 m 1139 ls []) := by
  obtain ⟨hx, hb, hr, hml, hown, hts0, hX, hbl, hlocks, hgv⟩ := id C0
  have hts : ∀ w ∈ wsL_law, w.before #[Value.ref b] (s.setDrawn d0) = true := fun w h => dr_words hts0 d0 w (wsL_law_in w h)
  have hown : s.vm.findClass RL = some m.cls := hown
  have hX : va_X b L xs (s.setDrawn d0) s.heap := va_X.moved (u := s) (U := s.setDrawn d0) (Vm.Alike.refl s.vm) hX
  have hK : xK γ (s.setDrawn d0) := va_K.moved (u := s) (U := s.setDrawn d0) (Vm.Alike.refl s.vm) hK
  have hn0 := hI.1
  have hn1 := hI.2.1
  have hkc := hI.2.2.1
  have hP : xP γ ([xO q0 2 [.ref q1, .ref q4, .int (nI kc), .int td, .ref q2, .ref q3], xO q1 0 [.ref a1, .int (nI n)], xA γ a1 12 f, xO q2 0 [.ref a2, .int tn], xA γ a2 12 tf, xO q3 1 [.ref a3, .int wn], xA γ a3 12 wf, xQ γ q4 6 (fun t9 => some (kq t9)), xL γ o 1 h, xO m0 3 [.int th, .int (nI n), .int (nI kc), .int td, .ref m1, .ref m2, .ref m3, .ref m4], xA γ m1 12 f, xA γ m2 12 mt, xA γ m3 72 tg, xA γ m4 14 tp] ++ xKp γ kq ka kn (xGt tg)) H := hP
  have hD : va_D A ([xO q0 2 [.ref q1, .ref q4, .int (nI kc), .int td, .ref q2, .ref q3], xO q1 0 [.ref a1, .int (nI n)], xA γ a1 12 f, xO q2 0 [.ref a2, .int tn], xA γ a2 12 tf, xO q3 1 [.ref a3, .int wn], xA γ a3 12 wf, xQ γ q4 6 (fun t9 => some (kq t9)), xL γ o 1 h, xO m0 3 [.int th, .int (nI n), .int (nI kc), .int td, .ref m1, .ref m2, .ref m3, .ref m4], xA γ m1 12 f, xA γ m2 12 mt, xA γ m3 72 tg, xA γ m4 14 tp] ++ xKp γ kq ka kn (xGt tg)) := hD
  by_cases hp : xInB (xs (i + 1)) 0 (nI kc - 1) = true
  · obtain ⟨k, hk, e1⟩ := xInB_pl (n := kc) (by omega) hp
    refine lv_aload_n hx hb dL_law_1139 rfl (lv_at hl 1 rfl) ?_
    refine lv_aload_n hx hb dL_law_1140 rfl (lv_at hl 0 rfl) ?_
    refine lv_iload hx hb dL_law_1141 (lv_at hl 4 rfl) ?_
    refine lv_iconst (v := 1) hx hb dL_law_1143 (by decide) ?_
    refine lv_iadd hx hb dL_law_1144 ?_
    refine x_top (y := nI (i + 1)) (nI_add i 1) ?_
    refine x_sld hx hb hX hbl hbA hS (i + 1) rfl (by omega) (by omega) dL_law_1145 ?_
    refine x_top (y := nI k) (e1) ?_
    refine lv_aload_n hx hb dL_law_1146 rfl (lv_at hl 3 rfl) ?_
    refine xSME (Ex := fun _ => True) (As := [.ref q0, .int (nI k), .ref o]) (rest := []) ⟨hx, hb, hml, hown, hts⟩ (c_L_fewestTips γ l q0 q1 q2 q3 q4 kc td a1 n f a3 wn wf kq ka kn (xGt tg) k hn0 hn1 hk hkc o h) (vx_cwSW 3 hts gL_law_L_fewestTips rfl rfl rfl hds_L_fewestTips ⟨(Nat.le_of_ble_eq_true rfl), (Nat.le_of_ble_eq_true rfl)⟩) (fun _ _ _ _ h => h) (fun _ _ _ => trivial) hK hP hD hS hA [14 + 2 * k, 14 + 2 * k + 1, 0, 1, 2, 5, 6, 7, 8] (by simp [va_nd] <;> omega) (xismC (xKp_o (base := [xO q0 2 [.ref q1, .ref q4, .int (nI kc), .int td, .ref q2, .ref q3], xO q1 0 [.ref a1, .int (nI n)], xA γ a1 12 f, xO q2 0 [.ref a2, .int tn], xA γ a2 12 tf, xO q3 1 [.ref a3, .int wn], xA γ a3 12 wf, xQ γ q4 6 (fun t9 => some (kq t9)), xL γ o 1 h, xO m0 3 [.int th, .int (nI n), .int (nI kc), .int td, .ref m1, .ref m2, .ref m3, .ref m4], xA γ m1 12 f, xA γ m2 12 mt, xA γ m3 72 tg, xA γ m4 14 tp]) (ks := (xGt tg)) (nb := 14) (t := k) rfl (by omega) (hkn k (by omega))) (xismC (xKp_r (base := [xO q0 2 [.ref q1, .ref q4, .int (nI kc), .int td, .ref q2, .ref q3], xO q1 0 [.ref a1, .int (nI n)], xA γ a1 12 f, xO q2 0 [.ref a2, .int tn], xA γ a2 12 tf, xO q3 1 [.ref a3, .int wn], xA γ a3 12 wf, xQ γ q4 6 (fun t9 => some (kq t9)), xL γ o 1 h, xO m0 3 [.int th, .int (nI n), .int (nI kc), .int td, .ref m1, .ref m2, .ref m3, .ref m4], xA γ m1 12 f, xA γ m2 12 mt, xA γ m3 72 tg, xA γ m4 14 tp]) (kn := kn) (ks := (xGt tg)) (nb := 14) (t := k) rfl (by omega)) (xismC rfl (xismC rfl (xismC rfl (xismC rfl (xismC rfl (xismC rfl (xismC rfl xismN))))))))) rfl hl.1 rfl (Nat.le_of_ble_eq_true rfl) dL_law_1147 ⟨(by omega : _ ≤ 601024), (by omega : _ ≤ 7293034)⟩ (fun r9 w9 H locs hw hP hD hS => ?_)
    obtain ⟨rfl, wn174x, wf175x, rfl⟩ := hw
    rw [xup_2 (xKp_o (base := [xO q0 2 [.ref q1, .ref q4, .int (nI kc), .int td, .ref q2, .ref q3], xO q1 0 [.ref a1, .int (nI n)], xA γ a1 12 f, xO q2 0 [.ref a2, .int tn], xA γ a2 12 tf, xO q3 1 [.ref a3, .int wn], xA γ a3 12 wf, xQ γ q4 6 (fun t9 => some (kq t9)), xL γ o 1 h, xO m0 3 [.int th, .int (nI n), .int (nI kc), .int td, .ref m1, .ref m2, .ref m3, .ref m4], xA γ m1 12 f, xA γ m2 12 mt, xA γ m3 72 tg, xA γ m4 14 tp]) (ks := (xGt tg)) (nb := 14) (t := k) rfl (by omega) (hkn k (by omega))) (xKp_r (base := [xO q0 2 [.ref q1, .ref q4, .int (nI kc), .int td, .ref q2, .ref q3], xO q1 0 [.ref a1, .int (nI n)], xA γ a1 12 f, xO q2 0 [.ref a2, .int tn], xA γ a2 12 tf, xO q3 1 [.ref a3, .int wn], xA γ a3 12 wf, xQ γ q4 6 (fun t9 => some (kq t9)), xL γ o 1 h, xO m0 3 [.int th, .int (nI n), .int (nI kc), .int td, .ref m1, .ref m2, .ref m3, .ref m4], xA γ m1 12 f, xA γ m2 12 mt, xA γ m3 72 tg, xA γ m4 14 tp]) (kn := kn) (ks := (xGt tg)) (nb := 14) (t := k) rfl (by omega))] at hP hD
    have hP : xP γ ([xO q0 2 [.ref q1, .ref q4, .int (nI kc), .int td, .ref q2, .ref q3], xO q1 0 [.ref a1, .int (nI n)], xA γ a1 12 f, xO q2 0 [.ref a2, .int tn], xA γ a2 12 tf, xO q3 1 [.ref a3, .int wn174x], xA γ a3 12 wf175x, xQ γ q4 6 (fun t9 => some (kq t9)), xL γ o 1 (vp_updL h 0 (Int32.toInt64 (xFew n f ((xGt tg) k)))), xO m0 3 [.int th, .int (nI n), .int (nI kc), .int td, .ref m1, .ref m2, .ref m3, .ref m4], xA γ m1 12 f, xA γ m2 12 mt, xA γ m3 72 tg, xA γ m4 14 tp] ++ xKp γ kq ka kn (xGt tg)) H := hP
    have hD : va_D A ([xO q0 2 [.ref q1, .ref q4, .int (nI kc), .int td, .ref q2, .ref q3], xO q1 0 [.ref a1, .int (nI n)], xA γ a1 12 f, xO q2 0 [.ref a2, .int tn], xA γ a2 12 tf, xO q3 1 [.ref a3, .int wn174x], xA γ a3 12 wf175x, xQ γ q4 6 (fun t9 => some (kq t9)), xL γ o 1 (vp_updL h 0 (Int32.toInt64 (xFew n f ((xGt tg) k)))), xO m0 3 [.int th, .int (nI n), .int (nI kc), .int td, .ref m1, .ref m2, .ref m3, .ref m4], xA γ m1 12 f, xA γ m2 12 mt, xA γ m3 72 tg, xA γ m4 14 tp] ++ xKp γ kq ka kn (xGt tg)) := hD
    refine W.eq (g2 := F0 m 1150 ls [.int 0]) rfl ?_
    refine lv_istore (lv' := [(5, .int 0), (0, .ref b), (1, .ref q0), (2, .ref m0), (3, .ref o), (4, .int (nI i))]) hx hb dL_law_1150 hl (by decide) rfl (fun ls hl => ?_)
    refine lv_aload_n hx hb dL_law_1152 rfl (lv_at hl 3 rfl) ?_
    refine lv_aload_n hx hb dL_law_1153 rfl (lv_at hl 1 rfl) ?_
    refine lv_iload hx hb dL_law_1154 (lv_at hl 5 rfl) ?_
    refine lv_iconst (v := 1) hx hb dL_law_1156 (by decide) ?_
    refine lv_iadd hx hb dL_law_1157 ?_
    refine x_top (y := nI (i + 1)) (nI_add i 1) ?_
    refine x_sld hx hb hX hbl hbA hS (i + 1) rfl (by omega) (by omega) dL_law_1158 ?_
    refine x_top (y := nI k) (e1) ?_
    refine xVM (q0 := 9) (ci := 3) (As := [.int (nI k)]) (rest := []) ⟨hx, hb, hml, hown, hts⟩ (c_X3_fewestTips γ l m0 m1 m2 m3 m4 n kc th td f tg tp k hn0 hn1 hk hkc) (cwV 1 hts gL_law_X3_fewestTips rfl rfl rfl hdv_X3_fewestTips ⟨(Nat.le_of_ble_eq_true rfl), (Nat.le_of_ble_eq_true rfl)⟩) hK hP hD hS hA [9, 10, 12, 13] rfl rfl rfl rfl rfl hl.1 rfl (Nat.le_of_ble_eq_true rfl) dL_law_1159 ⟨(by omega : _ ≤ 601024), (by omega : _ ≤ 7293034)⟩ (fun r9 w9 H locs hw hP hD hS => ?_)
    obtain ⟨rfl, h176x, rfl⟩ := hw
    have hP : xP γ ([xO q0 2 [.ref q1, .ref q4, .int (nI kc), .int td, .ref q2, .ref q3], xO q1 0 [.ref a1, .int (nI n)], xA γ a1 12 f, xO q2 0 [.ref a2, .int tn], xA γ a2 12 tf, xO q3 1 [.ref a3, .int wn174x], xA γ a3 12 wf175x, xQ γ q4 6 (fun t9 => some (kq t9)), xL γ o 1 (vp_updL h 0 (Int32.toInt64 (xFew n f ((xGt tg) k)))), xO m0 3 [.int 0, .int (nI n), .int (nI kc), .int td, .ref m1, .ref m2, .ref m3, .ref m4], xA γ m1 12 f, xA γ m2 12 mt, xA γ m3 72 tg, xA γ m4 14 h176x] ++ xKp γ kq ka kn (xGt tg)) H := hP
    have hD : va_D A ([xO q0 2 [.ref q1, .ref q4, .int (nI kc), .int td, .ref q2, .ref q3], xO q1 0 [.ref a1, .int (nI n)], xA γ a1 12 f, xO q2 0 [.ref a2, .int tn], xA γ a2 12 tf, xO q3 1 [.ref a3, .int wn174x], xA γ a3 12 wf175x, xQ γ q4 6 (fun t9 => some (kq t9)), xL γ o 1 (vp_updL h 0 (Int32.toInt64 (xFew n f ((xGt tg) k)))), xO m0 3 [.int 0, .int (nI n), .int (nI kc), .int td, .ref m1, .ref m2, .ref m3, .ref m4], xA γ m1 12 f, xA γ m2 12 mt, xA γ m3 72 tg, xA γ m4 14 h176x] ++ xKp γ kq ka kn (xGt tg)) := hD
    refine W.eq (g2 := F0 m 1162 ls [.int (xFewM n f (xGt tg k))]) rfl ?_
    refine lv_istore (lv' := [(6, .int (xFewM n f (xGt tg k))), (5, .int 0), (0, .ref b), (1, .ref q0), (2, .ref m0), (3, .ref o), (4, .int (nI i))]) hx hb dL_law_1162 hl (by decide) rfl (fun ls hl => ?_)
    refine lv_aload_n hx hb dL_law_1164 rfl (lv_at hl 4 rfl) ?_
    refine xVR (q0 := 9) (ci := 3) (As := []) (rest := []) (stk := [.int 0]) ⟨hx, hb, hml, hown, hts⟩ (c_X3_thrown γ l m0 m1 m2 m3 m4 n kc 0 td) (cwV 0 hts gL_law_X3_thrown rfl rfl rfl hdv_X3_thrown ⟨(Nat.le_of_ble_eq_true rfl), (Nat.le_of_ble_eq_true rfl)⟩) hK hP [9] rfl rfl rfl rfl hl.1 rfl (Nat.le_of_ble_eq_true rfl) dL_law_1165 ⟨(by omega : _ ≤ 601024), (by omega : _ ≤ 7293034)⟩ rfl ?_
    refine lv_iload hx hb dL_law_1168 (lv_at hl 1 rfl) ?_
    refine lv_icmp_eq (tgt := 1175) hx hb dL_law_1170 (by decide) (fun _ => ?_) (fun c => absurd (rfl) c)
    refine lv_iload hx hb dL_law_1175 (lv_at hl 1 rfl) ?_
    refine lv_if_ne (tgt := 1192) hx hb dL_law_1177 (by decide) (fun c => absurd rfl c) (fun _ => ?_)
    refine lv_aload_n hx hb dL_law_1180 rfl (lv_at hl 5 rfl) ?_
    refine lv_iconst (v := 0) hx hb dL_law_1181 (by decide) ?_
    refine x_lald (f := vp_updL h 0 (Int32.toInt64 (xFew n f ((xGt tg) k)))) hx hb hK hP 8 rfl 0 rfl (by decide) (by decide) dL_law_1182 ?_
    refine x_topl (y := Int32.toInt64 (xFew n f ((xGt tg) k))) rfl ?_
    refine lv_iload hx hb dL_law_1183 (lv_at hl 0 rfl) ?_
    refine lv_i2l (v := Int32.toInt64 (xFewM n f (xGt tg k))) hx hb dL_law_1185 rfl ?_
    refine x_lcmp (by rw [xFew_eq hn0 hn1 hI.f (hI.g k hk)]) hx hb dL_law_1186 ?_
    refine lv_if_eq (tgt := 1192) hx hb dL_law_1187 (by decide) (fun _ => ?_) (fun c => absurd rfl c)
    refine lv_goto (tgt := 1426) hx hb dL_law_1192 (by decide) ?_
    exact K n kc td 0 tn wn174x f tf wf175x mt tg h176x (vp_updL h 0 (Int32.toInt64 (xFew n f ((xGt tg) k)))) kn _ _ d0 _ _ ls hd0 (hI.same hj) (hkn) hP hD hS (by omega) (by omega) (lv_sub hl [2, 3, 4, 5, 6] rfl)
  · have hxb : xInB (xs (i + 1)) 0 (nI kc - 1) = false := by simpa using hp
    refine lv_aload_n hx hb dL_law_1139 rfl (lv_at hl 1 rfl) ?_
    refine lv_aload_n hx hb dL_law_1140 rfl (lv_at hl 0 rfl) ?_
    refine lv_iload hx hb dL_law_1141 (lv_at hl 4 rfl) ?_
    refine lv_iconst (v := 1) hx hb dL_law_1143 (by decide) ?_
    refine lv_iadd hx hb dL_law_1144 ?_
    refine x_top (y := nI (i + 1)) (nI_add i 1) ?_
    refine x_sld hx hb hX hbl hbA hS (i + 1) rfl (by omega) (by omega) dL_law_1145 ?_
    refine lv_aload_n hx hb dL_law_1146 rfl (lv_at hl 3 rfl) ?_
    refine xSME (Ex := xW1 sa) (As := [.ref q0, .int (xs (i + 1)), .ref o]) (rest := []) ⟨hx, hb, hml, hown, hts⟩ (c_L_fewestTips_x γ l hlt sa q0 q1 q2 q3 q4 kc td kq (xs (i + 1)) hkc hxb o h) (vx_cwSW 3 hts gL_law_L_fewestTips rfl rfl rfl hds_L_fewestTips ⟨(Nat.le_of_ble_eq_true rfl), (Nat.le_of_ble_eq_true rfl)⟩) xW1_blind (fun U hU hW => ⟨xE.at hW hU hEv hEs hEh hS, va_Nc.moved hW.alike hEn.1, va_Nc.moved hW.alike hEn.2⟩) hK hP hD hS hA [0, 7, 8] rfl rfl rfl hl.1 rfl (Nat.le_of_ble_eq_true rfl) dL_law_1147 ⟨(by omega : _ ≤ 601024), (by omega : _ ≤ 7293034)⟩ (fun r9 w9 H locs hw hP hD hS => ?_)
    obtain ⟨rfl, rfl⟩ := hw
    have hP : xP γ ([xO q0 2 [.ref q1, .ref q4, .int (nI kc), .int td, .ref q2, .ref q3], xO q1 0 [.ref a1, .int (nI n)], xA γ a1 12 f, xO q2 0 [.ref a2, .int tn], xA γ a2 12 tf, xO q3 1 [.ref a3, .int wn], xA γ a3 12 wf, xQ γ q4 6 (fun t9 => some (kq t9)), xL γ o 1 h, xO m0 3 [.int th, .int (nI n), .int (nI kc), .int td, .ref m1, .ref m2, .ref m3, .ref m4], xA γ m1 12 f, xA γ m2 12 mt, xA γ m3 72 tg, xA γ m4 14 tp] ++ xKp γ kq ka kn (xGt tg)) H := hP
    have hD : va_D A ([xO q0 2 [.ref q1, .ref q4, .int (nI kc), .int td, .ref q2, .ref q3], xO q1 0 [.ref a1, .int (nI n)], xA γ a1 12 f, xO q2 0 [.ref a2, .int tn], xA γ a2 12 tf, xO q3 1 [.ref a3, .int wn], xA γ a3 12 wf, xQ γ q4 6 (fun t9 => some (kq t9)), xL γ o 1 h, xO m0 3 [.int th, .int (nI n), .int (nI kc), .int td, .ref m1, .ref m2, .ref m3, .ref m4], xA γ m1 12 f, xA γ m2 12 mt, xA γ m3 72 tg, xA γ m4 14 tp] ++ xKp γ kq ka kn (xGt tg)) := hD
    refine W.eq (g2 := F0 m 1150 ls [.int 1]) rfl ?_
    refine lv_istore (lv' := [(5, .int 1), (0, .ref b), (1, .ref q0), (2, .ref m0), (3, .ref o), (4, .int (nI i))]) hx hb dL_law_1150 hl (by decide) rfl (fun ls hl => ?_)
    refine lv_aload_n hx hb dL_law_1152 rfl (lv_at hl 3 rfl) ?_
    refine lv_aload_n hx hb dL_law_1153 rfl (lv_at hl 1 rfl) ?_
    refine lv_iload hx hb dL_law_1154 (lv_at hl 5 rfl) ?_
    refine lv_iconst (v := 1) hx hb dL_law_1156 (by decide) ?_
    refine lv_iadd hx hb dL_law_1157 ?_
    refine x_top (y := nI (i + 1)) (nI_add i 1) ?_
    refine x_sld hx hb hX hbl hbA hS (i + 1) rfl (by omega) (by omega) dL_law_1158 ?_
    refine xVM (q0 := 9) (ci := 3) (As := [.int (xs (i + 1))]) (rest := []) ⟨hx, hb, hml, hown, hts⟩ (c_X3_fewestTips_x γ l m0 m1 m2 m3 m4 n kc th td (xs (i + 1)) hxb) (cwV 1 hts gL_law_X3_fewestTips rfl rfl rfl hdv_X3_fewestTips ⟨(Nat.le_of_ble_eq_true rfl), (Nat.le_of_ble_eq_true rfl)⟩) hK hP hD hS hA [9] rfl rfl rfl rfl rfl hl.1 rfl (Nat.le_of_ble_eq_true rfl) dL_law_1159 ⟨(by omega : _ ≤ 601024), (by omega : _ ≤ 7293034)⟩ (fun r9 w9 H locs hw hP hD hS => ?_)
    obtain ⟨rfl, rfl⟩ := hw
    have hP : xP γ ([xO q0 2 [.ref q1, .ref q4, .int (nI kc), .int td, .ref q2, .ref q3], xO q1 0 [.ref a1, .int (nI n)], xA γ a1 12 f, xO q2 0 [.ref a2, .int tn], xA γ a2 12 tf, xO q3 1 [.ref a3, .int wn], xA γ a3 12 wf, xQ γ q4 6 (fun t9 => some (kq t9)), xL γ o 1 h, xO m0 3 [.int 1, .int (nI n), .int (nI kc), .int td, .ref m1, .ref m2, .ref m3, .ref m4], xA γ m1 12 f, xA γ m2 12 mt, xA γ m3 72 tg, xA γ m4 14 tp] ++ xKp γ kq ka kn (xGt tg)) H := hP
    have hD : va_D A ([xO q0 2 [.ref q1, .ref q4, .int (nI kc), .int td, .ref q2, .ref q3], xO q1 0 [.ref a1, .int (nI n)], xA γ a1 12 f, xO q2 0 [.ref a2, .int tn], xA γ a2 12 tf, xO q3 1 [.ref a3, .int wn], xA γ a3 12 wf, xQ γ q4 6 (fun t9 => some (kq t9)), xL γ o 1 h, xO m0 3 [.int 1, .int (nI n), .int (nI kc), .int td, .ref m1, .ref m2, .ref m3, .ref m4], xA γ m1 12 f, xA γ m2 12 mt, xA γ m3 72 tg, xA γ m4 14 tp] ++ xKp γ kq ka kn (xGt tg)) := hD
    refine W.eq (g2 := F0 m 1162 ls [.int 0]) rfl ?_
    refine lv_istore (lv' := [(6, .int 0), (5, .int 1), (0, .ref b), (1, .ref q0), (2, .ref m0), (3, .ref o), (4, .int (nI i))]) hx hb dL_law_1162 hl (by decide) rfl (fun ls hl => ?_)
    refine lv_aload_n hx hb dL_law_1164 rfl (lv_at hl 4 rfl) ?_
    refine xVR (q0 := 9) (ci := 3) (As := []) (rest := []) (stk := [.int 1]) ⟨hx, hb, hml, hown, hts⟩ (c_X3_thrown γ l m0 m1 m2 m3 m4 n kc 1 td) (cwV 0 hts gL_law_X3_thrown rfl rfl rfl hdv_X3_thrown ⟨(Nat.le_of_ble_eq_true rfl), (Nat.le_of_ble_eq_true rfl)⟩) hK hP [9] rfl rfl rfl rfl hl.1 rfl (Nat.le_of_ble_eq_true rfl) dL_law_1165 ⟨(by omega : _ ≤ 601024), (by omega : _ ≤ 7293034)⟩ rfl ?_
    refine lv_iload hx hb dL_law_1168 (lv_at hl 1 rfl) ?_
    refine lv_icmp_eq (tgt := 1175) hx hb dL_law_1170 (by decide) (fun _ => ?_) (fun c => absurd (rfl) c)
    refine lv_iload hx hb dL_law_1175 (lv_at hl 1 rfl) ?_
    refine lv_if_ne (tgt := 1192) hx hb dL_law_1177 (by decide) (fun _ => ?_) (fun c => absurd c (by decide))
    refine lv_goto (tgt := 1426) hx hb dL_law_1192 (by decide) ?_
    exact K n kc td 1 tn wn f tf wf mt tg tp h kn _ _ d0 _ _ ls hd0 (hI.same hj) (hkn) hP hD hS (by omega) (by omega) (lv_sub hl [2, 3, 4, 5, 6] rfl)

theorem hdv_X3_stepsToRest : yX3_stepsToRest.cls = RX3 ∧ yX3_stepsToRest.cls ≠ "java/lang/invoke/MethodHandle" ∧ yX3_stepsToRest.cls ≠ "java/lang/invoke/VarHandle" ∧ (parseMethodDescriptor yX3_stepsToRest.desc).map (fun d => d.parameters.length) = some 0 := by decide +kernel
set_option maxHeartbeats 4000000 in
set_option maxRecDepth 100000 in
theorem xcase_stepsToRest {p : Program} {e : Env} {s : State} {m : MethodId} {below : List Frame} {meth : Method} {c : Code} (l : Launch) (hlt : l.stackTraces = false) {b L : Nat} {xs : Nat → Int32} (hL : L ≤ 1536) (C0 : lw_At p s m meth c b L xs) {γ : xG} (hK : xK γ s) (sa : Nat → Nat) (hEv : xEv s) (hEs : xEs sa s) (hEn : xEn s) {A : Nat → Prop} (hA : ∀ q : Nat, s.heap.size ≤ q → A q) (hbA : ¬ A b) (hEh : xEh A s s.heap) (q0 q1 a1 q2 a2 q3 a3 q4 o m0 m1 m2 m3 m4 : Nat) (kq ka : Nat → Nat) (j i : Nat) (hj : j < 512) (hi : i + 2 < L) (K : xK9 p l e s m below meth c b γ A q0 q1 a1 q2 a2 q3 a3 q4 o m0 m1 m2 m3 m4 kq ka (j + 1) i) (n kc : Nat) (td th tn wn : Int32) (f tf wf mt tg tp : xRow) (h : Nat → Int64) (kn : Nat → Int32) (H : Heap) (locs : List Loc) (d0 : Drawn) (cells slots : Nat) (ls : Array Slot) (hd0 : s.drawn.sameBut d0 lw_cs) (hI : xInv j n kc f tg) (hkn : ∀ t, t < kc → kn t = nI n) (hP : xP γ (LW γ q0 q1 a1 q2 a2 q3 a3 q4 o m0 m1 m2 m3 m4 kq ka n kc td th tn wn f tf wf mt tg tp h kn) H) (hD : va_D A (LW γ q0 q1 a1 q2 a2 q3 a3 q4 o m0 m1 m2 m3 m4 kq ka n kc td th tn wn f tf wf mt tg tp h kn)) (hS : va_S A s.heap H locs) (hc : cells ≤ 26 + j) (hs : slots ≤ 257 + 17 * j) (hl : lv_has ls 9 [(0, .ref b), (1, .ref q0), (2, .ref m0), (3, .ref o), (4, .int (nI i))]) : W p l e room_1 (s.setDrawn d0) m #[Value.ref b] below meth c H locs cells slots (lw_Z below #[Value.ref b] s) (F0 m 1208 ls []) := by
  obtain ⟨hx, hb, hr, hml, hown, hts0, hX, hbl, hlocks, hgv⟩ := id C0
  have hts : ∀ w ∈ wsL_law, w.before #[Value.ref b] (s.setDrawn d0) = true := fun w h => dr_words hts0 d0 w (wsL_law_in w h)
  have hown : s.vm.findClass RL = some m.cls := hown
  have hX : va_X b L xs (s.setDrawn d0) s.heap := va_X.moved (u := s) (U := s.setDrawn d0) (Vm.Alike.refl s.vm) hX
  have hK : xK γ (s.setDrawn d0) := va_K.moved (u := s) (U := s.setDrawn d0) (Vm.Alike.refl s.vm) hK
  have hn0 := hI.1
  have hn1 := hI.2.1
  have hkc := hI.2.2.1
  have hP : xP γ ([xO q0 2 [.ref q1, .ref q4, .int (nI kc), .int td, .ref q2, .ref q3], xO q1 0 [.ref a1, .int (nI n)], xA γ a1 12 f, xO q2 0 [.ref a2, .int tn], xA γ a2 12 tf, xO q3 1 [.ref a3, .int wn], xA γ a3 12 wf, xQ γ q4 6 (fun t9 => some (kq t9)), xL γ o 1 h, xO m0 3 [.int th, .int (nI n), .int (nI kc), .int td, .ref m1, .ref m2, .ref m3, .ref m4], xA γ m1 12 f, xA γ m2 12 mt, xA γ m3 72 tg, xA γ m4 14 tp] ++ xKp γ kq ka kn (xGt tg)) H := hP
  have hD : va_D A ([xO q0 2 [.ref q1, .ref q4, .int (nI kc), .int td, .ref q2, .ref q3], xO q1 0 [.ref a1, .int (nI n)], xA γ a1 12 f, xO q2 0 [.ref a2, .int tn], xA γ a2 12 tf, xO q3 1 [.ref a3, .int wn], xA γ a3 12 wf, xQ γ q4 6 (fun t9 => some (kq t9)), xL γ o 1 h, xO m0 3 [.int th, .int (nI n), .int (nI kc), .int td, .ref m1, .ref m2, .ref m3, .ref m4], xA γ m1 12 f, xA γ m2 12 mt, xA γ m3 72 tg, xA γ m4 14 tp] ++ xKp γ kq ka kn (xGt tg)) := hD
  refine lv_aload_n hx hb dL_law_1208 rfl (lv_at hl 1 rfl) ?_
  refine xVM (q0 := 0) (ci := 2) (As := []) (rest := []) ⟨hx, hb, hml, hown, hts⟩ (c_X2_stepsToRest γ l q0 q1 q2 q3 q4 kc td a1 n f a2 tn tf hn0 hn1) (cwV 0 hts gL_law_X2_stepsToRest rfl rfl rfl hdv_X2_stepsToRest ⟨(Nat.le_of_ble_eq_true rfl), (Nat.le_of_ble_eq_true rfl)⟩) hK hP hD hS hA [0, 1, 2, 3, 4] rfl rfl rfl rfl rfl hl.1 rfl (Nat.le_of_ble_eq_true rfl) dL_law_1209 ⟨(by omega : _ ≤ 601024), (by omega : _ ≤ 7293034)⟩ (fun r9 w9 H locs hw hP hD hS => ?_)
  obtain ⟨rfl, tn177x, tf178x, rfl⟩ := hw
  have hP : xP γ ([xO q0 2 [.ref q1, .ref q4, .int (nI kc), .int td, .ref q2, .ref q3], xO q1 0 [.ref a1, .int (nI n)], xA γ a1 12 f, xO q2 0 [.ref a2, .int tn177x], xA γ a2 12 tf178x, xO q3 1 [.ref a3, .int wn], xA γ a3 12 wf, xQ γ q4 6 (fun t9 => some (kq t9)), xL γ o 1 h, xO m0 3 [.int th, .int (nI n), .int (nI kc), .int td, .ref m1, .ref m2, .ref m3, .ref m4], xA γ m1 12 f, xA γ m2 12 mt, xA γ m3 72 tg, xA γ m4 14 tp] ++ xKp γ kq ka kn (xGt tg)) H := hP
  have hD : va_D A ([xO q0 2 [.ref q1, .ref q4, .int (nI kc), .int td, .ref q2, .ref q3], xO q1 0 [.ref a1, .int (nI n)], xA γ a1 12 f, xO q2 0 [.ref a2, .int tn177x], xA γ a2 12 tf178x, xO q3 1 [.ref a3, .int wn], xA γ a3 12 wf, xQ γ q4 6 (fun t9 => some (kq t9)), xL γ o 1 h, xO m0 3 [.int th, .int (nI n), .int (nI kc), .int td, .ref m1, .ref m2, .ref m3, .ref m4], xA γ m1 12 f, xA γ m2 12 mt, xA γ m3 72 tg, xA γ m4 14 tp] ++ xKp γ kq ka kn (xGt tg)) := hD
  refine W.eq (g2 := F0 m 1212 ls [.int (xRs n f)]) rfl ?_
  refine lv_aload_n hx hb dL_law_1212 rfl (lv_at hl 2 rfl) ?_
  refine xVM (q0 := 9) (ci := 3) (As := []) (rest := [.int (xRs n f)]) ⟨hx, hb, hml, hown, hts⟩ (c_X3_stepsToRest γ l m0 m1 m2 m3 m4 n kc th td f mt hn0 hn1) (cwV 0 hts gL_law_X3_stepsToRest rfl rfl rfl hdv_X3_stepsToRest ⟨(Nat.le_of_ble_eq_true rfl), (Nat.le_of_ble_eq_true rfl)⟩) hK hP hD hS hA [9, 10, 11] rfl rfl rfl rfl rfl hl.1 rfl (Nat.le_of_ble_eq_true rfl) dL_law_1213 ⟨(by omega : _ ≤ 601024), (by omega : _ ≤ 7293034)⟩ (fun r9 w9 H locs hw hP hD hS => ?_)
  obtain ⟨rfl, h179x, rfl⟩ := hw
  have hP : xP γ ([xO q0 2 [.ref q1, .ref q4, .int (nI kc), .int td, .ref q2, .ref q3], xO q1 0 [.ref a1, .int (nI n)], xA γ a1 12 f, xO q2 0 [.ref a2, .int tn177x], xA γ a2 12 tf178x, xO q3 1 [.ref a3, .int wn], xA γ a3 12 wf, xQ γ q4 6 (fun t9 => some (kq t9)), xL γ o 1 h, xO m0 3 [.int 0, .int (nI n), .int (nI kc), .int td, .ref m1, .ref m2, .ref m3, .ref m4], xA γ m1 12 f, xA γ m2 12 h179x, xA γ m3 72 tg, xA γ m4 14 tp] ++ xKp γ kq ka kn (xGt tg)) H := hP
  have hD : va_D A ([xO q0 2 [.ref q1, .ref q4, .int (nI kc), .int td, .ref q2, .ref q3], xO q1 0 [.ref a1, .int (nI n)], xA γ a1 12 f, xO q2 0 [.ref a2, .int tn177x], xA γ a2 12 tf178x, xO q3 1 [.ref a3, .int wn], xA γ a3 12 wf, xQ γ q4 6 (fun t9 => some (kq t9)), xL γ o 1 h, xO m0 3 [.int 0, .int (nI n), .int (nI kc), .int td, .ref m1, .ref m2, .ref m3, .ref m4], xA γ m1 12 f, xA γ m2 12 h179x, xA γ m3 72 tg, xA γ m4 14 tp] ++ xKp γ kq ka kn (xGt tg)) := hD
  refine W.eq (g2 := F0 m 1216 ls [.int (xRsM n f), .int (xRs n f)]) rfl ?_
  refine lv_icmp_eq (tgt := 1426) hx hb dL_law_1216 (by decide) (fun _ => ?_) (fun c => absurd ((xRs_eq hn1).symm) c)
  exact K n kc td 0 tn177x wn f tf178x wf h179x tg tp h kn _ _ d0 _ _ ls hd0 (hI.same hj) (hkn) hP hD hS (by omega) (by omega) (lv_sub hl [0, 1, 2, 3, 4] rfl)

theorem hdv_X3_spreadAtRest : yX3_spreadAtRest.cls = RX3 ∧ yX3_spreadAtRest.cls ≠ "java/lang/invoke/MethodHandle" ∧ yX3_spreadAtRest.cls ≠ "java/lang/invoke/VarHandle" ∧ (parseMethodDescriptor yX3_spreadAtRest.desc).map (fun d => d.parameters.length) = some 0 := by decide +kernel
set_option maxHeartbeats 4000000 in
set_option maxRecDepth 100000 in
theorem xcase_spreadAtRest {p : Program} {e : Env} {s : State} {m : MethodId} {below : List Frame} {meth : Method} {c : Code} (l : Launch) (hlt : l.stackTraces = false) {b L : Nat} {xs : Nat → Int32} (hL : L ≤ 1536) (C0 : lw_At p s m meth c b L xs) {γ : xG} (hK : xK γ s) (sa : Nat → Nat) (hEv : xEv s) (hEs : xEs sa s) (hEn : xEn s) {A : Nat → Prop} (hA : ∀ q : Nat, s.heap.size ≤ q → A q) (hbA : ¬ A b) (hEh : xEh A s s.heap) (q0 q1 a1 q2 a2 q3 a3 q4 o m0 m1 m2 m3 m4 : Nat) (kq ka : Nat → Nat) (j i : Nat) (hj : j < 512) (hi : i + 2 < L) (K : xK9 p l e s m below meth c b γ A q0 q1 a1 q2 a2 q3 a3 q4 o m0 m1 m2 m3 m4 kq ka (j + 1) i) (n kc : Nat) (td th tn wn : Int32) (f tf wf mt tg tp : xRow) (h : Nat → Int64) (kn : Nat → Int32) (H : Heap) (locs : List Loc) (d0 : Drawn) (cells slots : Nat) (ls : Array Slot) (hd0 : s.drawn.sameBut d0 lw_cs) (hI : xInv j n kc f tg) (hkn : ∀ t, t < kc → kn t = nI n) (hP : xP γ (LW γ q0 q1 a1 q2 a2 q3 a3 q4 o m0 m1 m2 m3 m4 kq ka n kc td th tn wn f tf wf mt tg tp h kn) H) (hD : va_D A (LW γ q0 q1 a1 q2 a2 q3 a3 q4 o m0 m1 m2 m3 m4 kq ka n kc td th tn wn f tf wf mt tg tp h kn)) (hS : va_S A s.heap H locs) (hc : cells ≤ 26 + j) (hs : slots ≤ 257 + 17 * j) (hl : lv_has ls 9 [(0, .ref b), (1, .ref q0), (2, .ref m0), (3, .ref o), (4, .int (nI i))]) : W p l e room_1 (s.setDrawn d0) m #[Value.ref b] below meth c H locs cells slots (lw_Z below #[Value.ref b] s) (F0 m 1221 ls []) := by
  obtain ⟨hx, hb, hr, hml, hown, hts0, hX, hbl, hlocks, hgv⟩ := id C0
  have hts : ∀ w ∈ wsL_law, w.before #[Value.ref b] (s.setDrawn d0) = true := fun w h => dr_words hts0 d0 w (wsL_law_in w h)
  have hown : s.vm.findClass RL = some m.cls := hown
  have hX : va_X b L xs (s.setDrawn d0) s.heap := va_X.moved (u := s) (U := s.setDrawn d0) (Vm.Alike.refl s.vm) hX
  have hK : xK γ (s.setDrawn d0) := va_K.moved (u := s) (U := s.setDrawn d0) (Vm.Alike.refl s.vm) hK
  have hn0 := hI.1
  have hn1 := hI.2.1
  have hkc := hI.2.2.1
  have hP : xP γ ([xO q0 2 [.ref q1, .ref q4, .int (nI kc), .int td, .ref q2, .ref q3], xO q1 0 [.ref a1, .int (nI n)], xA γ a1 12 f, xO q2 0 [.ref a2, .int tn], xA γ a2 12 tf, xO q3 1 [.ref a3, .int wn], xA γ a3 12 wf, xQ γ q4 6 (fun t9 => some (kq t9)), xL γ o 1 h, xO m0 3 [.int th, .int (nI n), .int (nI kc), .int td, .ref m1, .ref m2, .ref m3, .ref m4], xA γ m1 12 f, xA γ m2 12 mt, xA γ m3 72 tg, xA γ m4 14 tp] ++ xKp γ kq ka kn (xGt tg)) H := hP
  have hD : va_D A ([xO q0 2 [.ref q1, .ref q4, .int (nI kc), .int td, .ref q2, .ref q3], xO q1 0 [.ref a1, .int (nI n)], xA γ a1 12 f, xO q2 0 [.ref a2, .int tn], xA γ a2 12 tf, xO q3 1 [.ref a3, .int wn], xA γ a3 12 wf, xQ γ q4 6 (fun t9 => some (kq t9)), xL γ o 1 h, xO m0 3 [.int th, .int (nI n), .int (nI kc), .int td, .ref m1, .ref m2, .ref m3, .ref m4], xA γ m1 12 f, xA γ m2 12 mt, xA γ m3 72 tg, xA γ m4 14 tp] ++ xKp γ kq ka kn (xGt tg)) := hD
  refine lv_aload_n hx hb dL_law_1221 rfl (lv_at hl 1 rfl) ?_
  refine xVM (q0 := 0) (ci := 2) (As := []) (rest := []) ⟨hx, hb, hml, hown, hts⟩ (c_X2_spreadAtRest γ l q0 q1 q2 q3 q4 kc td a1 n f a2 tn tf hn0 hn1) (cwV 0 hts gL_law_X2_spreadAtRest rfl rfl rfl hdv_X2_spreadAtRest ⟨(Nat.le_of_ble_eq_true rfl), (Nat.le_of_ble_eq_true rfl)⟩) hK hP hD hS hA [0, 1, 2, 3, 4] rfl rfl rfl rfl rfl hl.1 rfl (Nat.le_of_ble_eq_true rfl) dL_law_1222 ⟨(by omega : _ ≤ 601024), (by omega : _ ≤ 7293034)⟩ (fun r9 w9 H locs hw hP hD hS => ?_)
  obtain ⟨rfl, tn180x, tf181x, rfl⟩ := hw
  have hP : xP γ ([xO q0 2 [.ref q1, .ref q4, .int (nI kc), .int td, .ref q2, .ref q3], xO q1 0 [.ref a1, .int (nI n)], xA γ a1 12 f, xO q2 0 [.ref a2, .int tn180x], xA γ a2 12 tf181x, xO q3 1 [.ref a3, .int wn], xA γ a3 12 wf, xQ γ q4 6 (fun t9 => some (kq t9)), xL γ o 1 h, xO m0 3 [.int th, .int (nI n), .int (nI kc), .int td, .ref m1, .ref m2, .ref m3, .ref m4], xA γ m1 12 f, xA γ m2 12 mt, xA γ m3 72 tg, xA γ m4 14 tp] ++ xKp γ kq ka kn (xGt tg)) H := hP
  have hD : va_D A ([xO q0 2 [.ref q1, .ref q4, .int (nI kc), .int td, .ref q2, .ref q3], xO q1 0 [.ref a1, .int (nI n)], xA γ a1 12 f, xO q2 0 [.ref a2, .int tn180x], xA γ a2 12 tf181x, xO q3 1 [.ref a3, .int wn], xA γ a3 12 wf, xQ γ q4 6 (fun t9 => some (kq t9)), xL γ o 1 h, xO m0 3 [.int th, .int (nI n), .int (nI kc), .int td, .ref m1, .ref m2, .ref m3, .ref m4], xA γ m1 12 f, xA γ m2 12 mt, xA γ m3 72 tg, xA γ m4 14 tp] ++ xKp γ kq ka kn (xGt tg)) := hD
  refine W.eq (g2 := F0 m 1225 ls [.int (xSr n f)]) rfl ?_
  refine lv_aload_n hx hb dL_law_1225 rfl (lv_at hl 2 rfl) ?_
  refine xVM (q0 := 9) (ci := 3) (As := []) (rest := [.int (xSr n f)]) ⟨hx, hb, hml, hown, hts⟩ (c_X3_spreadAtRest γ l m0 m1 m2 m3 m4 n kc th td f mt hn0 hn1) (cwV 0 hts gL_law_X3_spreadAtRest rfl rfl rfl hdv_X3_spreadAtRest ⟨(Nat.le_of_ble_eq_true rfl), (Nat.le_of_ble_eq_true rfl)⟩) hK hP hD hS hA [9, 10, 11] rfl rfl rfl rfl rfl hl.1 rfl (Nat.le_of_ble_eq_true rfl) dL_law_1226 ⟨(by omega : _ ≤ 601024), (by omega : _ ≤ 7293034)⟩ (fun r9 w9 H locs hw hP hD hS => ?_)
  obtain ⟨rfl, h182x, rfl⟩ := hw
  have hP : xP γ ([xO q0 2 [.ref q1, .ref q4, .int (nI kc), .int td, .ref q2, .ref q3], xO q1 0 [.ref a1, .int (nI n)], xA γ a1 12 f, xO q2 0 [.ref a2, .int tn180x], xA γ a2 12 tf181x, xO q3 1 [.ref a3, .int wn], xA γ a3 12 wf, xQ γ q4 6 (fun t9 => some (kq t9)), xL γ o 1 h, xO m0 3 [.int 0, .int (nI n), .int (nI kc), .int td, .ref m1, .ref m2, .ref m3, .ref m4], xA γ m1 12 f, xA γ m2 12 h182x, xA γ m3 72 tg, xA γ m4 14 tp] ++ xKp γ kq ka kn (xGt tg)) H := hP
  have hD : va_D A ([xO q0 2 [.ref q1, .ref q4, .int (nI kc), .int td, .ref q2, .ref q3], xO q1 0 [.ref a1, .int (nI n)], xA γ a1 12 f, xO q2 0 [.ref a2, .int tn180x], xA γ a2 12 tf181x, xO q3 1 [.ref a3, .int wn], xA γ a3 12 wf, xQ γ q4 6 (fun t9 => some (kq t9)), xL γ o 1 h, xO m0 3 [.int 0, .int (nI n), .int (nI kc), .int td, .ref m1, .ref m2, .ref m3, .ref m4], xA γ m1 12 f, xA γ m2 12 h182x, xA γ m3 72 tg, xA γ m4 14 tp] ++ xKp γ kq ka kn (xGt tg)) := hD
  refine W.eq (g2 := F0 m 1229 ls [.int (xSrM n f), .int (xSr n f)]) rfl ?_
  refine lv_icmp_eq (tgt := 1426) hx hb dL_law_1229 (by decide) (fun _ => ?_) (fun c => absurd ((xSr_eq hn1).symm) c)
  exact K n kc td 0 tn180x wn f tf181x wf h182x tg tp h kn _ _ d0 _ _ ls hd0 (hI.same hj) (hkn) hP hD hS (by omega) (by omega) (lv_sub hl [0, 1, 2, 3, 4] rfl)

theorem hdv_X3_bestPlace : yX3_bestPlace.cls = RX3 ∧ yX3_bestPlace.cls ≠ "java/lang/invoke/MethodHandle" ∧ yX3_bestPlace.cls ≠ "java/lang/invoke/VarHandle" ∧ (parseMethodDescriptor yX3_bestPlace.desc).map (fun d => d.parameters.length) = some 0 := by decide +kernel
set_option maxHeartbeats 4000000 in
set_option maxRecDepth 100000 in
theorem xcase_bestPlace {p : Program} {e : Env} {s : State} {m : MethodId} {below : List Frame} {meth : Method} {c : Code} (l : Launch) (hlt : l.stackTraces = false) {b L : Nat} {xs : Nat → Int32} (hL : L ≤ 1536) (C0 : lw_At p s m meth c b L xs) {γ : xG} (hK : xK γ s) (sa : Nat → Nat) (hEv : xEv s) (hEs : xEs sa s) (hEn : xEn s) {A : Nat → Prop} (hA : ∀ q : Nat, s.heap.size ≤ q → A q) (hbA : ¬ A b) (hEh : xEh A s s.heap) (q0 q1 a1 q2 a2 q3 a3 q4 o m0 m1 m2 m3 m4 : Nat) (kq ka : Nat → Nat) (j i : Nat) (hj : j < 512) (hi : i + 2 < L) (K : xK9 p l e s m below meth c b γ A q0 q1 a1 q2 a2 q3 a3 q4 o m0 m1 m2 m3 m4 kq ka (j + 1) i) (n kc : Nat) (td th tn wn : Int32) (f tf wf mt tg tp : xRow) (h : Nat → Int64) (kn : Nat → Int32) (H : Heap) (locs : List Loc) (d0 : Drawn) (cells slots : Nat) (ls : Array Slot) (hd0 : s.drawn.sameBut d0 lw_cs) (hI : xInv j n kc f tg) (hkn : ∀ t, t < kc → kn t = nI n) (hP : xP γ (LW γ q0 q1 a1 q2 a2 q3 a3 q4 o m0 m1 m2 m3 m4 kq ka n kc td th tn wn f tf wf mt tg tp h kn) H) (hD : va_D A (LW γ q0 q1 a1 q2 a2 q3 a3 q4 o m0 m1 m2 m3 m4 kq ka n kc td th tn wn f tf wf mt tg tp h kn)) (hS : va_S A s.heap H locs) (hc : cells ≤ 26 + j) (hs : slots ≤ 257 + 17 * j) (hl : lv_has ls 9 [(0, .ref b), (1, .ref q0), (2, .ref m0), (3, .ref o), (4, .int (nI i))]) : W p l e room_1 (s.setDrawn d0) m #[Value.ref b] below meth c H locs cells slots (lw_Z below #[Value.ref b] s) (F0 m 1302 ls []) := by
  obtain ⟨hx, hb, hr, hml, hown, hts0, hX, hbl, hlocks, hgv⟩ := id C0
  have hts : ∀ w ∈ wsL_law, w.before #[Value.ref b] (s.setDrawn d0) = true := fun w h => dr_words hts0 d0 w (wsL_law_in w h)
  have hown : s.vm.findClass RL = some m.cls := hown
  have hX : va_X b L xs (s.setDrawn d0) s.heap := va_X.moved (u := s) (U := s.setDrawn d0) (Vm.Alike.refl s.vm) hX
  have hK : xK γ (s.setDrawn d0) := va_K.moved (u := s) (U := s.setDrawn d0) (Vm.Alike.refl s.vm) hK
  have hn0 := hI.1
  have hn1 := hI.2.1
  have hkc := hI.2.2.1
  have hP : xP γ ([xO q0 2 [.ref q1, .ref q4, .int (nI kc), .int td, .ref q2, .ref q3], xO q1 0 [.ref a1, .int (nI n)], xA γ a1 12 f, xO q2 0 [.ref a2, .int tn], xA γ a2 12 tf, xO q3 1 [.ref a3, .int wn], xA γ a3 12 wf, xQ γ q4 6 (fun t9 => some (kq t9)), xL γ o 1 h, xO m0 3 [.int th, .int (nI n), .int (nI kc), .int td, .ref m1, .ref m2, .ref m3, .ref m4], xA γ m1 12 f, xA γ m2 12 mt, xA γ m3 72 tg, xA γ m4 14 tp] ++ xKp γ kq ka kn (xGt tg)) H := hP
  have hD : va_D A ([xO q0 2 [.ref q1, .ref q4, .int (nI kc), .int td, .ref q2, .ref q3], xO q1 0 [.ref a1, .int (nI n)], xA γ a1 12 f, xO q2 0 [.ref a2, .int tn], xA γ a2 12 tf, xO q3 1 [.ref a3, .int wn], xA γ a3 12 wf, xQ γ q4 6 (fun t9 => some (kq t9)), xL γ o 1 h, xO m0 3 [.int th, .int (nI n), .int (nI kc), .int td, .ref m1, .ref m2, .ref m3, .ref m4], xA γ m1 12 f, xA γ m2 12 mt, xA γ m3 72 tg, xA γ m4 14 tp] ++ xKp γ kq ka kn (xGt tg)) := hD
  refine lv_aload_n hx hb dL_law_1302 rfl (lv_at hl 1 rfl) ?_
  refine xVM (q0 := 0) (ci := 2) (As := []) (rest := []) ⟨hx, hb, hml, hown, hts⟩ (c_X2_bestPlace γ l q0 q1 q2 q3 q4 kc td a1 n f a2 tn tf hn0 hn1) (cwV 0 hts gL_law_X2_bestPlace rfl rfl rfl hdv_X2_bestPlace ⟨(Nat.le_of_ble_eq_true rfl), (Nat.le_of_ble_eq_true rfl)⟩) hK hP hD hS hA [0, 1, 2, 3, 4] rfl rfl rfl rfl rfl hl.1 rfl (Nat.le_of_ble_eq_true rfl) dL_law_1303 ⟨(by omega : _ ≤ 601024), (by omega : _ ≤ 7293034)⟩ (fun r9 w9 H locs hw hP hD hS => ?_)
  obtain ⟨rfl, tn183x, tf184x, rfl⟩ := hw
  have hP : xP γ ([xO q0 2 [.ref q1, .ref q4, .int (nI kc), .int td, .ref q2, .ref q3], xO q1 0 [.ref a1, .int (nI n)], xA γ a1 12 f, xO q2 0 [.ref a2, .int tn183x], xA γ a2 12 tf184x, xO q3 1 [.ref a3, .int wn], xA γ a3 12 wf, xQ γ q4 6 (fun t9 => some (kq t9)), xL γ o 1 h, xO m0 3 [.int th, .int (nI n), .int (nI kc), .int td, .ref m1, .ref m2, .ref m3, .ref m4], xA γ m1 12 f, xA γ m2 12 mt, xA γ m3 72 tg, xA γ m4 14 tp] ++ xKp γ kq ka kn (xGt tg)) H := hP
  have hD : va_D A ([xO q0 2 [.ref q1, .ref q4, .int (nI kc), .int td, .ref q2, .ref q3], xO q1 0 [.ref a1, .int (nI n)], xA γ a1 12 f, xO q2 0 [.ref a2, .int tn183x], xA γ a2 12 tf184x, xO q3 1 [.ref a3, .int wn], xA γ a3 12 wf, xQ γ q4 6 (fun t9 => some (kq t9)), xL γ o 1 h, xO m0 3 [.int th, .int (nI n), .int (nI kc), .int td, .ref m1, .ref m2, .ref m3, .ref m4], xA γ m1 12 f, xA γ m2 12 mt, xA γ m3 72 tg, xA γ m4 14 tp] ++ xKp γ kq ka kn (xGt tg)) := hD
  refine W.eq (g2 := F0 m 1306 ls [.int ((xBp n f n).1)]) rfl ?_
  refine lv_aload_n hx hb dL_law_1306 rfl (lv_at hl 2 rfl) ?_
  refine xVM (q0 := 9) (ci := 3) (As := []) (rest := [.int ((xBp n f n).1)]) ⟨hx, hb, hml, hown, hts⟩ (c_X3_bestPlace γ l m0 m1 m2 m3 m4 n kc th td f mt hn0 hn1) (cwV 0 hts gL_law_X3_bestPlace rfl rfl rfl hdv_X3_bestPlace ⟨(Nat.le_of_ble_eq_true rfl), (Nat.le_of_ble_eq_true rfl)⟩) hK hP hD hS hA [9, 10, 11] rfl rfl rfl rfl rfl hl.1 rfl (Nat.le_of_ble_eq_true rfl) dL_law_1307 ⟨(by omega : _ ≤ 601024), (by omega : _ ≤ 7293034)⟩ (fun r9 w9 H locs hw hP hD hS => ?_)
  obtain ⟨rfl, h185x, rfl⟩ := hw
  have hP : xP γ ([xO q0 2 [.ref q1, .ref q4, .int (nI kc), .int td, .ref q2, .ref q3], xO q1 0 [.ref a1, .int (nI n)], xA γ a1 12 f, xO q2 0 [.ref a2, .int tn183x], xA γ a2 12 tf184x, xO q3 1 [.ref a3, .int wn], xA γ a3 12 wf, xQ γ q4 6 (fun t9 => some (kq t9)), xL γ o 1 h, xO m0 3 [.int 0, .int (nI n), .int (nI kc), .int td, .ref m1, .ref m2, .ref m3, .ref m4], xA γ m1 12 f, xA γ m2 12 h185x, xA γ m3 72 tg, xA γ m4 14 tp] ++ xKp γ kq ka kn (xGt tg)) H := hP
  have hD : va_D A ([xO q0 2 [.ref q1, .ref q4, .int (nI kc), .int td, .ref q2, .ref q3], xO q1 0 [.ref a1, .int (nI n)], xA γ a1 12 f, xO q2 0 [.ref a2, .int tn183x], xA γ a2 12 tf184x, xO q3 1 [.ref a3, .int wn], xA γ a3 12 wf, xQ γ q4 6 (fun t9 => some (kq t9)), xL γ o 1 h, xO m0 3 [.int 0, .int (nI n), .int (nI kc), .int td, .ref m1, .ref m2, .ref m3, .ref m4], xA γ m1 12 f, xA γ m2 12 h185x, xA γ m3 72 tg, xA γ m4 14 tp] ++ xKp γ kq ka kn (xGt tg)) := hD
  refine W.eq (g2 := F0 m 1310 ls [.int ((xBp n f n).1), .int ((xBp n f n).1)]) rfl ?_
  refine lv_icmp_eq (tgt := 1426) hx hb dL_law_1310 (by decide) (fun _ => ?_) (fun c => absurd (rfl) c)
  exact K n kc td 0 tn183x wn f tf184x wf h185x tg tp h kn _ _ d0 _ _ ls hd0 (hI.same hj) (hkn) hP hD hS (by omega) (by omega) (lv_sub hl [0, 1, 2, 3, 4] rfl)

theorem hds_L_spreadWith : yL_spreadWith.cls ≠ "java/lang/invoke/MethodHandle" ∧ yL_spreadWith.cls ≠ "java/lang/invoke/VarHandle" ∧ (parseMethodDescriptor yL_spreadWith.desc).map (fun d => d.parameters.length) = some 4 := by decide +kernel
theorem hdv_X3_spreadWith : yX3_spreadWith.cls = RX3 ∧ yX3_spreadWith.cls ≠ "java/lang/invoke/MethodHandle" ∧ yX3_spreadWith.cls ≠ "java/lang/invoke/VarHandle" ∧ (parseMethodDescriptor yX3_spreadWith.desc).map (fun d => d.parameters.length) = some 2 := by decide +kernel
set_option maxHeartbeats 4000000 in
set_option maxRecDepth 100000 in
theorem xcase_spreadWith {p : Program} {e : Env} {s : State} {m : MethodId} {below : List Frame} {meth : Method} {c : Code} (l : Launch) (hlt : l.stackTraces = false) {b L : Nat} {xs : Nat → Int32} (hL : L ≤ 1536) (C0 : lw_At p s m meth c b L xs) {γ : xG} (hK : xK γ s) (sa : Nat → Nat) (hEv : xEv s) (hEs : xEs sa s) (hEn : xEn s) {A : Nat → Prop} (hA : ∀ q : Nat, s.heap.size ≤ q → A q) (hbA : ¬ A b) (hEh : xEh A s s.heap) (q0 q1 a1 q2 a2 q3 a3 q4 o m0 m1 m2 m3 m4 : Nat) (kq ka : Nat → Nat) (j i : Nat) (hj : j < 512) (hi : i + 2 < L) (K : xK9 p l e s m below meth c b γ A q0 q1 a1 q2 a2 q3 a3 q4 o m0 m1 m2 m3 m4 kq ka (j + 1) i) (n kc : Nat) (td th tn wn : Int32) (f tf wf mt tg tp : xRow) (h : Nat → Int64) (kn : Nat → Int32) (H : Heap) (locs : List Loc) (d0 : Drawn) (cells slots : Nat) (ls : Array Slot) (hd0 : s.drawn.sameBut d0 lw_cs) (hI : xInv j n kc f tg) (hkn : ∀ t, t < kc → kn t = nI n) (hP : xP γ (LW γ q0 q1 a1 q2 a2 q3 a3 q4 o m0 m1 m2 m3 m4 kq ka n kc td th tn wn f tf wf mt tg tp h kn) H) (hD : va_D A (LW γ q0 q1 a1 q2 a2 q3 a3 q4 o m0 m1 m2 m3 m4 kq ka n kc td th tn wn f tf wf mt tg tp h kn)) (hS : va_S A s.heap H locs) (hc : cells ≤ 26 + j) (hs : slots ≤ 257 + 17 * j) (hl : lv_has ls 9 [(0, .ref b), (1, .ref q0), (2, .ref m0), (3, .ref o), (4, .int (nI i))]) : W p l e room_1 (s.setDrawn d0) m #[Value.ref b] below meth c H locs cells slots (lw_Z below #[Value.ref b] s) (F0 m 1234 ls []) := by
  obtain ⟨hx, hb, hr, hml, hown, hts0, hX, hbl, hlocks, hgv⟩ := id C0
  have hts : ∀ w ∈ wsL_law, w.before #[Value.ref b] (s.setDrawn d0) = true := fun w h => dr_words hts0 d0 w (wsL_law_in w h)
  have hown : s.vm.findClass RL = some m.cls := hown
  have hX : va_X b L xs (s.setDrawn d0) s.heap := va_X.moved (u := s) (U := s.setDrawn d0) (Vm.Alike.refl s.vm) hX
  have hK : xK γ (s.setDrawn d0) := va_K.moved (u := s) (U := s.setDrawn d0) (Vm.Alike.refl s.vm) hK
  have hn0 := hI.1
  have hn1 := hI.2.1
  have hkc := hI.2.2.1
  have hP : xP γ ([xO q0 2 [.ref q1, .ref q4, .int (nI kc), .int td, .ref q2, .ref q3], xO q1 0 [.ref a1, .int (nI n)], xA γ a1 12 f, xO q2 0 [.ref a2, .int tn], xA γ a2 12 tf, xO q3 1 [.ref a3, .int wn], xA γ a3 12 wf, xQ γ q4 6 (fun t9 => some (kq t9)), xL γ o 1 h, xO m0 3 [.int th, .int (nI n), .int (nI kc), .int td, .ref m1, .ref m2, .ref m3, .ref m4], xA γ m1 12 f, xA γ m2 12 mt, xA γ m3 72 tg, xA γ m4 14 tp] ++ xKp γ kq ka kn (xGt tg)) H := hP
  have hD : va_D A ([xO q0 2 [.ref q1, .ref q4, .int (nI kc), .int td, .ref q2, .ref q3], xO q1 0 [.ref a1, .int (nI n)], xA γ a1 12 f, xO q2 0 [.ref a2, .int tn], xA γ a2 12 tf, xO q3 1 [.ref a3, .int wn], xA γ a3 12 wf, xQ γ q4 6 (fun t9 => some (kq t9)), xL γ o 1 h, xO m0 3 [.int th, .int (nI n), .int (nI kc), .int td, .ref m1, .ref m2, .ref m3, .ref m4], xA γ m1 12 f, xA γ m2 12 mt, xA γ m3 72 tg, xA γ m4 14 tp] ++ xKp γ kq ka kn (xGt tg)) := hD
  by_cases hp : xInB (xs (i + 1)) 0 (nI n - 1) = true
  · obtain ⟨k, hk, e1⟩ := xInB_pl hn1 hp
    by_cases hq : xInB (xs (i + 2)) (-50) 50 = true
    · obtain ⟨h1, h2⟩ := xInB_t hq
      refine lv_aload_n hx hb dL_law_1234 rfl (lv_at hl 1 rfl) ?_
      refine lv_aload_n hx hb dL_law_1235 rfl (lv_at hl 0 rfl) ?_
      refine lv_iload hx hb dL_law_1236 (lv_at hl 4 rfl) ?_
      refine lv_iconst (v := 1) hx hb dL_law_1238 (by decide) ?_
      refine lv_iadd hx hb dL_law_1239 ?_
      refine x_top (y := nI (i + 1)) (nI_add i 1) ?_
      refine x_sld hx hb hX hbl hbA hS (i + 1) rfl (by omega) (by omega) dL_law_1240 ?_
      refine x_top (y := nI k) (e1) ?_
      refine lv_aload_n hx hb dL_law_1241 rfl (lv_at hl 0 rfl) ?_
      refine lv_iload hx hb dL_law_1242 (lv_at hl 4 rfl) ?_
      refine lv_iconst (v := 2) hx hb dL_law_1244 (by decide) ?_
      refine lv_iadd hx hb dL_law_1245 ?_
      refine x_top (y := nI (i + 2)) (nI_add i 2) ?_
      refine x_sld hx hb hX hbl hbA hS (i + 2) rfl (by omega) (by omega) dL_law_1246 ?_
      refine lv_aload_n hx hb dL_law_1247 rfl (lv_at hl 3 rfl) ?_
      refine xSME (Ex := fun _ => True) (As := [.ref q0, .int (nI k), .int (xs (i + 2)), .ref o]) (rest := []) ⟨hx, hb, hml, hown, hts⟩ (c_L_spreadWith γ l q0 q1 q2 q3 q4 kc td a1 n f a2 tn tf k (xs (i + 2)) hn0 hn1 hk h1 h2 o h) (vx_cwSW 4 hts gL_law_L_spreadWith rfl rfl rfl hds_L_spreadWith ⟨(Nat.le_of_ble_eq_true rfl), (Nat.le_of_ble_eq_true rfl)⟩) (fun _ _ _ _ h => h) (fun _ _ _ => trivial) hK hP hD hS hA [0, 1, 2, 3, 4, 8] rfl rfl rfl hl.1 rfl (Nat.le_of_ble_eq_true rfl) dL_law_1248 ⟨(by omega : _ ≤ 601024), (by omega : _ ≤ 7293034)⟩ (fun r9 w9 H locs hw hP hD hS => ?_)
      obtain ⟨rfl, tn186x, tf187x, rfl⟩ := hw
      have hP : xP γ ([xO q0 2 [.ref q1, .ref q4, .int (nI kc), .int td, .ref q2, .ref q3], xO q1 0 [.ref a1, .int (nI n)], xA γ a1 12 f, xO q2 0 [.ref a2, .int tn186x], xA γ a2 12 tf187x, xO q3 1 [.ref a3, .int wn], xA γ a3 12 wf, xQ γ q4 6 (fun t9 => some (kq t9)), xL γ o 1 (vp_updL h 0 (Int32.toInt64 (xSpn n (xTip n f k (xs (i + 2)))))), xO m0 3 [.int th, .int (nI n), .int (nI kc), .int td, .ref m1, .ref m2, .ref m3, .ref m4], xA γ m1 12 f, xA γ m2 12 mt, xA γ m3 72 tg, xA γ m4 14 tp] ++ xKp γ kq ka kn (xGt tg)) H := hP
      have hD : va_D A ([xO q0 2 [.ref q1, .ref q4, .int (nI kc), .int td, .ref q2, .ref q3], xO q1 0 [.ref a1, .int (nI n)], xA γ a1 12 f, xO q2 0 [.ref a2, .int tn186x], xA γ a2 12 tf187x, xO q3 1 [.ref a3, .int wn], xA γ a3 12 wf, xQ γ q4 6 (fun t9 => some (kq t9)), xL γ o 1 (vp_updL h 0 (Int32.toInt64 (xSpn n (xTip n f k (xs (i + 2)))))), xO m0 3 [.int th, .int (nI n), .int (nI kc), .int td, .ref m1, .ref m2, .ref m3, .ref m4], xA γ m1 12 f, xA γ m2 12 mt, xA γ m3 72 tg, xA γ m4 14 tp] ++ xKp γ kq ka kn (xGt tg)) := hD
      refine W.eq (g2 := F0 m 1251 ls [.int 0]) rfl ?_
      refine lv_istore (lv' := [(5, .int 0), (0, .ref b), (1, .ref q0), (2, .ref m0), (3, .ref o), (4, .int (nI i))]) hx hb dL_law_1251 hl (by decide) rfl (fun ls hl => ?_)
      refine lv_aload_n hx hb dL_law_1253 rfl (lv_at hl 3 rfl) ?_
      refine lv_aload_n hx hb dL_law_1254 rfl (lv_at hl 1 rfl) ?_
      refine lv_iload hx hb dL_law_1255 (lv_at hl 5 rfl) ?_
      refine lv_iconst (v := 1) hx hb dL_law_1257 (by decide) ?_
      refine lv_iadd hx hb dL_law_1258 ?_
      refine x_top (y := nI (i + 1)) (nI_add i 1) ?_
      refine x_sld hx hb hX hbl hbA hS (i + 1) rfl (by omega) (by omega) dL_law_1259 ?_
      refine x_top (y := nI k) (e1) ?_
      refine lv_aload_n hx hb dL_law_1260 rfl (lv_at hl 1 rfl) ?_
      refine lv_iload hx hb dL_law_1261 (lv_at hl 5 rfl) ?_
      refine lv_iconst (v := 2) hx hb dL_law_1263 (by decide) ?_
      refine lv_iadd hx hb dL_law_1264 ?_
      refine x_top (y := nI (i + 2)) (nI_add i 2) ?_
      refine x_sld hx hb hX hbl hbA hS (i + 2) rfl (by omega) (by omega) dL_law_1265 ?_
      refine xVM (q0 := 9) (ci := 3) (As := [.int (nI k), .int (xs (i + 2))]) (rest := []) ⟨hx, hb, hml, hown, hts⟩ (c_X3_spreadWith γ l m0 m1 m2 m3 m4 n kc th td f mt k (xs (i + 2)) hn0 hn1 hk h1 h2) (cwV 2 hts gL_law_X3_spreadWith rfl rfl rfl hdv_X3_spreadWith ⟨(Nat.le_of_ble_eq_true rfl), (Nat.le_of_ble_eq_true rfl)⟩) hK hP hD hS hA [9, 10, 11] rfl rfl rfl rfl rfl hl.1 rfl (Nat.le_of_ble_eq_true rfl) dL_law_1266 ⟨(by omega : _ ≤ 601024), (by omega : _ ≤ 7293034)⟩ (fun r9 w9 H locs hw hP hD hS => ?_)
      obtain ⟨rfl, h188x, rfl⟩ := hw
      have hP : xP γ ([xO q0 2 [.ref q1, .ref q4, .int (nI kc), .int td, .ref q2, .ref q3], xO q1 0 [.ref a1, .int (nI n)], xA γ a1 12 f, xO q2 0 [.ref a2, .int tn186x], xA γ a2 12 tf187x, xO q3 1 [.ref a3, .int wn], xA γ a3 12 wf, xQ γ q4 6 (fun t9 => some (kq t9)), xL γ o 1 (vp_updL h 0 (Int32.toInt64 (xSpn n (xTip n f k (xs (i + 2)))))), xO m0 3 [.int 0, .int (nI n), .int (nI kc), .int td, .ref m1, .ref m2, .ref m3, .ref m4], xA γ m1 12 f, xA γ m2 12 h188x, xA γ m3 72 tg, xA γ m4 14 tp] ++ xKp γ kq ka kn (xGt tg)) H := hP
      have hD : va_D A ([xO q0 2 [.ref q1, .ref q4, .int (nI kc), .int td, .ref q2, .ref q3], xO q1 0 [.ref a1, .int (nI n)], xA γ a1 12 f, xO q2 0 [.ref a2, .int tn186x], xA γ a2 12 tf187x, xO q3 1 [.ref a3, .int wn], xA γ a3 12 wf, xQ γ q4 6 (fun t9 => some (kq t9)), xL γ o 1 (vp_updL h 0 (Int32.toInt64 (xSpn n (xTip n f k (xs (i + 2)))))), xO m0 3 [.int 0, .int (nI n), .int (nI kc), .int td, .ref m1, .ref m2, .ref m3, .ref m4], xA γ m1 12 f, xA γ m2 12 h188x, xA γ m3 72 tg, xA γ m4 14 tp] ++ xKp γ kq ka kn (xGt tg)) := hD
      refine W.eq (g2 := F0 m 1269 ls [.int (xSpn n (xTip n f k (xs (i + 2))))]) rfl ?_
      refine lv_istore (lv' := [(6, .int (xSpn n (xTip n f k (xs (i + 2))))), (5, .int 0), (0, .ref b), (1, .ref q0), (2, .ref m0), (3, .ref o), (4, .int (nI i))]) hx hb dL_law_1269 hl (by decide) rfl (fun ls hl => ?_)
      refine lv_aload_n hx hb dL_law_1271 rfl (lv_at hl 4 rfl) ?_
      refine xVR (q0 := 9) (ci := 3) (As := []) (rest := []) (stk := [.int 0]) ⟨hx, hb, hml, hown, hts⟩ (c_X3_thrown γ l m0 m1 m2 m3 m4 n kc 0 td) (cwV 0 hts gL_law_X3_thrown rfl rfl rfl hdv_X3_thrown ⟨(Nat.le_of_ble_eq_true rfl), (Nat.le_of_ble_eq_true rfl)⟩) hK hP [9] rfl rfl rfl rfl hl.1 rfl (Nat.le_of_ble_eq_true rfl) dL_law_1272 ⟨(by omega : _ ≤ 601024), (by omega : _ ≤ 7293034)⟩ rfl ?_
      refine lv_iload hx hb dL_law_1275 (lv_at hl 1 rfl) ?_
      refine lv_icmp_eq (tgt := 1282) hx hb dL_law_1277 (by decide) (fun _ => ?_) (fun c => absurd (rfl) c)
      refine lv_iload hx hb dL_law_1282 (lv_at hl 1 rfl) ?_
      refine lv_if_ne (tgt := 1299) hx hb dL_law_1284 (by decide) (fun c => absurd rfl c) (fun _ => ?_)
      refine lv_aload_n hx hb dL_law_1287 rfl (lv_at hl 5 rfl) ?_
      refine lv_iconst (v := 0) hx hb dL_law_1288 (by decide) ?_
      refine x_lald (f := vp_updL h 0 (Int32.toInt64 (xSpn n (xTip n f k (xs (i + 2)))))) hx hb hK hP 8 rfl 0 rfl (by decide) (by decide) dL_law_1289 ?_
      refine x_topl (y := Int32.toInt64 (xSpn n (xTip n f k (xs (i + 2))))) rfl ?_
      refine lv_iload hx hb dL_law_1290 (lv_at hl 0 rfl) ?_
      refine lv_i2l (v := Int32.toInt64 (xSpn n (xTip n f k (xs (i + 2))))) hx hb dL_law_1292 rfl ?_
      refine x_lcmp (rfl) hx hb dL_law_1293 ?_
      refine lv_if_eq (tgt := 1299) hx hb dL_law_1294 (by decide) (fun _ => ?_) (fun c => absurd rfl c)
      refine lv_goto (tgt := 1426) hx hb dL_law_1299 (by decide) ?_
      exact K n kc td 0 tn186x wn f tf187x wf h188x tg tp (vp_updL h 0 (Int32.toInt64 (xSpn n (xTip n f k (xs (i + 2)))))) kn _ _ d0 _ _ ls hd0 (hI.same hj) (hkn) hP hD hS (by omega) (by omega) (lv_sub hl [2, 3, 4, 5, 6] rfl)
    · have hxb : xInB (xs (i + 2)) (-50) 50 = false := by simpa using hq
      refine lv_aload_n hx hb dL_law_1234 rfl (lv_at hl 1 rfl) ?_
      refine lv_aload_n hx hb dL_law_1235 rfl (lv_at hl 0 rfl) ?_
      refine lv_iload hx hb dL_law_1236 (lv_at hl 4 rfl) ?_
      refine lv_iconst (v := 1) hx hb dL_law_1238 (by decide) ?_
      refine lv_iadd hx hb dL_law_1239 ?_
      refine x_top (y := nI (i + 1)) (nI_add i 1) ?_
      refine x_sld hx hb hX hbl hbA hS (i + 1) rfl (by omega) (by omega) dL_law_1240 ?_
      refine x_top (y := nI k) (e1) ?_
      refine lv_aload_n hx hb dL_law_1241 rfl (lv_at hl 0 rfl) ?_
      refine lv_iload hx hb dL_law_1242 (lv_at hl 4 rfl) ?_
      refine lv_iconst (v := 2) hx hb dL_law_1244 (by decide) ?_
      refine lv_iadd hx hb dL_law_1245 ?_
      refine x_top (y := nI (i + 2)) (nI_add i 2) ?_
      refine x_sld hx hb hX hbl hbA hS (i + 2) rfl (by omega) (by omega) dL_law_1246 ?_
      refine lv_aload_n hx hb dL_law_1247 rfl (lv_at hl 3 rfl) ?_
      refine xSME (Ex := xW1 sa) (As := [.ref q0, .int (nI k), .int (xs (i + 2)), .ref o]) (rest := []) ⟨hx, hb, hml, hown, hts⟩ (c_L_spreadWith_x2 γ l hlt sa q0 q1 q2 q3 q4 kc td a1 n f k (xs (i + 2)) hn0 hn1 hk hxb o h) (vx_cwSW 4 hts gL_law_L_spreadWith rfl rfl rfl hds_L_spreadWith ⟨(Nat.le_of_ble_eq_true rfl), (Nat.le_of_ble_eq_true rfl)⟩) xW1_blind (fun U hU hW => ⟨xE.at hW hU hEv hEs hEh hS, va_Nc.moved hW.alike hEn.1, va_Nc.moved hW.alike hEn.2⟩) hK hP hD hS hA [0, 1, 2, 8] rfl rfl rfl hl.1 rfl (Nat.le_of_ble_eq_true rfl) dL_law_1248 ⟨(by omega : _ ≤ 601024), (by omega : _ ≤ 7293034)⟩ (fun r9 w9 H locs hw hP hD hS => ?_)
      obtain ⟨rfl, rfl⟩ := hw
      have hP : xP γ ([xO q0 2 [.ref q1, .ref q4, .int (nI kc), .int td, .ref q2, .ref q3], xO q1 0 [.ref a1, .int (nI n)], xA γ a1 12 f, xO q2 0 [.ref a2, .int tn], xA γ a2 12 tf, xO q3 1 [.ref a3, .int wn], xA γ a3 12 wf, xQ γ q4 6 (fun t9 => some (kq t9)), xL γ o 1 h, xO m0 3 [.int th, .int (nI n), .int (nI kc), .int td, .ref m1, .ref m2, .ref m3, .ref m4], xA γ m1 12 f, xA γ m2 12 mt, xA γ m3 72 tg, xA γ m4 14 tp] ++ xKp γ kq ka kn (xGt tg)) H := hP
      have hD : va_D A ([xO q0 2 [.ref q1, .ref q4, .int (nI kc), .int td, .ref q2, .ref q3], xO q1 0 [.ref a1, .int (nI n)], xA γ a1 12 f, xO q2 0 [.ref a2, .int tn], xA γ a2 12 tf, xO q3 1 [.ref a3, .int wn], xA γ a3 12 wf, xQ γ q4 6 (fun t9 => some (kq t9)), xL γ o 1 h, xO m0 3 [.int th, .int (nI n), .int (nI kc), .int td, .ref m1, .ref m2, .ref m3, .ref m4], xA γ m1 12 f, xA γ m2 12 mt, xA γ m3 72 tg, xA γ m4 14 tp] ++ xKp γ kq ka kn (xGt tg)) := hD
      refine W.eq (g2 := F0 m 1251 ls [.int 2]) rfl ?_
      refine lv_istore (lv' := [(5, .int 2), (0, .ref b), (1, .ref q0), (2, .ref m0), (3, .ref o), (4, .int (nI i))]) hx hb dL_law_1251 hl (by decide) rfl (fun ls hl => ?_)
      refine lv_aload_n hx hb dL_law_1253 rfl (lv_at hl 3 rfl) ?_
      refine lv_aload_n hx hb dL_law_1254 rfl (lv_at hl 1 rfl) ?_
      refine lv_iload hx hb dL_law_1255 (lv_at hl 5 rfl) ?_
      refine lv_iconst (v := 1) hx hb dL_law_1257 (by decide) ?_
      refine lv_iadd hx hb dL_law_1258 ?_
      refine x_top (y := nI (i + 1)) (nI_add i 1) ?_
      refine x_sld hx hb hX hbl hbA hS (i + 1) rfl (by omega) (by omega) dL_law_1259 ?_
      refine x_top (y := nI k) (e1) ?_
      refine lv_aload_n hx hb dL_law_1260 rfl (lv_at hl 1 rfl) ?_
      refine lv_iload hx hb dL_law_1261 (lv_at hl 5 rfl) ?_
      refine lv_iconst (v := 2) hx hb dL_law_1263 (by decide) ?_
      refine lv_iadd hx hb dL_law_1264 ?_
      refine x_top (y := nI (i + 2)) (nI_add i 2) ?_
      refine x_sld hx hb hX hbl hbA hS (i + 2) rfl (by omega) (by omega) dL_law_1265 ?_
      refine xVM (q0 := 9) (ci := 3) (As := [.int (nI k), .int (xs (i + 2))]) (rest := []) ⟨hx, hb, hml, hown, hts⟩ (c_X3_spreadWith_x2 γ l m0 m1 m2 m3 m4 n kc th td k (xs (i + 2)) hn0 hn1 hk hxb) (cwV 2 hts gL_law_X3_spreadWith rfl rfl rfl hdv_X3_spreadWith ⟨(Nat.le_of_ble_eq_true rfl), (Nat.le_of_ble_eq_true rfl)⟩) hK hP hD hS hA [9] rfl rfl rfl rfl rfl hl.1 rfl (Nat.le_of_ble_eq_true rfl) dL_law_1266 ⟨(by omega : _ ≤ 601024), (by omega : _ ≤ 7293034)⟩ (fun r9 w9 H locs hw hP hD hS => ?_)
      obtain ⟨rfl, rfl⟩ := hw
      have hP : xP γ ([xO q0 2 [.ref q1, .ref q4, .int (nI kc), .int td, .ref q2, .ref q3], xO q1 0 [.ref a1, .int (nI n)], xA γ a1 12 f, xO q2 0 [.ref a2, .int tn], xA γ a2 12 tf, xO q3 1 [.ref a3, .int wn], xA γ a3 12 wf, xQ γ q4 6 (fun t9 => some (kq t9)), xL γ o 1 h, xO m0 3 [.int 2, .int (nI n), .int (nI kc), .int td, .ref m1, .ref m2, .ref m3, .ref m4], xA γ m1 12 f, xA γ m2 12 mt, xA γ m3 72 tg, xA γ m4 14 tp] ++ xKp γ kq ka kn (xGt tg)) H := hP
      have hD : va_D A ([xO q0 2 [.ref q1, .ref q4, .int (nI kc), .int td, .ref q2, .ref q3], xO q1 0 [.ref a1, .int (nI n)], xA γ a1 12 f, xO q2 0 [.ref a2, .int tn], xA γ a2 12 tf, xO q3 1 [.ref a3, .int wn], xA γ a3 12 wf, xQ γ q4 6 (fun t9 => some (kq t9)), xL γ o 1 h, xO m0 3 [.int 2, .int (nI n), .int (nI kc), .int td, .ref m1, .ref m2, .ref m3, .ref m4], xA γ m1 12 f, xA γ m2 12 mt, xA γ m3 72 tg, xA γ m4 14 tp] ++ xKp γ kq ka kn (xGt tg)) := hD
      refine W.eq (g2 := F0 m 1269 ls [.int 0]) rfl ?_
      refine lv_istore (lv' := [(6, .int 0), (5, .int 2), (0, .ref b), (1, .ref q0), (2, .ref m0), (3, .ref o), (4, .int (nI i))]) hx hb dL_law_1269 hl (by decide) rfl (fun ls hl => ?_)
      refine lv_aload_n hx hb dL_law_1271 rfl (lv_at hl 4 rfl) ?_
      refine xVR (q0 := 9) (ci := 3) (As := []) (rest := []) (stk := [.int 2]) ⟨hx, hb, hml, hown, hts⟩ (c_X3_thrown γ l m0 m1 m2 m3 m4 n kc 2 td) (cwV 0 hts gL_law_X3_thrown rfl rfl rfl hdv_X3_thrown ⟨(Nat.le_of_ble_eq_true rfl), (Nat.le_of_ble_eq_true rfl)⟩) hK hP [9] rfl rfl rfl rfl hl.1 rfl (Nat.le_of_ble_eq_true rfl) dL_law_1272 ⟨(by omega : _ ≤ 601024), (by omega : _ ≤ 7293034)⟩ rfl ?_
      refine lv_iload hx hb dL_law_1275 (lv_at hl 1 rfl) ?_
      refine lv_icmp_eq (tgt := 1282) hx hb dL_law_1277 (by decide) (fun _ => ?_) (fun c => absurd (rfl) c)
      refine lv_iload hx hb dL_law_1282 (lv_at hl 1 rfl) ?_
      refine lv_if_ne (tgt := 1299) hx hb dL_law_1284 (by decide) (fun _ => ?_) (fun c => absurd c (by decide))
      refine lv_goto (tgt := 1426) hx hb dL_law_1299 (by decide) ?_
      exact K n kc td 2 tn wn f tf wf mt tg tp h kn _ _ d0 _ _ ls hd0 (hI.same hj) (hkn) hP hD hS (by omega) (by omega) (lv_sub hl [2, 3, 4, 5, 6] rfl)
  · have hxb : xInB (xs (i + 1)) 0 (nI n - 1) = false := by simpa using hp
    refine lv_aload_n hx hb dL_law_1234 rfl (lv_at hl 1 rfl) ?_
    refine lv_aload_n hx hb dL_law_1235 rfl (lv_at hl 0 rfl) ?_
    refine lv_iload hx hb dL_law_1236 (lv_at hl 4 rfl) ?_
    refine lv_iconst (v := 1) hx hb dL_law_1238 (by decide) ?_
    refine lv_iadd hx hb dL_law_1239 ?_
    refine x_top (y := nI (i + 1)) (nI_add i 1) ?_
    refine x_sld hx hb hX hbl hbA hS (i + 1) rfl (by omega) (by omega) dL_law_1240 ?_
    refine lv_aload_n hx hb dL_law_1241 rfl (lv_at hl 0 rfl) ?_
    refine lv_iload hx hb dL_law_1242 (lv_at hl 4 rfl) ?_
    refine lv_iconst (v := 2) hx hb dL_law_1244 (by decide) ?_
    refine lv_iadd hx hb dL_law_1245 ?_
    refine x_top (y := nI (i + 2)) (nI_add i 2) ?_
    refine x_sld hx hb hX hbl hbA hS (i + 2) rfl (by omega) (by omega) dL_law_1246 ?_
    refine lv_aload_n hx hb dL_law_1247 rfl (lv_at hl 3 rfl) ?_
    refine xSME (Ex := xW1 sa) (As := [.ref q0, .int (xs (i + 1)), .int (xs (i + 2)), .ref o]) (rest := []) ⟨hx, hb, hml, hown, hts⟩ (c_L_spreadWith_x1 γ l hlt sa q0 q1 q2 q3 q4 kc td a1 n f (xs (i + 1)) (xs (i + 2)) hn0 hn1 hxb o h) (vx_cwSW 4 hts gL_law_L_spreadWith rfl rfl rfl hds_L_spreadWith ⟨(Nat.le_of_ble_eq_true rfl), (Nat.le_of_ble_eq_true rfl)⟩) xW1_blind (fun U hU hW => ⟨xE.at hW hU hEv hEs hEh hS, va_Nc.moved hW.alike hEn.1, va_Nc.moved hW.alike hEn.2⟩) hK hP hD hS hA [0, 1, 2, 8] rfl rfl rfl hl.1 rfl (Nat.le_of_ble_eq_true rfl) dL_law_1248 ⟨(by omega : _ ≤ 601024), (by omega : _ ≤ 7293034)⟩ (fun r9 w9 H locs hw hP hD hS => ?_)
    obtain ⟨rfl, rfl⟩ := hw
    have hP : xP γ ([xO q0 2 [.ref q1, .ref q4, .int (nI kc), .int td, .ref q2, .ref q3], xO q1 0 [.ref a1, .int (nI n)], xA γ a1 12 f, xO q2 0 [.ref a2, .int tn], xA γ a2 12 tf, xO q3 1 [.ref a3, .int wn], xA γ a3 12 wf, xQ γ q4 6 (fun t9 => some (kq t9)), xL γ o 1 h, xO m0 3 [.int th, .int (nI n), .int (nI kc), .int td, .ref m1, .ref m2, .ref m3, .ref m4], xA γ m1 12 f, xA γ m2 12 mt, xA γ m3 72 tg, xA γ m4 14 tp] ++ xKp γ kq ka kn (xGt tg)) H := hP
    have hD : va_D A ([xO q0 2 [.ref q1, .ref q4, .int (nI kc), .int td, .ref q2, .ref q3], xO q1 0 [.ref a1, .int (nI n)], xA γ a1 12 f, xO q2 0 [.ref a2, .int tn], xA γ a2 12 tf, xO q3 1 [.ref a3, .int wn], xA γ a3 12 wf, xQ γ q4 6 (fun t9 => some (kq t9)), xL γ o 1 h, xO m0 3 [.int th, .int (nI n), .int (nI kc), .int td, .ref m1, .ref m2, .ref m3, .ref m4], xA γ m1 12 f, xA γ m2 12 mt, xA γ m3 72 tg, xA γ m4 14 tp] ++ xKp γ kq ka kn (xGt tg)) := hD
    refine W.eq (g2 := F0 m 1251 ls [.int 1]) rfl ?_
    refine lv_istore (lv' := [(5, .int 1), (0, .ref b), (1, .ref q0), (2, .ref m0), (3, .ref o), (4, .int (nI i))]) hx hb dL_law_1251 hl (by decide) rfl (fun ls hl => ?_)
    refine lv_aload_n hx hb dL_law_1253 rfl (lv_at hl 3 rfl) ?_
    refine lv_aload_n hx hb dL_law_1254 rfl (lv_at hl 1 rfl) ?_
    refine lv_iload hx hb dL_law_1255 (lv_at hl 5 rfl) ?_
    refine lv_iconst (v := 1) hx hb dL_law_1257 (by decide) ?_
    refine lv_iadd hx hb dL_law_1258 ?_
    refine x_top (y := nI (i + 1)) (nI_add i 1) ?_
    refine x_sld hx hb hX hbl hbA hS (i + 1) rfl (by omega) (by omega) dL_law_1259 ?_
    refine lv_aload_n hx hb dL_law_1260 rfl (lv_at hl 1 rfl) ?_
    refine lv_iload hx hb dL_law_1261 (lv_at hl 5 rfl) ?_
    refine lv_iconst (v := 2) hx hb dL_law_1263 (by decide) ?_
    refine lv_iadd hx hb dL_law_1264 ?_
    refine x_top (y := nI (i + 2)) (nI_add i 2) ?_
    refine x_sld hx hb hX hbl hbA hS (i + 2) rfl (by omega) (by omega) dL_law_1265 ?_
    refine xVM (q0 := 9) (ci := 3) (As := [.int (xs (i + 1)), .int (xs (i + 2))]) (rest := []) ⟨hx, hb, hml, hown, hts⟩ (c_X3_spreadWith_x1 γ l m0 m1 m2 m3 m4 n kc th td (xs (i + 1)) (xs (i + 2)) hxb) (cwV 2 hts gL_law_X3_spreadWith rfl rfl rfl hdv_X3_spreadWith ⟨(Nat.le_of_ble_eq_true rfl), (Nat.le_of_ble_eq_true rfl)⟩) hK hP hD hS hA [9] rfl rfl rfl rfl rfl hl.1 rfl (Nat.le_of_ble_eq_true rfl) dL_law_1266 ⟨(by omega : _ ≤ 601024), (by omega : _ ≤ 7293034)⟩ (fun r9 w9 H locs hw hP hD hS => ?_)
    obtain ⟨rfl, rfl⟩ := hw
    have hP : xP γ ([xO q0 2 [.ref q1, .ref q4, .int (nI kc), .int td, .ref q2, .ref q3], xO q1 0 [.ref a1, .int (nI n)], xA γ a1 12 f, xO q2 0 [.ref a2, .int tn], xA γ a2 12 tf, xO q3 1 [.ref a3, .int wn], xA γ a3 12 wf, xQ γ q4 6 (fun t9 => some (kq t9)), xL γ o 1 h, xO m0 3 [.int 1, .int (nI n), .int (nI kc), .int td, .ref m1, .ref m2, .ref m3, .ref m4], xA γ m1 12 f, xA γ m2 12 mt, xA γ m3 72 tg, xA γ m4 14 tp] ++ xKp γ kq ka kn (xGt tg)) H := hP
    have hD : va_D A ([xO q0 2 [.ref q1, .ref q4, .int (nI kc), .int td, .ref q2, .ref q3], xO q1 0 [.ref a1, .int (nI n)], xA γ a1 12 f, xO q2 0 [.ref a2, .int tn], xA γ a2 12 tf, xO q3 1 [.ref a3, .int wn], xA γ a3 12 wf, xQ γ q4 6 (fun t9 => some (kq t9)), xL γ o 1 h, xO m0 3 [.int 1, .int (nI n), .int (nI kc), .int td, .ref m1, .ref m2, .ref m3, .ref m4], xA γ m1 12 f, xA γ m2 12 mt, xA γ m3 72 tg, xA γ m4 14 tp] ++ xKp γ kq ka kn (xGt tg)) := hD
    refine W.eq (g2 := F0 m 1269 ls [.int 0]) rfl ?_
    refine lv_istore (lv' := [(6, .int 0), (5, .int 1), (0, .ref b), (1, .ref q0), (2, .ref m0), (3, .ref o), (4, .int (nI i))]) hx hb dL_law_1269 hl (by decide) rfl (fun ls hl => ?_)
    refine lv_aload_n hx hb dL_law_1271 rfl (lv_at hl 4 rfl) ?_
    refine xVR (q0 := 9) (ci := 3) (As := []) (rest := []) (stk := [.int 1]) ⟨hx, hb, hml, hown, hts⟩ (c_X3_thrown γ l m0 m1 m2 m3 m4 n kc 1 td) (cwV 0 hts gL_law_X3_thrown rfl rfl rfl hdv_X3_thrown ⟨(Nat.le_of_ble_eq_true rfl), (Nat.le_of_ble_eq_true rfl)⟩) hK hP [9] rfl rfl rfl rfl hl.1 rfl (Nat.le_of_ble_eq_true rfl) dL_law_1272 ⟨(by omega : _ ≤ 601024), (by omega : _ ≤ 7293034)⟩ rfl ?_
    refine lv_iload hx hb dL_law_1275 (lv_at hl 1 rfl) ?_
    refine lv_icmp_eq (tgt := 1282) hx hb dL_law_1277 (by decide) (fun _ => ?_) (fun c => absurd (rfl) c)
    refine lv_iload hx hb dL_law_1282 (lv_at hl 1 rfl) ?_
    refine lv_if_ne (tgt := 1299) hx hb dL_law_1284 (by decide) (fun _ => ?_) (fun c => absurd c (by decide))
    refine lv_goto (tgt := 1426) hx hb dL_law_1299 (by decide) ?_
    exact K n kc td 1 tn wn f tf wf mt tg tp h kn _ _ d0 _ _ ls hd0 (hI.same hj) (hkn) hP hD hS (by omega) (by omega) (lv_sub hl [2, 3, 4, 5, 6] rfl)

theorem hds_L_placeFor : yL_placeFor.cls ≠ "java/lang/invoke/MethodHandle" ∧ yL_placeFor.cls ≠ "java/lang/invoke/VarHandle" ∧ (parseMethodDescriptor yL_placeFor.desc).map (fun d => d.parameters.length) = some 3 := by decide +kernel
theorem hdv_X3_placeFor : yX3_placeFor.cls = RX3 ∧ yX3_placeFor.cls ≠ "java/lang/invoke/MethodHandle" ∧ yX3_placeFor.cls ≠ "java/lang/invoke/VarHandle" ∧ (parseMethodDescriptor yX3_placeFor.desc).map (fun d => d.parameters.length) = some 1 := by decide +kernel
set_option maxHeartbeats 4000000 in
set_option maxRecDepth 100000 in
theorem xcase_placeFor {p : Program} {e : Env} {s : State} {m : MethodId} {below : List Frame} {meth : Method} {c : Code} (l : Launch) (hlt : l.stackTraces = false) {b L : Nat} {xs : Nat → Int32} (hL : L ≤ 1536) (C0 : lw_At p s m meth c b L xs) {γ : xG} (hK : xK γ s) (sa : Nat → Nat) (hEv : xEv s) (hEs : xEs sa s) (hEn : xEn s) {A : Nat → Prop} (hA : ∀ q : Nat, s.heap.size ≤ q → A q) (hbA : ¬ A b) (hEh : xEh A s s.heap) (q0 q1 a1 q2 a2 q3 a3 q4 o m0 m1 m2 m3 m4 : Nat) (kq ka : Nat → Nat) (j i : Nat) (hj : j < 512) (hi : i + 2 < L) (K : xK9 p l e s m below meth c b γ A q0 q1 a1 q2 a2 q3 a3 q4 o m0 m1 m2 m3 m4 kq ka (j + 1) i) (n kc : Nat) (td th tn wn : Int32) (f tf wf mt tg tp : xRow) (h : Nat → Int64) (kn : Nat → Int32) (H : Heap) (locs : List Loc) (d0 : Drawn) (cells slots : Nat) (ls : Array Slot) (hd0 : s.drawn.sameBut d0 lw_cs) (hI : xInv j n kc f tg) (hkn : ∀ t, t < kc → kn t = nI n) (hP : xP γ (LW γ q0 q1 a1 q2 a2 q3 a3 q4 o m0 m1 m2 m3 m4 kq ka n kc td th tn wn f tf wf mt tg tp h kn) H) (hD : va_D A (LW γ q0 q1 a1 q2 a2 q3 a3 q4 o m0 m1 m2 m3 m4 kq ka n kc td th tn wn f tf wf mt tg tp h kn)) (hS : va_S A s.heap H locs) (hc : cells ≤ 26 + j) (hs : slots ≤ 257 + 17 * j) (hl : lv_has ls 9 [(0, .ref b), (1, .ref q0), (2, .ref m0), (3, .ref o), (4, .int (nI i))]) : W p l e room_1 (s.setDrawn d0) m #[Value.ref b] below meth c H locs cells slots (lw_Z below #[Value.ref b] s) (F0 m 1315 ls []) := by
  obtain ⟨hx, hb, hr, hml, hown, hts0, hX, hbl, hlocks, hgv⟩ := id C0
  have hts : ∀ w ∈ wsL_law, w.before #[Value.ref b] (s.setDrawn d0) = true := fun w h => dr_words hts0 d0 w (wsL_law_in w h)
  have hown : s.vm.findClass RL = some m.cls := hown
  have hX : va_X b L xs (s.setDrawn d0) s.heap := va_X.moved (u := s) (U := s.setDrawn d0) (Vm.Alike.refl s.vm) hX
  have hK : xK γ (s.setDrawn d0) := va_K.moved (u := s) (U := s.setDrawn d0) (Vm.Alike.refl s.vm) hK
  have hn0 := hI.1
  have hn1 := hI.2.1
  have hkc := hI.2.2.1
  have hP : xP γ ([xO q0 2 [.ref q1, .ref q4, .int (nI kc), .int td, .ref q2, .ref q3], xO q1 0 [.ref a1, .int (nI n)], xA γ a1 12 f, xO q2 0 [.ref a2, .int tn], xA γ a2 12 tf, xO q3 1 [.ref a3, .int wn], xA γ a3 12 wf, xQ γ q4 6 (fun t9 => some (kq t9)), xL γ o 1 h, xO m0 3 [.int th, .int (nI n), .int (nI kc), .int td, .ref m1, .ref m2, .ref m3, .ref m4], xA γ m1 12 f, xA γ m2 12 mt, xA γ m3 72 tg, xA γ m4 14 tp] ++ xKp γ kq ka kn (xGt tg)) H := hP
  have hD : va_D A ([xO q0 2 [.ref q1, .ref q4, .int (nI kc), .int td, .ref q2, .ref q3], xO q1 0 [.ref a1, .int (nI n)], xA γ a1 12 f, xO q2 0 [.ref a2, .int tn], xA γ a2 12 tf, xO q3 1 [.ref a3, .int wn], xA γ a3 12 wf, xQ γ q4 6 (fun t9 => some (kq t9)), xL γ o 1 h, xO m0 3 [.int th, .int (nI n), .int (nI kc), .int td, .ref m1, .ref m2, .ref m3, .ref m4], xA γ m1 12 f, xA γ m2 12 mt, xA γ m3 72 tg, xA γ m4 14 tp] ++ xKp γ kq ka kn (xGt tg)) := hD
  by_cases hp : xInB (xs (i + 1)) (-999) 999 = true
  · obtain ⟨h1, h2⟩ := xInB_t hp
    by_cases hk0 : 0 < kc
    · have hk9 := hk0
      refine lv_aload_n hx hb dL_law_1315 rfl (lv_at hl 1 rfl) ?_
      refine lv_aload_n hx hb dL_law_1316 rfl (lv_at hl 0 rfl) ?_
      refine lv_iload hx hb dL_law_1317 (lv_at hl 4 rfl) ?_
      refine lv_iconst (v := 1) hx hb dL_law_1319 (by decide) ?_
      refine lv_iadd hx hb dL_law_1320 ?_
      refine x_top (y := nI (i + 1)) (nI_add i 1) ?_
      refine x_sld hx hb hX hbl hbA hS (i + 1) rfl (by omega) (by omega) dL_law_1321 ?_
      refine lv_aload_n hx hb dL_law_1322 rfl (lv_at hl 3 rfl) ?_
      refine xSME (Ex := fun _ => True) (As := [.ref q0, .int (xs (i + 1)), .ref o]) (rest := []) ⟨hx, hb, hml, hown, hts⟩ (c_L_placeFor γ l q0 q1 q2 q3 q4 kc td a1 n f a2 tn tf kq ka kn (xGt tg) (xs (i + 1)) hn0 hn1 hkc hkn h1 h2 o h) (vx_cwSW 3 hts gL_law_L_placeFor rfl rfl rfl hds_L_placeFor ⟨(Nat.le_of_ble_eq_true rfl), (Nat.le_of_ble_eq_true rfl)⟩) (fun _ _ _ _ h => h) (fun _ _ _ => trivial) hK hP hD hS hA ([0, 1, 2, 3, 4, 7, 8] ++ List.range' 14 12) rfl (xsuf_M (base := [xO q0 2 [.ref q1, .ref q4, .int (nI kc), .int td, .ref q2, .ref q3], xO q1 0 [.ref a1, .int (nI n)], xA γ a1 12 f, xO q2 0 [.ref a2, .int tn], xA γ a2 12 tf, xO q3 1 [.ref a3, .int wn], xA γ a3 12 wf, xQ γ q4 6 (fun t9 => some (kq t9)), xL γ o 1 h, xO m0 3 [.int th, .int (nI n), .int (nI kc), .int td, .ref m1, .ref m2, .ref m3, .ref m4], xA γ m1 12 f, xA γ m2 12 mt, xA γ m3 72 tg, xA γ m4 14 tp]) rfl rfl rfl (by decide)) rfl hl.1 rfl (Nat.le_of_ble_eq_true rfl) dL_law_1323 ⟨(by omega : _ ≤ 601024), (by omega : _ ≤ 7293034)⟩ (fun r9 w9 H locs hw hP hD hS => ?_)
      obtain ⟨rfl, tn189x, tf190x, rfl⟩ := hw
      rw [xup_suf2 (base := [xO q0 2 [.ref q1, .ref q4, .int (nI kc), .int td, .ref q2, .ref q3], xO q1 0 [.ref a1, .int (nI n)], xA γ a1 12 f, xO q2 0 [.ref a2, .int tn], xA γ a2 12 tf, xO q3 1 [.ref a3, .int wn], xA γ a3 12 wf, xQ γ q4 6 (fun t9 => some (kq t9)), xL γ o 1 h, xO m0 3 [.int th, .int (nI n), .int (nI kc), .int td, .ref m1, .ref m2, .ref m3, .ref m4], xA γ m1 12 f, xA γ m2 12 mt, xA γ m3 72 tg, xA γ m4 14 tp]) (K := xKp γ kq ka kn (xGt tg)) (K' := xKp γ kq ka kn (xGt tg)) (is1 := [0, 1, 2, 3, 4, 7, 8]) (w1 := [xO q0 2 [.ref q1, .ref q4, .int (nI kc), .int td, .ref q2, .ref q3], xO q1 0 [.ref a1, .int (nI n)], xA γ a1 12 f, xO q2 0 [.ref a2, .int tn189x], xA γ a2 12 tf190x, xQ γ q4 6 (fun t9 => some (kq t9)), xL γ o 1 (vp_updL h 0 (Int32.toInt64 (xPl n kc f (xGt tg) (xs (i + 1)))))]) (nb := 14) rfl rfl rfl rfl (by decide)] at hP hD
      have hP : xP γ ([xO q0 2 [.ref q1, .ref q4, .int (nI kc), .int td, .ref q2, .ref q3], xO q1 0 [.ref a1, .int (nI n)], xA γ a1 12 f, xO q2 0 [.ref a2, .int tn189x], xA γ a2 12 tf190x, xO q3 1 [.ref a3, .int wn], xA γ a3 12 wf, xQ γ q4 6 (fun t9 => some (kq t9)), xL γ o 1 (vp_updL h 0 (Int32.toInt64 (xPl n kc f (xGt tg) (xs (i + 1))))), xO m0 3 [.int th, .int (nI n), .int (nI kc), .int td, .ref m1, .ref m2, .ref m3, .ref m4], xA γ m1 12 f, xA γ m2 12 mt, xA γ m3 72 tg, xA γ m4 14 tp] ++ xKp γ kq ka kn (xGt tg)) H := hP
      have hD : va_D A ([xO q0 2 [.ref q1, .ref q4, .int (nI kc), .int td, .ref q2, .ref q3], xO q1 0 [.ref a1, .int (nI n)], xA γ a1 12 f, xO q2 0 [.ref a2, .int tn189x], xA γ a2 12 tf190x, xO q3 1 [.ref a3, .int wn], xA γ a3 12 wf, xQ γ q4 6 (fun t9 => some (kq t9)), xL γ o 1 (vp_updL h 0 (Int32.toInt64 (xPl n kc f (xGt tg) (xs (i + 1))))), xO m0 3 [.int th, .int (nI n), .int (nI kc), .int td, .ref m1, .ref m2, .ref m3, .ref m4], xA γ m1 12 f, xA γ m2 12 mt, xA γ m3 72 tg, xA γ m4 14 tp] ++ xKp γ kq ka kn (xGt tg)) := hD
      refine W.eq (g2 := F0 m 1326 ls [.int 0]) rfl ?_
      refine lv_istore (lv' := [(5, .int 0), (0, .ref b), (1, .ref q0), (2, .ref m0), (3, .ref o), (4, .int (nI i))]) hx hb dL_law_1326 hl (by decide) rfl (fun ls hl => ?_)
      refine lv_aload_n hx hb dL_law_1328 rfl (lv_at hl 3 rfl) ?_
      refine lv_aload_n hx hb dL_law_1329 rfl (lv_at hl 1 rfl) ?_
      refine lv_iload hx hb dL_law_1330 (lv_at hl 5 rfl) ?_
      refine lv_iconst (v := 1) hx hb dL_law_1332 (by decide) ?_
      refine lv_iadd hx hb dL_law_1333 ?_
      refine x_top (y := nI (i + 1)) (nI_add i 1) ?_
      refine x_sld hx hb hX hbl hbA hS (i + 1) rfl (by omega) (by omega) dL_law_1334 ?_
      refine xVM (q0 := 9) (ci := 3) (As := [.int (xs (i + 1))]) (rest := []) ⟨hx, hb, hml, hown, hts⟩ (c_X3_placeFor γ l m0 m1 m2 m3 m4 n kc th td f tg tp (xs (i + 1)) hn0 hn1 hk0 hkc h1 h2) (cwV 1 hts gL_law_X3_placeFor rfl rfl rfl hdv_X3_placeFor ⟨(Nat.le_of_ble_eq_true rfl), (Nat.le_of_ble_eq_true rfl)⟩) hK hP hD hS hA [9, 10, 12, 13] rfl rfl rfl rfl rfl hl.1 rfl (Nat.le_of_ble_eq_true rfl) dL_law_1335 ⟨(by omega : _ ≤ 601024), (by omega : _ ≤ 7293034)⟩ (fun r9 w9 H locs hw hP hD hS => ?_)
      obtain ⟨rfl, h191x, rfl⟩ := hw
      have hP : xP γ ([xO q0 2 [.ref q1, .ref q4, .int (nI kc), .int td, .ref q2, .ref q3], xO q1 0 [.ref a1, .int (nI n)], xA γ a1 12 f, xO q2 0 [.ref a2, .int tn189x], xA γ a2 12 tf190x, xO q3 1 [.ref a3, .int wn], xA γ a3 12 wf, xQ γ q4 6 (fun t9 => some (kq t9)), xL γ o 1 (vp_updL h 0 (Int32.toInt64 (xPl n kc f (xGt tg) (xs (i + 1))))), xO m0 3 [.int 0, .int (nI n), .int (nI kc), .int td, .ref m1, .ref m2, .ref m3, .ref m4], xA γ m1 12 f, xA γ m2 12 mt, xA γ m3 72 tg, xA γ m4 14 h191x] ++ xKp γ kq ka kn (xGt tg)) H := hP
      have hD : va_D A ([xO q0 2 [.ref q1, .ref q4, .int (nI kc), .int td, .ref q2, .ref q3], xO q1 0 [.ref a1, .int (nI n)], xA γ a1 12 f, xO q2 0 [.ref a2, .int tn189x], xA γ a2 12 tf190x, xO q3 1 [.ref a3, .int wn], xA γ a3 12 wf, xQ γ q4 6 (fun t9 => some (kq t9)), xL γ o 1 (vp_updL h 0 (Int32.toInt64 (xPl n kc f (xGt tg) (xs (i + 1))))), xO m0 3 [.int 0, .int (nI n), .int (nI kc), .int td, .ref m1, .ref m2, .ref m3, .ref m4], xA γ m1 12 f, xA γ m2 12 mt, xA γ m3 72 tg, xA γ m4 14 h191x] ++ xKp γ kq ka kn (xGt tg)) := hD
      refine W.eq (g2 := F0 m 1338 ls [.int (xPlM n kc f tg (xs (i + 1)))]) rfl ?_
      refine lv_istore (lv' := [(6, .int (xPlM n kc f tg (xs (i + 1)))), (5, .int 0), (0, .ref b), (1, .ref q0), (2, .ref m0), (3, .ref o), (4, .int (nI i))]) hx hb dL_law_1338 hl (by decide) rfl (fun ls hl => ?_)
      refine lv_aload_n hx hb dL_law_1340 rfl (lv_at hl 4 rfl) ?_
      refine xVR (q0 := 9) (ci := 3) (As := []) (rest := []) (stk := [.int 0]) ⟨hx, hb, hml, hown, hts⟩ (c_X3_thrown γ l m0 m1 m2 m3 m4 n kc 0 td) (cwV 0 hts gL_law_X3_thrown rfl rfl rfl hdv_X3_thrown ⟨(Nat.le_of_ble_eq_true rfl), (Nat.le_of_ble_eq_true rfl)⟩) hK hP [9] rfl rfl rfl rfl hl.1 rfl (Nat.le_of_ble_eq_true rfl) dL_law_1341 ⟨(by omega : _ ≤ 601024), (by omega : _ ≤ 7293034)⟩ rfl ?_
      refine lv_iload hx hb dL_law_1344 (lv_at hl 1 rfl) ?_
      refine lv_icmp_eq (tgt := 1351) hx hb dL_law_1346 (by decide) (fun _ => ?_) (fun c => absurd (rfl) c)
      refine lv_iload hx hb dL_law_1351 (lv_at hl 1 rfl) ?_
      refine lv_if_ne (tgt := 1368) hx hb dL_law_1353 (by decide) (fun c => absurd rfl c) (fun _ => ?_)
      refine lv_aload_n hx hb dL_law_1356 rfl (lv_at hl 5 rfl) ?_
      refine lv_iconst (v := 0) hx hb dL_law_1357 (by decide) ?_
      refine x_lald (f := vp_updL h 0 (Int32.toInt64 (xPl n kc f (xGt tg) (xs (i + 1))))) hx hb hK hP 8 rfl 0 rfl (by decide) (by decide) dL_law_1358 ?_
      refine x_topl (y := Int32.toInt64 (xPl n kc f (xGt tg) (xs (i + 1)))) rfl ?_
      refine lv_iload hx hb dL_law_1359 (lv_at hl 0 rfl) ?_
      refine lv_i2l (v := Int32.toInt64 (xPlM n kc f tg (xs (i + 1)))) hx hb dL_law_1361 rfl ?_
      refine x_lcmp (by rw [xPl_eq hn0 hn1 hI.f hI.g (x999 h1 h2)]) hx hb dL_law_1362 ?_
      refine lv_if_eq (tgt := 1368) hx hb dL_law_1363 (by decide) (fun _ => ?_) (fun c => absurd rfl c)
      refine lv_goto (tgt := 1426) hx hb dL_law_1368 (by decide) ?_
      exact K n kc td 0 tn189x wn f tf190x wf mt tg h191x (vp_updL h 0 (Int32.toInt64 (xPl n kc f (xGt tg) (xs (i + 1))))) kn _ _ d0 _ _ ls hd0 (hI.same hj) (hkn) hP hD hS (by omega) (by omega) (lv_sub hl [2, 3, 4, 5, 6] rfl)
    · have hk9 : kc = 0 := by omega
      refine lv_aload_n hx hb dL_law_1315 rfl (lv_at hl 1 rfl) ?_
      refine lv_aload_n hx hb dL_law_1316 rfl (lv_at hl 0 rfl) ?_
      refine lv_iload hx hb dL_law_1317 (lv_at hl 4 rfl) ?_
      refine lv_iconst (v := 1) hx hb dL_law_1319 (by decide) ?_
      refine lv_iadd hx hb dL_law_1320 ?_
      refine x_top (y := nI (i + 1)) (nI_add i 1) ?_
      refine x_sld hx hb hX hbl hbA hS (i + 1) rfl (by omega) (by omega) dL_law_1321 ?_
      refine lv_aload_n hx hb dL_law_1322 rfl (lv_at hl 3 rfl) ?_
      refine xSME (Ex := fun _ => True) (As := [.ref q0, .int (xs (i + 1)), .ref o]) (rest := []) ⟨hx, hb, hml, hown, hts⟩ (c_L_placeFor γ l q0 q1 q2 q3 q4 kc td a1 n f a2 tn tf kq ka kn (xGt tg) (xs (i + 1)) hn0 hn1 hkc hkn h1 h2 o h) (vx_cwSW 3 hts gL_law_L_placeFor rfl rfl rfl hds_L_placeFor ⟨(Nat.le_of_ble_eq_true rfl), (Nat.le_of_ble_eq_true rfl)⟩) (fun _ _ _ _ h => h) (fun _ _ _ => trivial) hK hP hD hS hA ([0, 1, 2, 3, 4, 7, 8] ++ List.range' 14 12) rfl (xsuf_M (base := [xO q0 2 [.ref q1, .ref q4, .int (nI kc), .int td, .ref q2, .ref q3], xO q1 0 [.ref a1, .int (nI n)], xA γ a1 12 f, xO q2 0 [.ref a2, .int tn], xA γ a2 12 tf, xO q3 1 [.ref a3, .int wn], xA γ a3 12 wf, xQ γ q4 6 (fun t9 => some (kq t9)), xL γ o 1 h, xO m0 3 [.int th, .int (nI n), .int (nI kc), .int td, .ref m1, .ref m2, .ref m3, .ref m4], xA γ m1 12 f, xA γ m2 12 mt, xA γ m3 72 tg, xA γ m4 14 tp]) rfl rfl rfl (by decide)) rfl hl.1 rfl (Nat.le_of_ble_eq_true rfl) dL_law_1323 ⟨(by omega : _ ≤ 601024), (by omega : _ ≤ 7293034)⟩ (fun r9 w9 H locs hw hP hD hS => ?_)
      obtain ⟨rfl, tn192x, tf193x, rfl⟩ := hw
      rw [xup_suf2 (base := [xO q0 2 [.ref q1, .ref q4, .int (nI kc), .int td, .ref q2, .ref q3], xO q1 0 [.ref a1, .int (nI n)], xA γ a1 12 f, xO q2 0 [.ref a2, .int tn], xA γ a2 12 tf, xO q3 1 [.ref a3, .int wn], xA γ a3 12 wf, xQ γ q4 6 (fun t9 => some (kq t9)), xL γ o 1 h, xO m0 3 [.int th, .int (nI n), .int (nI kc), .int td, .ref m1, .ref m2, .ref m3, .ref m4], xA γ m1 12 f, xA γ m2 12 mt, xA γ m3 72 tg, xA γ m4 14 tp]) (K := xKp γ kq ka kn (xGt tg)) (K' := xKp γ kq ka kn (xGt tg)) (is1 := [0, 1, 2, 3, 4, 7, 8]) (w1 := [xO q0 2 [.ref q1, .ref q4, .int (nI kc), .int td, .ref q2, .ref q3], xO q1 0 [.ref a1, .int (nI n)], xA γ a1 12 f, xO q2 0 [.ref a2, .int tn192x], xA γ a2 12 tf193x, xQ γ q4 6 (fun t9 => some (kq t9)), xL γ o 1 (vp_updL h 0 (Int32.toInt64 (xPl n kc f (xGt tg) (xs (i + 1)))))]) (nb := 14) rfl rfl rfl rfl (by decide)] at hP hD
      have hP : xP γ ([xO q0 2 [.ref q1, .ref q4, .int (nI kc), .int td, .ref q2, .ref q3], xO q1 0 [.ref a1, .int (nI n)], xA γ a1 12 f, xO q2 0 [.ref a2, .int tn192x], xA γ a2 12 tf193x, xO q3 1 [.ref a3, .int wn], xA γ a3 12 wf, xQ γ q4 6 (fun t9 => some (kq t9)), xL γ o 1 (vp_updL h 0 (Int32.toInt64 (xPl n kc f (xGt tg) (xs (i + 1))))), xO m0 3 [.int th, .int (nI n), .int (nI kc), .int td, .ref m1, .ref m2, .ref m3, .ref m4], xA γ m1 12 f, xA γ m2 12 mt, xA γ m3 72 tg, xA γ m4 14 tp] ++ xKp γ kq ka kn (xGt tg)) H := hP
      have hD : va_D A ([xO q0 2 [.ref q1, .ref q4, .int (nI kc), .int td, .ref q2, .ref q3], xO q1 0 [.ref a1, .int (nI n)], xA γ a1 12 f, xO q2 0 [.ref a2, .int tn192x], xA γ a2 12 tf193x, xO q3 1 [.ref a3, .int wn], xA γ a3 12 wf, xQ γ q4 6 (fun t9 => some (kq t9)), xL γ o 1 (vp_updL h 0 (Int32.toInt64 (xPl n kc f (xGt tg) (xs (i + 1))))), xO m0 3 [.int th, .int (nI n), .int (nI kc), .int td, .ref m1, .ref m2, .ref m3, .ref m4], xA γ m1 12 f, xA γ m2 12 mt, xA γ m3 72 tg, xA γ m4 14 tp] ++ xKp γ kq ka kn (xGt tg)) := hD
      refine W.eq (g2 := F0 m 1326 ls [.int 0]) rfl ?_
      refine lv_istore (lv' := [(5, .int 0), (0, .ref b), (1, .ref q0), (2, .ref m0), (3, .ref o), (4, .int (nI i))]) hx hb dL_law_1326 hl (by decide) rfl (fun ls hl => ?_)
      refine lv_aload_n hx hb dL_law_1328 rfl (lv_at hl 3 rfl) ?_
      refine lv_aload_n hx hb dL_law_1329 rfl (lv_at hl 1 rfl) ?_
      refine lv_iload hx hb dL_law_1330 (lv_at hl 5 rfl) ?_
      refine lv_iconst (v := 1) hx hb dL_law_1332 (by decide) ?_
      refine lv_iadd hx hb dL_law_1333 ?_
      refine x_top (y := nI (i + 1)) (nI_add i 1) ?_
      refine x_sld hx hb hX hbl hbA hS (i + 1) rfl (by omega) (by omega) dL_law_1334 ?_
      refine xVM (q0 := 9) (ci := 3) (As := [.int (xs (i + 1))]) (rest := []) ⟨hx, hb, hml, hown, hts⟩ (c_X3_placeFor0 γ l m0 m1 m2 m3 m4 n kc th td f tg tp (xs (i + 1)) hn0 hn1 hk9 h1 h2) (cwV 1 hts gL_law_X3_placeFor rfl rfl rfl hdv_X3_placeFor ⟨(Nat.le_of_ble_eq_true rfl), (Nat.le_of_ble_eq_true rfl)⟩) hK hP hD hS hA [9, 10, 12, 13] rfl rfl rfl rfl rfl hl.1 rfl (Nat.le_of_ble_eq_true rfl) dL_law_1335 ⟨(by omega : _ ≤ 601024), (by omega : _ ≤ 7293034)⟩ (fun r9 w9 H locs hw hP hD hS => ?_)
      obtain ⟨rfl, rfl⟩ := hw
      have hP : xP γ ([xO q0 2 [.ref q1, .ref q4, .int (nI kc), .int td, .ref q2, .ref q3], xO q1 0 [.ref a1, .int (nI n)], xA γ a1 12 f, xO q2 0 [.ref a2, .int tn192x], xA γ a2 12 tf193x, xO q3 1 [.ref a3, .int wn], xA γ a3 12 wf, xQ γ q4 6 (fun t9 => some (kq t9)), xL γ o 1 (vp_updL h 0 (Int32.toInt64 (xPl n kc f (xGt tg) (xs (i + 1))))), xO m0 3 [.int 0, .int (nI n), .int (nI kc), .int td, .ref m1, .ref m2, .ref m3, .ref m4], xA γ m1 12 f, xA γ m2 12 mt, xA γ m3 72 tg, xA γ m4 14 tp] ++ xKp γ kq ka kn (xGt tg)) H := hP
      have hD : va_D A ([xO q0 2 [.ref q1, .ref q4, .int (nI kc), .int td, .ref q2, .ref q3], xO q1 0 [.ref a1, .int (nI n)], xA γ a1 12 f, xO q2 0 [.ref a2, .int tn192x], xA γ a2 12 tf193x, xO q3 1 [.ref a3, .int wn], xA γ a3 12 wf, xQ γ q4 6 (fun t9 => some (kq t9)), xL γ o 1 (vp_updL h 0 (Int32.toInt64 (xPl n kc f (xGt tg) (xs (i + 1))))), xO m0 3 [.int 0, .int (nI n), .int (nI kc), .int td, .ref m1, .ref m2, .ref m3, .ref m4], xA γ m1 12 f, xA γ m2 12 mt, xA γ m3 72 tg, xA γ m4 14 tp] ++ xKp γ kq ka kn (xGt tg)) := hD
      refine W.eq (g2 := F0 m 1338 ls [.int (xPlM n kc f tg (xs (i + 1)))]) rfl ?_
      refine lv_istore (lv' := [(6, .int (xPlM n kc f tg (xs (i + 1)))), (5, .int 0), (0, .ref b), (1, .ref q0), (2, .ref m0), (3, .ref o), (4, .int (nI i))]) hx hb dL_law_1338 hl (by decide) rfl (fun ls hl => ?_)
      refine lv_aload_n hx hb dL_law_1340 rfl (lv_at hl 4 rfl) ?_
      refine xVR (q0 := 9) (ci := 3) (As := []) (rest := []) (stk := [.int 0]) ⟨hx, hb, hml, hown, hts⟩ (c_X3_thrown γ l m0 m1 m2 m3 m4 n kc 0 td) (cwV 0 hts gL_law_X3_thrown rfl rfl rfl hdv_X3_thrown ⟨(Nat.le_of_ble_eq_true rfl), (Nat.le_of_ble_eq_true rfl)⟩) hK hP [9] rfl rfl rfl rfl hl.1 rfl (Nat.le_of_ble_eq_true rfl) dL_law_1341 ⟨(by omega : _ ≤ 601024), (by omega : _ ≤ 7293034)⟩ rfl ?_
      refine lv_iload hx hb dL_law_1344 (lv_at hl 1 rfl) ?_
      refine lv_icmp_eq (tgt := 1351) hx hb dL_law_1346 (by decide) (fun _ => ?_) (fun c => absurd (rfl) c)
      refine lv_iload hx hb dL_law_1351 (lv_at hl 1 rfl) ?_
      refine lv_if_ne (tgt := 1368) hx hb dL_law_1353 (by decide) (fun c => absurd rfl c) (fun _ => ?_)
      refine lv_aload_n hx hb dL_law_1356 rfl (lv_at hl 5 rfl) ?_
      refine lv_iconst (v := 0) hx hb dL_law_1357 (by decide) ?_
      refine x_lald (f := vp_updL h 0 (Int32.toInt64 (xPl n kc f (xGt tg) (xs (i + 1))))) hx hb hK hP 8 rfl 0 rfl (by decide) (by decide) dL_law_1358 ?_
      refine x_topl (y := Int32.toInt64 (xPl n kc f (xGt tg) (xs (i + 1)))) rfl ?_
      refine lv_iload hx hb dL_law_1359 (lv_at hl 0 rfl) ?_
      refine lv_i2l (v := Int32.toInt64 (xPlM n kc f tg (xs (i + 1)))) hx hb dL_law_1361 rfl ?_
      refine x_lcmp (by rw [xPl_eq hn0 hn1 hI.f hI.g (x999 h1 h2)]) hx hb dL_law_1362 ?_
      refine lv_if_eq (tgt := 1368) hx hb dL_law_1363 (by decide) (fun _ => ?_) (fun c => absurd rfl c)
      refine lv_goto (tgt := 1426) hx hb dL_law_1368 (by decide) ?_
      exact K n kc td 0 tn192x wn f tf193x wf mt tg tp (vp_updL h 0 (Int32.toInt64 (xPl n kc f (xGt tg) (xs (i + 1))))) kn _ _ d0 _ _ ls hd0 (hI.same hj) (hkn) hP hD hS (by omega) (by omega) (lv_sub hl [2, 3, 4, 5, 6] rfl)
  · have hxb : xInB (xs (i + 1)) (-999) 999 = false := by simpa using hp
    refine lv_aload_n hx hb dL_law_1315 rfl (lv_at hl 1 rfl) ?_
    refine lv_aload_n hx hb dL_law_1316 rfl (lv_at hl 0 rfl) ?_
    refine lv_iload hx hb dL_law_1317 (lv_at hl 4 rfl) ?_
    refine lv_iconst (v := 1) hx hb dL_law_1319 (by decide) ?_
    refine lv_iadd hx hb dL_law_1320 ?_
    refine x_top (y := nI (i + 1)) (nI_add i 1) ?_
    refine x_sld hx hb hX hbl hbA hS (i + 1) rfl (by omega) (by omega) dL_law_1321 ?_
    refine lv_aload_n hx hb dL_law_1322 rfl (lv_at hl 3 rfl) ?_
    refine xSME (Ex := xW1 sa) (As := [.ref q0, .int (xs (i + 1)), .ref o]) (rest := []) ⟨hx, hb, hml, hown, hts⟩ (c_L_placeFor_x γ l hlt sa q0 q1 q2 q3 q4 kc td (xs (i + 1)) hxb o h) (vx_cwSW 3 hts gL_law_L_placeFor rfl rfl rfl hds_L_placeFor ⟨(Nat.le_of_ble_eq_true rfl), (Nat.le_of_ble_eq_true rfl)⟩) xW1_blind (fun U hU hW => ⟨xE.at hW hU hEv hEs hEh hS, va_Nc.moved hW.alike hEn.1, va_Nc.moved hW.alike hEn.2⟩) hK hP hD hS hA [0, 8] rfl rfl rfl hl.1 rfl (Nat.le_of_ble_eq_true rfl) dL_law_1323 ⟨(by omega : _ ≤ 601024), (by omega : _ ≤ 7293034)⟩ (fun r9 w9 H locs hw hP hD hS => ?_)
    obtain ⟨rfl, rfl⟩ := hw
    have hP : xP γ ([xO q0 2 [.ref q1, .ref q4, .int (nI kc), .int td, .ref q2, .ref q3], xO q1 0 [.ref a1, .int (nI n)], xA γ a1 12 f, xO q2 0 [.ref a2, .int tn], xA γ a2 12 tf, xO q3 1 [.ref a3, .int wn], xA γ a3 12 wf, xQ γ q4 6 (fun t9 => some (kq t9)), xL γ o 1 h, xO m0 3 [.int th, .int (nI n), .int (nI kc), .int td, .ref m1, .ref m2, .ref m3, .ref m4], xA γ m1 12 f, xA γ m2 12 mt, xA γ m3 72 tg, xA γ m4 14 tp] ++ xKp γ kq ka kn (xGt tg)) H := hP
    have hD : va_D A ([xO q0 2 [.ref q1, .ref q4, .int (nI kc), .int td, .ref q2, .ref q3], xO q1 0 [.ref a1, .int (nI n)], xA γ a1 12 f, xO q2 0 [.ref a2, .int tn], xA γ a2 12 tf, xO q3 1 [.ref a3, .int wn], xA γ a3 12 wf, xQ γ q4 6 (fun t9 => some (kq t9)), xL γ o 1 h, xO m0 3 [.int th, .int (nI n), .int (nI kc), .int td, .ref m1, .ref m2, .ref m3, .ref m4], xA γ m1 12 f, xA γ m2 12 mt, xA γ m3 72 tg, xA γ m4 14 tp] ++ xKp γ kq ka kn (xGt tg)) := hD
    refine W.eq (g2 := F0 m 1326 ls [.int 1]) rfl ?_
    refine lv_istore (lv' := [(5, .int 1), (0, .ref b), (1, .ref q0), (2, .ref m0), (3, .ref o), (4, .int (nI i))]) hx hb dL_law_1326 hl (by decide) rfl (fun ls hl => ?_)
    refine lv_aload_n hx hb dL_law_1328 rfl (lv_at hl 3 rfl) ?_
    refine lv_aload_n hx hb dL_law_1329 rfl (lv_at hl 1 rfl) ?_
    refine lv_iload hx hb dL_law_1330 (lv_at hl 5 rfl) ?_
    refine lv_iconst (v := 1) hx hb dL_law_1332 (by decide) ?_
    refine lv_iadd hx hb dL_law_1333 ?_
    refine x_top (y := nI (i + 1)) (nI_add i 1) ?_
    refine x_sld hx hb hX hbl hbA hS (i + 1) rfl (by omega) (by omega) dL_law_1334 ?_
    refine xVM (q0 := 9) (ci := 3) (As := [.int (xs (i + 1))]) (rest := []) ⟨hx, hb, hml, hown, hts⟩ (c_X3_placeFor_x γ l m0 m1 m2 m3 m4 n kc th td (xs (i + 1)) hxb) (cwV 1 hts gL_law_X3_placeFor rfl rfl rfl hdv_X3_placeFor ⟨(Nat.le_of_ble_eq_true rfl), (Nat.le_of_ble_eq_true rfl)⟩) hK hP hD hS hA [9] rfl rfl rfl rfl rfl hl.1 rfl (Nat.le_of_ble_eq_true rfl) dL_law_1335 ⟨(by omega : _ ≤ 601024), (by omega : _ ≤ 7293034)⟩ (fun r9 w9 H locs hw hP hD hS => ?_)
    obtain ⟨rfl, rfl⟩ := hw
    have hP : xP γ ([xO q0 2 [.ref q1, .ref q4, .int (nI kc), .int td, .ref q2, .ref q3], xO q1 0 [.ref a1, .int (nI n)], xA γ a1 12 f, xO q2 0 [.ref a2, .int tn], xA γ a2 12 tf, xO q3 1 [.ref a3, .int wn], xA γ a3 12 wf, xQ γ q4 6 (fun t9 => some (kq t9)), xL γ o 1 h, xO m0 3 [.int 1, .int (nI n), .int (nI kc), .int td, .ref m1, .ref m2, .ref m3, .ref m4], xA γ m1 12 f, xA γ m2 12 mt, xA γ m3 72 tg, xA γ m4 14 tp] ++ xKp γ kq ka kn (xGt tg)) H := hP
    have hD : va_D A ([xO q0 2 [.ref q1, .ref q4, .int (nI kc), .int td, .ref q2, .ref q3], xO q1 0 [.ref a1, .int (nI n)], xA γ a1 12 f, xO q2 0 [.ref a2, .int tn], xA γ a2 12 tf, xO q3 1 [.ref a3, .int wn], xA γ a3 12 wf, xQ γ q4 6 (fun t9 => some (kq t9)), xL γ o 1 h, xO m0 3 [.int 1, .int (nI n), .int (nI kc), .int td, .ref m1, .ref m2, .ref m3, .ref m4], xA γ m1 12 f, xA γ m2 12 mt, xA γ m3 72 tg, xA γ m4 14 tp] ++ xKp γ kq ka kn (xGt tg)) := hD
    refine W.eq (g2 := F0 m 1338 ls [.int 0]) rfl ?_
    refine lv_istore (lv' := [(6, .int 0), (5, .int 1), (0, .ref b), (1, .ref q0), (2, .ref m0), (3, .ref o), (4, .int (nI i))]) hx hb dL_law_1338 hl (by decide) rfl (fun ls hl => ?_)
    refine lv_aload_n hx hb dL_law_1340 rfl (lv_at hl 4 rfl) ?_
    refine xVR (q0 := 9) (ci := 3) (As := []) (rest := []) (stk := [.int 1]) ⟨hx, hb, hml, hown, hts⟩ (c_X3_thrown γ l m0 m1 m2 m3 m4 n kc 1 td) (cwV 0 hts gL_law_X3_thrown rfl rfl rfl hdv_X3_thrown ⟨(Nat.le_of_ble_eq_true rfl), (Nat.le_of_ble_eq_true rfl)⟩) hK hP [9] rfl rfl rfl rfl hl.1 rfl (Nat.le_of_ble_eq_true rfl) dL_law_1341 ⟨(by omega : _ ≤ 601024), (by omega : _ ≤ 7293034)⟩ rfl ?_
    refine lv_iload hx hb dL_law_1344 (lv_at hl 1 rfl) ?_
    refine lv_icmp_eq (tgt := 1351) hx hb dL_law_1346 (by decide) (fun _ => ?_) (fun c => absurd (rfl) c)
    refine lv_iload hx hb dL_law_1351 (lv_at hl 1 rfl) ?_
    refine lv_if_ne (tgt := 1368) hx hb dL_law_1353 (by decide) (fun _ => ?_) (fun c => absurd c (by decide))
    refine lv_goto (tgt := 1426) hx hb dL_law_1368 (by decide) ?_
    exact K n kc td 1 tn wn f tf wf mt tg tp h kn _ _ d0 _ _ ls hd0 (hI.same hj) (hkn) hP hD hS (by omega) (by omega) (lv_sub hl [2, 3, 4, 5, 6] rfl)

theorem hdv_X2_digest : yX2_digest.cls = RX2 ∧ yX2_digest.cls ≠ "java/lang/invoke/MethodHandle" ∧ yX2_digest.cls ≠ "java/lang/invoke/VarHandle" ∧ (parseMethodDescriptor yX2_digest.desc).map (fun d => d.parameters.length) = some 0 := by decide +kernel
theorem hdv_X3_digest : yX3_digest.cls = RX3 ∧ yX3_digest.cls ≠ "java/lang/invoke/MethodHandle" ∧ yX3_digest.cls ≠ "java/lang/invoke/VarHandle" ∧ (parseMethodDescriptor yX3_digest.desc).map (fun d => d.parameters.length) = some 0 := by decide +kernel
set_option maxHeartbeats 4000000 in
set_option maxRecDepth 100000 in
theorem xcase_digest {p : Program} {e : Env} {s : State} {m : MethodId} {below : List Frame} {meth : Method} {c : Code} (l : Launch) (hlt : l.stackTraces = false) {b L : Nat} {xs : Nat → Int32} (hL : L ≤ 1536) (C0 : lw_At p s m meth c b L xs) {γ : xG} (hK : xK γ s) (sa : Nat → Nat) (hEv : xEv s) (hEs : xEs sa s) (hEn : xEn s) {A : Nat → Prop} (hA : ∀ q : Nat, s.heap.size ≤ q → A q) (hbA : ¬ A b) (hEh : xEh A s s.heap) (q0 q1 a1 q2 a2 q3 a3 q4 o m0 m1 m2 m3 m4 : Nat) (kq ka : Nat → Nat) (j i : Nat) (hj : j < 512) (hi : i + 2 < L) (K : xK9 p l e s m below meth c b γ A q0 q1 a1 q2 a2 q3 a3 q4 o m0 m1 m2 m3 m4 kq ka (j + 1) i) (n kc : Nat) (td th tn wn : Int32) (f tf wf mt tg tp : xRow) (h : Nat → Int64) (kn : Nat → Int32) (H : Heap) (locs : List Loc) (d0 : Drawn) (cells slots : Nat) (ls : Array Slot) (hd0 : s.drawn.sameBut d0 lw_cs) (hI : xInv j n kc f tg) (hkn : ∀ t, t < kc → kn t = nI n) (hP : xP γ (LW γ q0 q1 a1 q2 a2 q3 a3 q4 o m0 m1 m2 m3 m4 kq ka n kc td th tn wn f tf wf mt tg tp h kn) H) (hD : va_D A (LW γ q0 q1 a1 q2 a2 q3 a3 q4 o m0 m1 m2 m3 m4 kq ka n kc td th tn wn f tf wf mt tg tp h kn)) (hS : va_S A s.heap H locs) (hc : cells ≤ 26 + j) (hs : slots ≤ 257 + 17 * j) (hl : lv_has ls 9 [(0, .ref b), (1, .ref q0), (2, .ref m0), (3, .ref o), (4, .int (nI i))]) : W p l e room_1 (s.setDrawn d0) m #[Value.ref b] below meth c H locs cells slots (lw_Z below #[Value.ref b] s) (F0 m 1412 ls []) := by
  obtain ⟨hx, hb, hr, hml, hown, hts0, hX, hbl, hlocks, hgv⟩ := id C0
  have hts : ∀ w ∈ wsL_law, w.before #[Value.ref b] (s.setDrawn d0) = true := fun w h => dr_words hts0 d0 w (wsL_law_in w h)
  have hown : s.vm.findClass RL = some m.cls := hown
  have hX : va_X b L xs (s.setDrawn d0) s.heap := va_X.moved (u := s) (U := s.setDrawn d0) (Vm.Alike.refl s.vm) hX
  have hK : xK γ (s.setDrawn d0) := va_K.moved (u := s) (U := s.setDrawn d0) (Vm.Alike.refl s.vm) hK
  have hn0 := hI.1
  have hn1 := hI.2.1
  have hkc := hI.2.2.1
  have hP : xP γ ([xO q0 2 [.ref q1, .ref q4, .int (nI kc), .int td, .ref q2, .ref q3], xO q1 0 [.ref a1, .int (nI n)], xA γ a1 12 f, xO q2 0 [.ref a2, .int tn], xA γ a2 12 tf, xO q3 1 [.ref a3, .int wn], xA γ a3 12 wf, xQ γ q4 6 (fun t9 => some (kq t9)), xL γ o 1 h, xO m0 3 [.int th, .int (nI n), .int (nI kc), .int td, .ref m1, .ref m2, .ref m3, .ref m4], xA γ m1 12 f, xA γ m2 12 mt, xA γ m3 72 tg, xA γ m4 14 tp] ++ xKp γ kq ka kn (xGt tg)) H := hP
  have hD : va_D A ([xO q0 2 [.ref q1, .ref q4, .int (nI kc), .int td, .ref q2, .ref q3], xO q1 0 [.ref a1, .int (nI n)], xA γ a1 12 f, xO q2 0 [.ref a2, .int tn], xA γ a2 12 tf, xO q3 1 [.ref a3, .int wn], xA γ a3 12 wf, xQ γ q4 6 (fun t9 => some (kq t9)), xL γ o 1 h, xO m0 3 [.int th, .int (nI n), .int (nI kc), .int td, .ref m1, .ref m2, .ref m3, .ref m4], xA γ m1 12 f, xA γ m2 12 mt, xA γ m3 72 tg, xA γ m4 14 tp] ++ xKp γ kq ka kn (xGt tg)) := hD
  refine lv_aload_n hx hb dL_law_1412 rfl (lv_at hl 1 rfl) ?_
  refine xVM (q0 := 0) (ci := 2) (As := []) (rest := []) ⟨hx, hb, hml, hown, hts⟩ (c_X2_digest γ l q0 q1 q2 q3 q4 kc td a1 n f a2 tn tf a3 wn wf kq ka kn (xGt tg) hn0 hn1 hkc hkn) (cwV 0 hts gL_law_X2_digest rfl rfl rfl hdv_X2_digest ⟨(Nat.le_of_ble_eq_true rfl), (Nat.le_of_ble_eq_true rfl)⟩) hK hP hD hS hA ([0, 1, 2, 3, 4, 5, 6, 7] ++ List.range' 14 12) rfl (xsuf_M (base := [xO q0 2 [.ref q1, .ref q4, .int (nI kc), .int td, .ref q2, .ref q3], xO q1 0 [.ref a1, .int (nI n)], xA γ a1 12 f, xO q2 0 [.ref a2, .int tn], xA γ a2 12 tf, xO q3 1 [.ref a3, .int wn], xA γ a3 12 wf, xQ γ q4 6 (fun t9 => some (kq t9)), xL γ o 1 h, xO m0 3 [.int th, .int (nI n), .int (nI kc), .int td, .ref m1, .ref m2, .ref m3, .ref m4], xA γ m1 12 f, xA γ m2 12 mt, xA γ m3 72 tg, xA γ m4 14 tp]) rfl rfl rfl (by decide)) rfl rfl rfl hl.1 rfl (Nat.le_of_ble_eq_true rfl) dL_law_1413 ⟨(by omega : _ ≤ 601024), (by omega : _ ≤ 7293034)⟩ (fun r9 w9 H locs hw hP hD hS => ?_)
  obtain ⟨rfl, tn194x, tf195x, wn196x, wf197x, rfl⟩ := hw
  rw [xup_suf (base := [xO q0 2 [.ref q1, .ref q4, .int (nI kc), .int td, .ref q2, .ref q3], xO q1 0 [.ref a1, .int (nI n)], xA γ a1 12 f, xO q2 0 [.ref a2, .int tn], xA γ a2 12 tf, xO q3 1 [.ref a3, .int wn], xA γ a3 12 wf, xQ γ q4 6 (fun t9 => some (kq t9)), xL γ o 1 h, xO m0 3 [.int th, .int (nI n), .int (nI kc), .int td, .ref m1, .ref m2, .ref m3, .ref m4], xA γ m1 12 f, xA γ m2 12 mt, xA γ m3 72 tg, xA γ m4 14 tp]) (K := xKp γ kq ka kn (xGt tg)) (is1 := [0, 1, 2, 3, 4, 5, 6, 7]) (w1 := [xO q0 2 [.ref q1, .ref q4, .int (nI kc), .int td, .ref q2, .ref q3], xO q1 0 [.ref a1, .int (nI n)], xA γ a1 12 f, xO q2 0 [.ref a2, .int tn194x], xA γ a2 12 tf195x, xO q3 1 [.ref a3, .int wn196x], xA γ a3 12 wf197x, xQ γ q4 6 (fun t9 => some (kq t9))]) (nb := 14) rfl rfl rfl (by decide)] at hP hD
  have hP : xP γ ([xO q0 2 [.ref q1, .ref q4, .int (nI kc), .int td, .ref q2, .ref q3], xO q1 0 [.ref a1, .int (nI n)], xA γ a1 12 f, xO q2 0 [.ref a2, .int tn194x], xA γ a2 12 tf195x, xO q3 1 [.ref a3, .int wn196x], xA γ a3 12 wf197x, xQ γ q4 6 (fun t9 => some (kq t9)), xL γ o 1 h, xO m0 3 [.int th, .int (nI n), .int (nI kc), .int td, .ref m1, .ref m2, .ref m3, .ref m4], xA γ m1 12 f, xA γ m2 12 mt, xA γ m3 72 tg, xA γ m4 14 tp] ++ xKp γ kq ka kn (xGt tg)) H := hP
  have hD : va_D A ([xO q0 2 [.ref q1, .ref q4, .int (nI kc), .int td, .ref q2, .ref q3], xO q1 0 [.ref a1, .int (nI n)], xA γ a1 12 f, xO q2 0 [.ref a2, .int tn194x], xA γ a2 12 tf195x, xO q3 1 [.ref a3, .int wn196x], xA γ a3 12 wf197x, xQ γ q4 6 (fun t9 => some (kq t9)), xL γ o 1 h, xO m0 3 [.int th, .int (nI n), .int (nI kc), .int td, .ref m1, .ref m2, .ref m3, .ref m4], xA γ m1 12 f, xA γ m2 12 mt, xA γ m3 72 tg, xA γ m4 14 tp] ++ xKp γ kq ka kn (xGt tg)) := hD
  refine W.eq (g2 := F0 m 1416 ls [.long (xDg n kc f (xGt tg) td)]) rfl ?_
  refine lv_aload_n hx hb dL_law_1416 rfl (lv_at hl 2 rfl) ?_
  refine xVM (q0 := 9) (ci := 3) (As := []) (rest := [.long (xDg n kc f (xGt tg) td)]) ⟨hx, hb, hml, hown, hts⟩ (c_X3_digest γ l m0 m1 m2 m3 m4 n kc th td f mt tg tp hn0 hn1 hkc) (cwV 0 hts gL_law_X3_digest rfl rfl rfl hdv_X3_digest ⟨(Nat.le_of_ble_eq_true rfl), (Nat.le_of_ble_eq_true rfl)⟩) hK hP hD hS hA [9, 10, 11, 12, 13] rfl rfl rfl rfl rfl hl.1 rfl (Nat.le_of_ble_eq_true rfl) dL_law_1417 ⟨(by omega : _ ≤ 601024), (by omega : _ ≤ 7293034)⟩ (fun r9 w9 H locs hw hP hD hS => ?_)
  obtain ⟨rfl, h198x, h199x, rfl⟩ := hw
  have hP : xP γ ([xO q0 2 [.ref q1, .ref q4, .int (nI kc), .int td, .ref q2, .ref q3], xO q1 0 [.ref a1, .int (nI n)], xA γ a1 12 f, xO q2 0 [.ref a2, .int tn194x], xA γ a2 12 tf195x, xO q3 1 [.ref a3, .int wn196x], xA γ a3 12 wf197x, xQ γ q4 6 (fun t9 => some (kq t9)), xL γ o 1 h, xO m0 3 [.int 0, .int (nI n), .int (nI kc), .int td, .ref m1, .ref m2, .ref m3, .ref m4], xA γ m1 12 f, xA γ m2 12 h198x, xA γ m3 72 tg, xA γ m4 14 h199x] ++ xKp γ kq ka kn (xGt tg)) H := hP
  have hD : va_D A ([xO q0 2 [.ref q1, .ref q4, .int (nI kc), .int td, .ref q2, .ref q3], xO q1 0 [.ref a1, .int (nI n)], xA γ a1 12 f, xO q2 0 [.ref a2, .int tn194x], xA γ a2 12 tf195x, xO q3 1 [.ref a3, .int wn196x], xA γ a3 12 wf197x, xQ γ q4 6 (fun t9 => some (kq t9)), xL γ o 1 h, xO m0 3 [.int 0, .int (nI n), .int (nI kc), .int td, .ref m1, .ref m2, .ref m3, .ref m4], xA γ m1 12 f, xA γ m2 12 h198x, xA γ m3 72 tg, xA γ m4 14 h199x] ++ xKp γ kq ka kn (xGt tg)) := hD
  refine W.eq (g2 := F0 m 1420 ls [.long (xDgM n kc f tg td), .long (xDg n kc f (xGt tg) td)]) rfl ?_
  refine x_lcmp ((xDg_eq hn0 hn1 hkc hI.f hI.g).symm) hx hb dL_law_1420 ?_
  refine lv_if_eq (tgt := 1426) hx hb dL_law_1421 (by decide) (fun _ => ?_) (fun c => absurd rfl c)
  exact K n kc td 0 tn194x wn196x f tf195x wf197x h198x tg h199x h kn _ _ d0 _ _ ls hd0 (hI.same hj) (hkn) hP hD hS (by omega) (by omega) (lv_sub hl [0, 1, 2, 3, 4] rfl)

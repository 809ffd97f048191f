/-! the law: meanNumber (rows laid by wip/whole/spec_law3.py) -/
theorem xnan {x : UInt64} (h : isNaN64 x = true) : FP.Core.val64 x = .nan := by
  have h1 := isNaN64_iff.mp h
  apply Classical.byContradiction
  intro h2
  have h3 := (FP.Core.ne_nan x).mp h2
  have e : x.toNat &&& 0x7fffffffffffffff = x.toNat % 2 ^ 63 := Nat.and_two_pow_sub_one_eq_mod x.toNat 63
  rw [e] at h1
  omega
theorem xcmp_nan {x y : UInt64} (h : FP.Core.val64 x = .nan) : ¬ Op.cmpValue (FP.dcmp x y) CmpOp.l = 0 := by
  have h1 : FP.dcmp x y = none := (FP.Core.dcmp_none x y).mpr (Or.inl h)
  rw [h1]
  decide
theorem xmean {x y v : UInt64} (h1 : alike64 x v = true) (h2 : alike64 y v = true) : Op.cmpValue (FP.dcmp x y) CmpOp.l = 0 ∨ (¬ Op.cmpValue (FP.dcmp x x) CmpOp.l = 0 ∧ ¬ Op.cmpValue (FP.dcmp y y) CmpOp.l = 0) := by
  unfold alike64 at h1 h2
  by_cases hn : FP.Core.val64 v = .nan
  · right
    have key : ∀ z : UInt64, (decide (z = v) || (isNaN64 z && isNaN64 v)) = true → FP.Core.val64 z = .nan := by
      intro z hz
      rw [Bool.or_eq_true, decide_eq_true_iff, Bool.and_eq_true] at hz
      rcases hz with e | e
      · rw [e]; exact hn
      · exact xnan e.1
    exact ⟨xcmp_nan (key x h1), xcmp_nan (key y h2)⟩
  · left
    have key : ∀ z : UInt64, (decide (z = v) || (isNaN64 z && isNaN64 v)) = true → z = v := by
      intro z hz
      rw [Bool.or_eq_true, decide_eq_true_iff, Bool.and_eq_true] at hz
      rcases hz with e | e
      · exact e
      · exact absurd (xnan e.2) hn
    rw [key x h1, key y h2]
    have h3 : FP.dcmp v v = some .eq := FP.Core.dcmp_self hn
    rw [h3]
    rfl
theorem hdv_X2_meanNumber : yX2_meanNumber.cls = RX2 ∧ yX2_meanNumber.cls ≠ "java/lang/invoke/MethodHandle" ∧ yX2_meanNumber.cls ≠ "java/lang/invoke/VarHandle" ∧ (parseMethodDescriptor yX2_meanNumber.desc).map (fun d => d.parameters.length) = some 0 := by decide +kernel
theorem hdv_X3_meanNumber : yX3_meanNumber.cls = RX3 ∧ yX3_meanNumber.cls ≠ "java/lang/invoke/MethodHandle" ∧ yX3_meanNumber.cls ≠ "java/lang/invoke/VarHandle" ∧ (parseMethodDescriptor yX3_meanNumber.desc).map (fun d => d.parameters.length) = some 0 := by decide +kernel
set_option maxHeartbeats 4000000 in
set_option maxRecDepth 100000 in
theorem xcase_meanNumber {p : Program} {e : Env} {s : State} {m : MethodId} {below : List Frame} {meth : Method} {c : Code} (l : Launch) (hlt : l.stackTraces = false) {b L : Nat} {xs : Nat → Int32} (hL : L ≤ 1536) (C0 : lw_At p s m meth c b L xs) {γ : xG} (hK : xK γ s) (sa : Nat → Nat) (hEv : xEv s) (hEs : xEs sa s) (hEn : xEn s) {A : Nat → Prop} (hA : ∀ q : Nat, s.heap.size ≤ q → A q) (hbA : ¬ A b) (hEh : xEh A s s.heap) (q0 q1 a1 q2 a2 q3 a3 q4 o m0 m1 m2 m3 m4 : Nat) (kq ka : Nat → Nat) (j i : Nat) (hj : j < 512) (hi : i + 2 < L) (K : xK9 p l e s m below meth c b γ A q0 q1 a1 q2 a2 q3 a3 q4 o m0 m1 m2 m3 m4 kq ka (j + 1) i) (n kc : Nat) (td th tn wn : Int32) (f tf wf mt tg tp : xRow) (h : Nat → Int64) (kn : Nat → Int32) (H : Heap) (locs : List Loc) (d0 : Drawn) (cells slots : Nat) (ls : Array Slot) (hd0 : s.drawn.sameBut d0 lw_cs) (hI : xInv j n kc f tg) (hkn : ∀ t, t < kc → kn t = nI n) (hP : xP γ (LW γ q0 q1 a1 q2 a2 q3 a3 q4 o m0 m1 m2 m3 m4 kq ka n kc td th tn wn f tf wf mt tg tp h kn) H) (hD : va_D A (LW γ q0 q1 a1 q2 a2 q3 a3 q4 o m0 m1 m2 m3 m4 kq ka n kc td th tn wn f tf wf mt tg tp h kn)) (hS : va_S A s.heap H locs) (hc : cells ≤ 26 + j) (hs : slots ≤ 257 + 17 * j) (hl : lv_has ls 9 [(0, .ref b), (1, .ref q0), (2, .ref m0), (3, .ref o), (4, .int (nI i))]) : W p l e room_1 (s.setDrawn d0) m #[Value.ref b] below meth c H locs cells slots (lw_Z below #[Value.ref b] s) (F0 m 1371 ls []) := by
  obtain ⟨hx, hb, hr, hml, hown, hts0, hX, hbl, hlocks, hgv⟩ := id C0
  have hts : ∀ w ∈ wsL_law, w.before #[Value.ref b] (s.setDrawn d0) = true := fun w h => dr_words hts0 d0 w (wsL_law_in w h)
  have hown : s.vm.findClass RL = some m.cls := hown
  have hX : va_X b L xs (s.setDrawn d0) s.heap := va_X.moved (u := s) (U := s.setDrawn d0) (Vm.Alike.refl s.vm) hX
  have hK : xK γ (s.setDrawn d0) := va_K.moved (u := s) (U := s.setDrawn d0) (Vm.Alike.refl s.vm) hK
  have hn0 := hI.1
  have hn1 := hI.2.1
  have hkc := hI.2.2.1
  have hP : xP γ ([xO q0 2 [.ref q1, .ref q4, .int (nI kc), .int td, .ref q2, .ref q3], xO q1 0 [.ref a1, .int (nI n)], xA γ a1 12 f, xO q2 0 [.ref a2, .int tn], xA γ a2 12 tf, xO q3 1 [.ref a3, .int wn], xA γ a3 12 wf, xQ γ q4 6 (fun t9 => some (kq t9)), xL γ o 1 h, xO m0 3 [.int th, .int (nI n), .int (nI kc), .int td, .ref m1, .ref m2, .ref m3, .ref m4], xA γ m1 12 f, xA γ m2 12 mt, xA γ m3 72 tg, xA γ m4 14 tp] ++ xKp γ kq ka kn (xGt tg)) H := hP
  have hD : va_D A ([xO q0 2 [.ref q1, .ref q4, .int (nI kc), .int td, .ref q2, .ref q3], xO q1 0 [.ref a1, .int (nI n)], xA γ a1 12 f, xO q2 0 [.ref a2, .int tn], xA γ a2 12 tf, xO q3 1 [.ref a3, .int wn], xA γ a3 12 wf, xQ γ q4 6 (fun t9 => some (kq t9)), xL γ o 1 h, xO m0 3 [.int th, .int (nI n), .int (nI kc), .int td, .ref m1, .ref m2, .ref m3, .ref m4], xA γ m1 12 f, xA γ m2 12 mt, xA γ m3 72 tg, xA γ m4 14 tp] ++ xKp γ kq ka kn (xGt tg)) := hD
  have hK9 : xK γ s := va_K.moved (u := s.setDrawn d0) (U := s) (Vm.Alike.refl s.vm) hK
  refine lv_aload_n hx hb dL_law_1371 rfl (lv_at hl 1 rfl) ?_
  refine xVMD (s := s) (d0 := d0) (q0 := 0) (ci := 2) (As := []) (rest := []) hd0 ⟨hx, hb, hml, hown, hts⟩ (c_X2_meanNumber γ l q0 q1 q2 q3 q4 kc td a1 n f hn0 hn1) (cwV 0 hts gL_law_X2_meanNumber rfl rfl rfl hdv_X2_meanNumber ⟨(Nat.le_of_ble_eq_true rfl), (Nat.le_of_ble_eq_true rfl)⟩) hK hP hD hS hA [0, 1, 2] rfl rfl rfl rfl rfl hl.1 rfl (Nat.le_of_ble_eq_true rfl) dL_law_1372 ⟨(by omega : _ ≤ 601024), (by omega : _ ≤ 7293034)⟩ (fun r9 w9 H locs hw hP hD hS d1 hd1 => ?_)
  obtain ⟨dp, rfl, hal1, rfl⟩ := hw
  have hP : xP γ ([xO q0 2 [.ref q1, .ref q4, .int (nI kc), .int td, .ref q2, .ref q3], xO q1 0 [.ref a1, .int (nI n)], xA γ a1 12 f, xO q2 0 [.ref a2, .int tn], xA γ a2 12 tf, xO q3 1 [.ref a3, .int wn], xA γ a3 12 wf, xQ γ q4 6 (fun t9 => some (kq t9)), xL γ o 1 h, xO m0 3 [.int th, .int (nI n), .int (nI kc), .int td, .ref m1, .ref m2, .ref m3, .ref m4], xA γ m1 12 f, xA γ m2 12 mt, xA γ m3 72 tg, xA γ m4 14 tp] ++ xKp γ kq ka kn (xGt tg)) H := hP
  have hD : va_D A ([xO q0 2 [.ref q1, .ref q4, .int (nI kc), .int td, .ref q2, .ref q3], xO q1 0 [.ref a1, .int (nI n)], xA γ a1 12 f, xO q2 0 [.ref a2, .int tn], xA γ a2 12 tf, xO q3 1 [.ref a3, .int wn], xA γ a3 12 wf, xQ γ q4 6 (fun t9 => some (kq t9)), xL γ o 1 h, xO m0 3 [.int th, .int (nI n), .int (nI kc), .int td, .ref m1, .ref m2, .ref m3, .ref m4], xA γ m1 12 f, xA γ m2 12 mt, xA γ m3 72 tg, xA γ m4 14 tp] ++ xKp γ kq ka kn (xGt tg)) := hD
  have hts : ∀ w ∈ wsL_law, w.before #[Value.ref b] (s.setDrawn d1) = true := fun w h => dr_words hts0 d1 w (wsL_law_in w h)
  have hK : xK γ (s.setDrawn d1) := va_K.moved (u := s) (U := s.setDrawn d1) (Vm.Alike.refl s.vm) hK9
  refine W.eq (g2 := F0 m 1375 ls [.double dp]) rfl ?_
  refine lv_dstore (lv' := [(5, .double dp), (0, .ref b), (1, .ref q0), (2, .ref m0), (3, .ref o), (4, .int (nI i))]) hx hb dL_law_1375 hl (by decide) rfl (fun ls hl => ?_)
  refine lv_aload_n hx hb dL_law_1377 rfl (lv_at hl 3 rfl) ?_
  refine xVMD (s := s) (d0 := d1) (q0 := 9) (ci := 3) (As := []) (rest := []) hd1 ⟨hx, hb, hml, hown, hts⟩ (c_X3_meanNumber γ l m0 m1 m2 m3 m4 n kc th td f hn0 hn1) (cwV 0 hts gL_law_X3_meanNumber rfl rfl rfl hdv_X3_meanNumber ⟨(Nat.le_of_ble_eq_true rfl), (Nat.le_of_ble_eq_true rfl)⟩) hK hP hD hS hA [9, 10] rfl rfl rfl rfl rfl hl.1 rfl (Nat.le_of_ble_eq_true rfl) dL_law_1378 ⟨(by omega : _ ≤ 601024), (by omega : _ ≤ 7293034)⟩ (fun r9 w9 H locs hw hP hD hS d2 hd2 => ?_)
  obtain ⟨dq, rfl, hal2, rfl⟩ := hw
  have hP : xP γ ([xO q0 2 [.ref q1, .ref q4, .int (nI kc), .int td, .ref q2, .ref q3], xO q1 0 [.ref a1, .int (nI n)], xA γ a1 12 f, xO q2 0 [.ref a2, .int tn], xA γ a2 12 tf, xO q3 1 [.ref a3, .int wn], xA γ a3 12 wf, xQ γ q4 6 (fun t9 => some (kq t9)), xL γ o 1 h, xO m0 3 [.int 0, .int (nI n), .int (nI kc), .int td, .ref m1, .ref m2, .ref m3, .ref m4], xA γ m1 12 f, xA γ m2 12 mt, xA γ m3 72 tg, xA γ m4 14 tp] ++ xKp γ kq ka kn (xGt tg)) H := hP
  have hD : va_D A ([xO q0 2 [.ref q1, .ref q4, .int (nI kc), .int td, .ref q2, .ref q3], xO q1 0 [.ref a1, .int (nI n)], xA γ a1 12 f, xO q2 0 [.ref a2, .int tn], xA γ a2 12 tf, xO q3 1 [.ref a3, .int wn], xA γ a3 12 wf, xQ γ q4 6 (fun t9 => some (kq t9)), xL γ o 1 h, xO m0 3 [.int 0, .int (nI n), .int (nI kc), .int td, .ref m1, .ref m2, .ref m3, .ref m4], xA γ m1 12 f, xA γ m2 12 mt, xA γ m3 72 tg, xA γ m4 14 tp] ++ xKp γ kq ka kn (xGt tg)) := hD
  have hts : ∀ w ∈ wsL_law, w.before #[Value.ref b] (s.setDrawn d2) = true := fun w h => dr_words hts0 d2 w (wsL_law_in w h)
  have hK : xK γ (s.setDrawn d2) := va_K.moved (u := s) (U := s.setDrawn d2) (Vm.Alike.refl s.vm) hK9
  refine W.eq (g2 := F0 m 1381 ls [.double dq]) rfl ?_
  refine lv_dstore (lv' := [(7, .double dq), (5, .double dp), (0, .ref b), (1, .ref q0), (2, .ref m0), (3, .ref o), (4, .int (nI i))]) hx hb dL_law_1381 hl (by decide) rfl (fun ls hl => ?_)
  refine lv_dload hx hb dL_law_1383 (lv_at hl 1 rfl) ?_
  refine lv_dload hx hb dL_law_1385 (lv_at hl 0 rfl) ?_
  refine lv_dcmp hx hb dL_law_1387 ?_
  refine lv_if_eq (tgt := 1409) hx hb dL_law_1388 (by decide) (fun _ => ?_) (fun c9 => ?_)
  · refine lv_goto (tgt := 1426) hx hb dL_law_1409 (by decide) ?_
    exact K n kc td 0 tn wn f tf wf mt tg tp h kn _ _ d2 _ _ ls hd2 (hI.same hj) (hkn) hP hD hS (by omega) (by omega) (lv_sub hl [2, 3, 4, 5, 6] rfl)
  · have h9 := (xmean hal1 hal2).resolve_left c9
    refine lv_dload hx hb dL_law_1391 (lv_at hl 1 rfl) ?_
    refine lv_dload hx hb dL_law_1393 (lv_at hl 1 rfl) ?_
    refine lv_dcmp hx hb dL_law_1395 ?_
    refine lv_if_eq (tgt := 1407) hx hb dL_law_1396 (by decide) (fun c => absurd c h9.1) (fun _ => ?_)
    refine lv_dload hx hb dL_law_1399 (lv_at hl 0 rfl) ?_
    refine lv_dload hx hb dL_law_1401 (lv_at hl 0 rfl) ?_
    refine lv_dcmp hx hb dL_law_1403 ?_
    refine lv_if_ne (tgt := 1409) hx hb dL_law_1404 (by decide) (fun _ => ?_) (fun c => absurd c h9.2)
    refine lv_goto (tgt := 1426) hx hb dL_law_1409 (by decide) ?_
    exact K n kc td 0 tn wn f tf wf mt tg tp h kn _ _ d2 _ _ ls hd2 (hI.same hj) (hkn) hP hD hS (by omega) (by omega) (lv_sub hl [2, 3, 4, 5, 6] rfl)

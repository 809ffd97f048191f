/-! the law, stretch by stretch (rows laid by wip/p38/spec_law.py) -/
set_option maxHeartbeats 16000000 in
set_option maxRecDepth 100000 in
theorem xlaw_acts {p : Program} {l : Launch} {e : Env} {s : State} {m : MethodId} {args : Array Value} {below : List Frame} {meth : Method} {c : Code} (hlt : l.stackTraces = false) (hx : p.tables.exec = Jvm.exec) (hb : c.code = cL_law) (hml : c.maxLocals = 27) (hts : ∀ w ∈ wsL_law, w.before args s = true) (hown : s.vm.findClass RL = some m.cls) {γ : xG} (hK : xK γ s) (sa : Nat → Nat) {A : Nat → Prop} (hEv : xEv s) (hEs : xEs sa s) (hEh : xEh A s s.heap) (hAr : xAz s) (hA : ∀ q : Nat, s.heap.size ≤ q → A q) (q0 q1 a1 q2 a2 q3 a3 q4 s0 : Nat) (kq ka : Nat → Nat) {b L : Nat} {xs : Nat → Int32} (hX : va_X b L xs s s.heap) (hbl : b < s.heap.size) (hbA : ¬ A b) (hL : L ≤ 260) {Q : State → Prop} (tm : Nat) (htm : tm < 7) (n kc : Nat) (td tn wn : Int32) (f tf wf : xRow) (ks : Nat → xRow) (kn : Nat → Int32) (r tq : Nat) (ta : Nat → Nat) (J : Nat) (hJ : J + 5 ≤ 512) (hI : xInv J n kc f ks) (hkn : ∀ t, t < kc → kn t = nI n) (H : Heap) (locs : List Loc) (cells slots : Nat) (ls : Array Slot) (hce : cells ≤ 500000) (hsl : slots ≤ 7000000) (hP : xP γ (([xO q0 2 [.ref q1, .ref q4, .int (nI kc), .int td, .ref q2, .ref q3], xO q1 0 [.ref a1, .int (nI n)], xA γ a1 12 f, xO q2 0 [.ref a2, .int tn], xA γ a2 12 tf, xO q3 1 [.ref a3, .int wn], xA γ a3 12 wf, xQ γ q4 6 (fun t9 => some (kq t9))] ++ xKp γ kq ka kn ks) ++ ([xO s0 3 [.ref r, .ref tq, .int td], xA γ r n f, xT γ tq kc (fun t9 => some (ta t9))] ++ xTs γ ta n ks kc)) H) (hD : va_D A (([xO q0 2 [.ref q1, .ref q4, .int (nI kc), .int td, .ref q2, .ref q3], xO q1 0 [.ref a1, .int (nI n)], xA γ a1 12 f, xO q2 0 [.ref a2, .int tn], xA γ a2 12 tf, xO q3 1 [.ref a3, .int wn], xA γ a3 12 wf, xQ γ q4 6 (fun t9 => some (kq t9))] ++ xKp γ kq ka kn ks) ++ ([xO s0 3 [.ref r, .ref tq, .int td], xA γ r n f, xT γ tq kc (fun t9 => some (ta t9))] ++ xTs γ ta n ks kc))) (hS : va_S A s.heap H locs) (hl : lv_has ls 27 [(0, .ref b), (1, .ref q0), (2, .ref s0), (3, .int (nI tm))]) (K : ∀ (n kc : Nat) (td tn wn : Int32) (f tf wf : xRow) (ks : Nat → xRow) (kn : Nat → Int32) (r tq : Nat) (ta : Nat → Nat) (x : Int32) (H : Heap) (locs : List Loc) (ce sl : Nat) (ls : Array Slot), (xInv (J + 3) n kc f ks) → (∀ t, t < kc → kn t = nI n) → ce ≤ cells + 609 → sl ≤ slots + 8100 → xP γ (([xO q0 2 [.ref q1, .ref q4, .int (nI kc), .int td, .ref q2, .ref q3], xO q1 0 [.ref a1, .int (nI n)], xA γ a1 12 f, xO q2 0 [.ref a2, .int tn], xA γ a2 12 tf, xO q3 1 [.ref a3, .int wn], xA γ a3 12 wf, xQ γ q4 6 (fun t9 => some (kq t9))] ++ xKp γ kq ka kn ks) ++ ([xO s0 3 [.ref r, .ref tq, .int td], xA γ r n f, xT γ tq kc (fun t9 => some (ta t9))] ++ xTs γ ta n ks kc)) H → va_D A (([xO q0 2 [.ref q1, .ref q4, .int (nI kc), .int td, .ref q2, .ref q3], xO q1 0 [.ref a1, .int (nI n)], xA γ a1 12 f, xO q2 0 [.ref a2, .int tn], xA γ a2 12 tf, xO q3 1 [.ref a3, .int wn], xA γ a3 12 wf, xQ γ q4 6 (fun t9 => some (kq t9))] ++ xKp γ kq ka kn ks) ++ ([xO s0 3 [.ref r, .ref tq, .int td], xA γ r n f, xT γ tq kc (fun t9 => some (ta t9))] ++ xTs γ ta n ks kc)) → va_S A s.heap H locs → lv_has ls 27 [(0, .ref b), (1, .ref q0), (2, .ref s0), (3, .int (nI tm)), (4, .int x)] → W p l e room_1 s m args below meth c H locs ce sl Q (F0 m 82 ls [])) : W p l e room_1 s m args below meth c H locs cells slots Q (F0 m 28 ls []) := by
  refine lv_aload_n hx hb dL_law_28 rfl (lv_at hl 0 rfl) ?_
  refine lv_iload_n hx hb dL_law_29 rfl (lv_at hl 3 rfl) ?_
  refine lv_iconst (v := 1) hx hb dL_law_30 (by decide) ?_
  refine lv_iadd hx hb dL_law_31 ?_
  refine x_top (y := nI (tm + 1)) (nI_add tm 1) ?_
  refine xSX (k := tm + 1) (rest := []) ⟨hx, hb, hml, hown, hts⟩ (c_L_cell l b L xs (tm + 1) (by omega) hL) (va_cwS 2 hts gL_law_L_cell rfl rfl rfl hds_L_cell ⟨(Nat.le_of_ble_eq_true rfl), (Nat.le_of_ble_eq_true rfl)⟩) hX hbl hbA hS rfl hl.1 rfl (Nat.le_of_ble_eq_true rfl) dL_law_32 ⟨(by omega : _ ≤ 600172), (by omega : _ ≤ 7300668)⟩ (fun v130x => ?_)
  refine lv_iconst (v := 2) hx hb dL_law_35 (by decide) ?_
  refine lv_ishr hx hb dL_law_36 ?_
  refine lv_bipush (v := 53) hx hb dL_law_37 (by decide) ?_
  refine lv_iload_n hx hb dL_law_39 rfl (lv_at hl 3 rfl) ?_
  refine lv_imul hx hb dL_law_40 ?_
  refine lv_iadd hx hb dL_law_41 ?_
  obtain ⟨x9, ex9⟩ : ∃ x9 : Int32, x9 = (v130x >>> (2 &&& 31)) + (53 * (nI tm)) := ⟨_, rfl⟩
  refine x_top (y := x9) ex9.symm ?_
  refine lv_istore (lv' := [(4, .int x9), (0, .ref b), (1, .ref q0), (2, .ref s0), (3, .int (nI tm))]) hx hb dL_law_42 hl (by decide) rfl (fun ls hl => ?_)
  refine lv_iconst (v := 0) hx hb dL_law_44 (by decide) ?_
  refine lv_istore (lv' := [(5, .int 0), (4, .int x9), (0, .ref b), (1, .ref q0), (2, .ref s0), (3, .int (nI tm))]) hx hb dL_law_45 hl (by decide) rfl (fun ls hl => ?_)
  have loop47 : ∀ j : Nat, ∀ (ce47 sl47 : Nat) (k : Nat) (n : Nat) (kc : Nat) (td : Int32) (tn : Int32) (wn : Int32) (f : xRow) (tf : xRow) (wf : xRow) (ks : Nat → xRow) (kn : Nat → Int32) (r : Nat) (tq : Nat) (ta : Nat → Nat), k + j = 3 → (xInv (J + k) n kc f ks) → (∀ t, t < kc → kn t = nI n) → (ce47 ≤ cells + 203 * k) → (sl47 ≤ slots + 2700 * k) → ∀ (H : Heap) (locs : List Loc), xP γ (([xO q0 2 [.ref q1, .ref q4, .int (nI kc), .int td, .ref q2, .ref q3], xO q1 0 [.ref a1, .int (nI n)], xA γ a1 12 f, xO q2 0 [.ref a2, .int tn], xA γ a2 12 tf, xO q3 1 [.ref a3, .int wn], xA γ a3 12 wf, xQ γ q4 6 (fun t9 => some (kq t9))] ++ xKp γ kq ka kn ks) ++ ([xO s0 3 [.ref r, .ref tq, .int td], xA γ r n f, xT γ tq kc (fun t9 => some (ta t9))] ++ xTs γ ta n ks kc)) H → va_D A (([xO q0 2 [.ref q1, .ref q4, .int (nI kc), .int td, .ref q2, .ref q3], xO q1 0 [.ref a1, .int (nI n)], xA γ a1 12 f, xO q2 0 [.ref a2, .int tn], xA γ a2 12 tf, xO q3 1 [.ref a3, .int wn], xA γ a3 12 wf, xQ γ q4 6 (fun t9 => some (kq t9))] ++ xKp γ kq ka kn ks) ++ ([xO s0 3 [.ref r, .ref tq, .int td], xA γ r n f, xT γ tq kc (fun t9 => some (ta t9))] ++ xTs γ ta n ks kc)) → va_S A s.heap H locs → ∀ ls : Array Slot, lv_has ls 27 [(0, .ref b), (1, .ref q0), (2, .ref s0), (3, .int (nI tm)), (4, .int x9), (5, .int (nI k))] → W p l e room_1 s m args below meth c H locs ce47 sl47 Q (F0 m 47 ls []) := by
    intro j
    induction j with
    | zero =>
      intro ce47 sl47 k n kc td tn wn f tf wf ks kn r tq ta hj hI hkn hce9 hsl9 H locs hP hD hS ls hl
      refine lv_iload hx hb dL_law_47 (lv_at hl 5 rfl) ?_
      refine lv_iconst (v := 3) hx hb dL_law_49 (by decide) ?_
      refine lv_icmp_ge (tgt := 82) hx hb dL_law_50 (by decide) (fun _ => ?_) (fun c => absurd (nI_le (a := 3) (b := k) (by omega) (by omega)) c)
      exact K n kc td tn wn f tf wf ks kn r tq ta x9 _ _ _ _ _ (by rw [show J + 3 = J + k by omega]; exact hI) (hkn) (by omega) (by omega) hP hD hS (lv_sub hl [0, 1, 2, 3, 4] rfl)
    | succ j ih47 =>
      intro ce47 sl47 k n kc td tn wn f tf wf ks kn r tq ta hj hI hkn hce9 hsl9 H locs hP hD hS ls hl
      refine lv_iload hx hb dL_law_47 (lv_at hl 5 rfl) ?_
      refine lv_iconst (v := 3) hx hb dL_law_49 (by decide) ?_
      refine lv_icmp_ge (tgt := 82) hx hb dL_law_50 (by decide) (fun c => absurd c (nI_ge (a := k) (b := 3) (by omega) (by omega))) (fun _ => ?_)
      refine lv_aload_n hx hb dL_law_53 rfl (lv_at hl 1 rfl) ?_
      refine lv_aload_n hx hb dL_law_54 rfl (lv_at hl 2 rfl) ?_
      refine lv_iload hx hb dL_law_55 (lv_at hl 4 rfl) ?_
      refine lv_iconst (v := 3) hx hb dL_law_57 (by decide) ?_
      refine lv_iload hx hb dL_law_58 (lv_at hl 5 rfl) ?_
      refine lv_imul hx hb dL_law_60 ?_
      refine lv_ishr hx hb dL_law_61 ?_
      refine lv_bipush (v := 29) hx hb dL_law_62 (by decide) ?_
      refine lv_iload hx hb dL_law_64 (lv_at hl 5 rfl) ?_
      refine lv_imul hx hb dL_law_66 ?_
      refine lv_iadd hx hb dL_law_67 ?_
      have hP : xP γ (DWt γ q0 q1 a1 q2 a2 q3 a3 q4 s0 kq ka n kc td tn wn f tf wf ks kn r tq ta) _ := hP
      have hD : va_D A (DWt γ q0 q1 a1 q2 a2 q3 a3 q4 s0 kq ka n kc td tn wn f tf wf ks kn r tq ta) := hD
      refine xSGH (rest := []) ⟨hx, hb, hml, hown, hts⟩ (c_L_act γ l hlt sa q0 q1 a1 q2 a2 q3 a3 q4 s0 kq ka ((x9 >>> ((3 * (nI k)) &&& 31)) + (29 * (nI k))) (J + k) (by omega) n kc td tn wn f tf wf ks kn r tq ta hI hkn) (vx_cwSW 3 hts gL_law_L_act rfl rfl rfl hds_L_act ⟨(Nat.le_of_ble_eq_true rfl), (Nat.le_of_ble_eq_true rfl)⟩) xLE_blind (fun U hU hW => xLE.at hW hU hEv hEs hEh hAr hD hS hA) hK hP hD hS hA rfl hl.1 rfl (Nat.le_of_ble_eq_true rfl) dL_law_68 ⟨(by omega : _ ≤ 600172), (by omega : _ ≤ 7300668)⟩ (fun r9 w9 H locs hw hP hD hS => ?_)
      obtain ⟨rfl, n131x, kc132x, td133x, tn134x, wn135x, f136x, tf137x, wf138x, ks139x, kn140x, r141x, tq142x, ta143x, hI144x, hk145x, rfl⟩ := hw
      have hP : xP γ (([xO q0 2 [.ref q1, .ref q4, .int (nI kc132x), .int td133x, .ref q2, .ref q3], xO q1 0 [.ref a1, .int (nI n131x)], xA γ a1 12 f136x, xO q2 0 [.ref a2, .int tn134x], xA γ a2 12 tf137x, xO q3 1 [.ref a3, .int wn135x], xA γ a3 12 wf138x, xQ γ q4 6 (fun t9 => some (kq t9))] ++ xKp γ kq ka kn140x ks139x) ++ ([xO s0 3 [.ref r141x, .ref tq142x, .int td133x], xA γ r141x n131x f136x, xT γ tq142x kc132x (fun t9 => some (ta143x t9))] ++ xTs γ ta143x n131x ks139x kc132x)) H := hP
      have hD : va_D A (([xO q0 2 [.ref q1, .ref q4, .int (nI kc132x), .int td133x, .ref q2, .ref q3], xO q1 0 [.ref a1, .int (nI n131x)], xA γ a1 12 f136x, xO q2 0 [.ref a2, .int tn134x], xA γ a2 12 tf137x, xO q3 1 [.ref a3, .int wn135x], xA γ a3 12 wf138x, xQ γ q4 6 (fun t9 => some (kq t9))] ++ xKp γ kq ka kn140x ks139x) ++ ([xO s0 3 [.ref r141x, .ref tq142x, .int td133x], xA γ r141x n131x f136x, xT γ tq142x kc132x (fun t9 => some (ta143x t9))] ++ xTs γ ta143x n131x ks139x kc132x)) := hD
      refine W.eq (g2 := F0 m 71 ls [.int 1]) rfl ?_
      refine lv_if_ne (tgt := 76) hx hb dL_law_71 (by decide) (fun _ => ?_) (fun c => absurd c (by decide))
      refine lv_iinc (v := nI (k + 1)) (lv' := [(5, .int (nI (k + 1))), (0, .ref b), (1, .ref q0), (2, .ref s0), (3, .int (nI tm)), (4, .int x9)]) hx hb dL_law_76 hl (k := 5) rfl (nI_add k 1) (by decide) rfl (fun ls hl => ?_)
      refine lv_goto (tgt := 47) hx hb dL_law_79 (by decide) ?_
      exact ih47 (ce47 + 203) (sl47 + 2700) (k + 1) n131x kc132x td133x tn134x wn135x f136x tf137x wf138x ks139x kn140x r141x tq142x ta143x (by omega) (hI144x) (hk145x) (by omega) (by omega) _ _ hP hD hS ls (lv_sub hl [1, 2, 3, 4, 5, 0] rfl)
  exact loop47 3 cells slots 0 n kc td tn wn f tf wf ks kn r tq ta (by omega) (hI) (hkn) (by omega) (by omega) _ _ hP hD hS ls (lv_sub hl [2, 3, 4, 5, 1, 0] rfl)

theorem hdv_X2_digest : yX2_digest.cls = RX2 ∧ yX2_digest.cls ≠ "java/lang/invoke/MethodHandle" ∧ yX2_digest.cls ≠ "java/lang/invoke/VarHandle" ∧ (parseMethodDescriptor yX2_digest.desc).map (fun d => d.parameters.length) = some 0 := by decide +kernel
theorem wdL_law_m47a : Cond.methodLink RL 47 Lib.Math.abs.name ∈ wsL_law := by decide +kernel
theorem wdL_law_m47b : Cond.static Lib.Math.abs.name ∈ wsL_law := by decide +kernel
theorem wdL_law_m47c : Cond.initialized "java/lang/Math" ∈ wsL_law := by decide +kernel
theorem wdL_law_m47d : Cond.code Lib.Math.abs.name Lib.Math.abs.code 1 (some .int) ∈ wsL_law := by decide +kernel
set_option maxHeartbeats 16000000 in
set_option maxRecDepth 100000 in
theorem xlaw_look {p : Program} {l : Launch} {e : Env} {s : State} {m : MethodId} {args : Array Value} {below : List Frame} {meth : Method} {c : Code} (hlt : l.stackTraces = false) (hx : p.tables.exec = Jvm.exec) (hb : c.code = cL_law) (hml : c.maxLocals = 27) (hts : ∀ w ∈ wsL_law, w.before args s = true) (hown : s.vm.findClass RL = some m.cls) {γ : xG} (hK : xK γ s) (sa : Nat → Nat) {A : Nat → Prop} (hEv : xEv s) (hEs : xEs sa s) (hEh : xEh A s s.heap) (hAr : xAz s) (hA : ∀ q : Nat, s.heap.size ≤ q → A q) (q0 q1 a1 q2 a2 q3 a3 q4 s0 : Nat) (kq ka : Nat → Nat) {b L : Nat} {xs : Nat → Int32} (hX : va_X b L xs s s.heap) (hbl : b < s.heap.size) (hbA : ¬ A b) (hL : L ≤ 260) {Q : State → Prop} (tm : Nat) (x : Int32) (n kc : Nat) (td tn wn : Int32) (f tf wf : xRow) (ks : Nat → xRow) (kn : Nat → Int32) (r tq : Nat) (ta : Nat → Nat) (J : Nat) (hI : xInv J n kc f ks) (hkn : ∀ t, t < kc → kn t = nI n) (H : Heap) (locs : List Loc) (cells slots : Nat) (ls : Array Slot) (hce : cells ≤ 500000) (hsl : slots ≤ 7000000) (hP : xP γ (([xO q0 2 [.ref q1, .ref q4, .int (nI kc), .int td, .ref q2, .ref q3], xO q1 0 [.ref a1, .int (nI n)], xA γ a1 12 f, xO q2 0 [.ref a2, .int tn], xA γ a2 12 tf, xO q3 1 [.ref a3, .int wn], xA γ a3 12 wf, xQ γ q4 6 (fun t9 => some (kq t9))] ++ xKp γ kq ka kn ks) ++ ([xO s0 3 [.ref r, .ref tq, .int td], xA γ r n f, xT γ tq kc (fun t9 => some (ta t9))] ++ xTs γ ta n ks kc)) H) (hD : va_D A (([xO q0 2 [.ref q1, .ref q4, .int (nI kc), .int td, .ref q2, .ref q3], xO q1 0 [.ref a1, .int (nI n)], xA γ a1 12 f, xO q2 0 [.ref a2, .int tn], xA γ a2 12 tf, xO q3 1 [.ref a3, .int wn], xA γ a3 12 wf, xQ γ q4 6 (fun t9 => some (kq t9))] ++ xKp γ kq ka kn ks) ++ ([xO s0 3 [.ref r, .ref tq, .int td], xA γ r n f, xT γ tq kc (fun t9 => some (ta t9))] ++ xTs γ ta n ks kc))) (hS : va_S A s.heap H locs) (hl : lv_has ls 27 [(0, .ref b), (1, .ref q0), (2, .ref s0), (3, .int (nI tm)), (4, .int x)]) (K : ∀ (tn wn : Int32) (tf wf : xRow) (H : Heap) (locs : List Loc) (ce sl : Nat) (ls : Array Slot), ce ≤ cells + 0 → sl ≤ slots + 0 → xP γ (([xO q0 2 [.ref q1, .ref q4, .int (nI kc), .int td, .ref q2, .ref q3], xO q1 0 [.ref a1, .int (nI n)], xA γ a1 12 f, xO q2 0 [.ref a2, .int tn], xA γ a2 12 tf, xO q3 1 [.ref a3, .int wn], xA γ a3 12 wf, xQ γ q4 6 (fun t9 => some (kq t9))] ++ xKp γ kq ka kn ks) ++ ([xO s0 3 [.ref r, .ref tq, .int td], xA γ r n f, xT γ tq kc (fun t9 => some (ta t9))] ++ xTs γ ta n ks kc)) H → va_D A (([xO q0 2 [.ref q1, .ref q4, .int (nI kc), .int td, .ref q2, .ref q3], xO q1 0 [.ref a1, .int (nI n)], xA γ a1 12 f, xO q2 0 [.ref a2, .int tn], xA γ a2 12 tf, xO q3 1 [.ref a3, .int wn], xA γ a3 12 wf, xQ γ q4 6 (fun t9 => some (kq t9))] ++ xKp γ kq ka kn ks) ++ ([xO s0 3 [.ref r, .ref tq, .int td], xA γ r n f, xT γ tq kc (fun t9 => some (ta t9))] ++ xTs γ ta n ks kc)) → va_S A s.heap H locs → lv_has ls 27 [(0, .ref b), (1, .ref q0), (2, .ref s0), (3, .int (nI tm)), (4, .int x), (5, .long (xDg n kc f ks td)), (7, .int (nI n)), (8, .int (nI kc))] → W p l e room_1 s m args below meth c H locs ce sl Q (F0 m 347 ls [])) : W p l e room_1 s m args below meth c H locs cells slots Q (F0 m 82 ls []) := by
  have hn0 := hI.1
  have hn1 := hI.2.1
  have hkc := hI.2.2.1
  have hbf := hI.f
  have hbg := hI.g
  refine lv_aload_n hx hb dL_law_82 rfl (lv_at hl 1 rfl) ?_
  refine xVM (q0 := 0) (ci := 2) (As := []) (rest := []) ⟨hx, hb, hml, hown, hts⟩ (c_X2_digest γ l q0 q1 q2 q3 q4 kc td a1 n f a2 tn tf a3 wn wf kq ka kn ks (by omega) (by omega) (by omega) hkn) (cwV 0 hts gL_law_X2_digest rfl rfl rfl hdv_X2_digest ⟨(Nat.le_of_ble_eq_true rfl), (Nat.le_of_ble_eq_true rfl)⟩) hK hP hD hS hA ([0, 1, 2, 3, 4, 5, 6, 7] ++ List.range' 8 12) rfl (xsuf_M2 (base := [xO q0 2 [.ref q1, .ref q4, .int (nI kc), .int td, .ref q2, .ref q3], xO q1 0 [.ref a1, .int (nI n)], xA γ a1 12 f, xO q2 0 [.ref a2, .int tn], xA γ a2 12 tf, xO q3 1 [.ref a3, .int wn], xA γ a3 12 wf, xQ γ q4 6 (fun t9 => some (kq t9))]) rfl rfl rfl (by decide)) rfl rfl rfl hl.1 rfl (Nat.le_of_ble_eq_true rfl) dL_law_83 ⟨(by omega : _ ≤ 600172), (by omega : _ ≤ 7300668)⟩ (fun r9 w9 H locs hw hP hD hS => ?_)
  obtain ⟨rfl, tn146x, tf147x, wn148x, wf149x, rfl⟩ := hw
  rw [xup_suf3 (base := [xO q0 2 [.ref q1, .ref q4, .int (nI kc), .int td, .ref q2, .ref q3], xO q1 0 [.ref a1, .int (nI n)], xA γ a1 12 f, xO q2 0 [.ref a2, .int tn], xA γ a2 12 tf, xO q3 1 [.ref a3, .int wn], xA γ a3 12 wf, xQ γ q4 6 (fun t9 => some (kq t9))]) (K := xKp γ kq ka kn ks) (K' := xKp γ kq ka kn ks) (R9 := [xO s0 3 [.ref r, .ref tq, .int td], xA γ r n f, xT γ tq kc (fun t9 => some (ta t9))] ++ xTs γ ta n ks kc) (is1 := [0, 1, 2, 3, 4, 5, 6, 7]) (w1 := [xO q0 2 [.ref q1, .ref q4, .int (nI kc), .int td, .ref q2, .ref q3], xO q1 0 [.ref a1, .int (nI n)], xA γ a1 12 f, xO q2 0 [.ref a2, .int tn146x], xA γ a2 12 tf147x, xO q3 1 [.ref a3, .int wn148x], xA γ a3 12 wf149x, xQ γ q4 6 (fun t9 => some (kq t9))]) (nb := 8) rfl rfl rfl rfl (by decide)] at hP hD
  have hP : xP γ (([xO q0 2 [.ref q1, .ref q4, .int (nI kc), .int td, .ref q2, .ref q3], xO q1 0 [.ref a1, .int (nI n)], xA γ a1 12 f, xO q2 0 [.ref a2, .int tn146x], xA γ a2 12 tf147x, xO q3 1 [.ref a3, .int wn148x], xA γ a3 12 wf149x, xQ γ q4 6 (fun t9 => some (kq t9))] ++ xKp γ kq ka kn ks) ++ ([xO s0 3 [.ref r, .ref tq, .int td], xA γ r n f, xT γ tq kc (fun t9 => some (ta t9))] ++ xTs γ ta n ks kc)) H := hP
  have hD : va_D A (([xO q0 2 [.ref q1, .ref q4, .int (nI kc), .int td, .ref q2, .ref q3], xO q1 0 [.ref a1, .int (nI n)], xA γ a1 12 f, xO q2 0 [.ref a2, .int tn146x], xA γ a2 12 tf147x, xO q3 1 [.ref a3, .int wn148x], xA γ a3 12 wf149x, xQ γ q4 6 (fun t9 => some (kq t9))] ++ xKp γ kq ka kn ks) ++ ([xO s0 3 [.ref r, .ref tq, .int td], xA γ r n f, xT γ tq kc (fun t9 => some (ta t9))] ++ xTs γ ta n ks kc)) := hD
  refine W.eq (g2 := F0 m 86 ls [.long (xDg n kc f ks td)]) rfl ?_
  refine lv_lstore (lv' := [(5, .long (xDg n kc f ks td)), (0, .ref b), (1, .ref q0), (2, .ref s0), (3, .int (nI tm)), (4, .int x)]) hx hb dL_law_86 hl (by decide) rfl (fun ls hl => ?_)
  refine lv_aload_n hx hb dL_law_88 rfl (lv_at hl 2 rfl) ?_
  refine xVR (q0 := 0) (ci := 2) (As := []) (rest := []) (stk := [.int (nI n)]) ⟨hx, hb, hml, hown, hts⟩ (c_X2_places γ l q0 q1 q2 q3 q4 kc td a1 n f (by omega) (by omega)) (cwV 0 hts gL_law_X2_places rfl rfl rfl hdv_X2_places ⟨(Nat.le_of_ble_eq_true rfl), (Nat.le_of_ble_eq_true rfl)⟩) hK hP [0, 1, 2] rfl rfl rfl rfl hl.1 rfl (Nat.le_of_ble_eq_true rfl) dL_law_89 ⟨(by omega : _ ≤ 600172), (by omega : _ ≤ 7300668)⟩ rfl ?_
  refine lv_istore (lv' := [(7, .int (nI n)), (5, .long (xDg n kc f ks td)), (0, .ref b), (1, .ref q0), (2, .ref s0), (3, .int (nI tm)), (4, .int x)]) hx hb dL_law_92 hl (by decide) rfl (fun ls hl => ?_)
  refine lv_aload_n hx hb dL_law_94 rfl (lv_at hl 3 rfl) ?_
  refine xVR (q0 := 0) (ci := 2) (As := []) (rest := []) (stk := [.int (nI kc)]) ⟨hx, hb, hml, hown, hts⟩ (c_X2_targets γ l q0 q1 q2 q3 q4 kc td) (cwV 0 hts gL_law_X2_targets rfl rfl rfl hdv_X2_targets ⟨(Nat.le_of_ble_eq_true rfl), (Nat.le_of_ble_eq_true rfl)⟩) hK hP [0] rfl rfl rfl rfl hl.1 rfl (Nat.le_of_ble_eq_true rfl) dL_law_95 ⟨(by omega : _ ≤ 600172), (by omega : _ ≤ 7300668)⟩ rfl ?_
  refine lv_istore (lv' := [(8, .int (nI kc)), (7, .int (nI n)), (5, .long (xDg n kc f ks td)), (0, .ref b), (1, .ref q0), (2, .ref s0), (3, .int (nI tm)), (4, .int x)]) hx hb dL_law_98 hl (by decide) rfl (fun ls hl => ?_)
  refine lv_iconst (v := 0) hx hb dL_law_100 (by decide) ?_
  refine lv_istore (lv' := [(9, .int 0), (8, .int (nI kc)), (7, .int (nI n)), (5, .long (xDg n kc f ks td)), (0, .ref b), (1, .ref q0), (2, .ref s0), (3, .int (nI tm)), (4, .int x)]) hx hb dL_law_101 hl (by decide) rfl (fun ls hl => ?_)
  refine lv_iconst (v := 0) hx hb dL_law_103 (by decide) ?_
  refine lv_istore (lv' := [(10, .int 0), (9, .int 0), (8, .int (nI kc)), (7, .int (nI n)), (5, .long (xDg n kc f ks td)), (0, .ref b), (1, .ref q0), (2, .ref s0), (3, .int (nI tm)), (4, .int x)]) hx hb dL_law_104 hl (by decide) rfl (fun ls hl => ?_)
  refine lv_iconst (v := 0) hx hb dL_law_106 (by decide) ?_
  refine lv_istore (lv' := [(11, .int 0), (10, .int 0), (9, .int 0), (8, .int (nI kc)), (7, .int (nI n)), (5, .long (xDg n kc f ks td)), (0, .ref b), (1, .ref q0), (2, .ref s0), (3, .int (nI tm)), (4, .int x)]) hx hb dL_law_107 hl (by decide) rfl (fun ls hl => ?_)
  refine lv_iconst (v := 0) hx hb dL_law_109 (by decide) ?_
  refine lv_istore (lv' := [(12, .int 0), (11, .int 0), (10, .int 0), (9, .int 0), (8, .int (nI kc)), (7, .int (nI n)), (5, .long (xDg n kc f ks td)), (0, .ref b), (1, .ref q0), (2, .ref s0), (3, .int (nI tm)), (4, .int x)]) hx hb dL_law_110 hl (by decide) rfl (fun ls hl => ?_)
  have loop112 : ∀ j : Nat, ∀ (k : Nat), k + j = n → ∀ ls : Array Slot, lv_has ls 27 [(0, .ref b), (1, .ref q0), (2, .ref s0), (3, .int (nI tm)), (4, .int x), (5, .long (xDg n kc f ks td)), (7, .int (nI n)), (8, .int (nI kc)), (9, .int (xTS n f k)), (10, .int (nI (xCnt (xLv n f) k))), (11, .int (nI (xCnt (xSt n f) k))), (12, .int (nI k))] → W p l e room_1 s m args below meth c H locs cells slots Q (F0 m 112 ls []) := by
    intro j
    induction j with
    | zero =>
      intro k hj ls hl
      refine lv_iload hx hb dL_law_112 (lv_at hl 11 rfl) ?_
      refine lv_iload hx hb dL_law_114 (lv_at hl 6 rfl) ?_
      refine lv_icmp_ge (tgt := 256) hx hb dL_law_116 (by decide) (fun _ => ?_) (fun c => absurd (nI_le (a := n) (b := k) (by omega) (by omega)) c)
      have hk9 : k = n := by omega
      rw [hk9] at hl
      have hcs := xCnt_le (xSt n f) n
      have hcl := xCnt_le (xLv n f) n
      refine lv_iload hx hb dL_law_256 (lv_at hl 8 rfl) ?_
      refine lv_if_ne (tgt := 345) hx hb dL_law_258 (by decide) (fun c => absurd (xTS_0 hn0 hn1) c) (fun _ => ?_)
      refine lv_iload hx hb dL_law_261 (lv_at hl 9 rfl) ?_
      refine lv_aload_n hx hb dL_law_263 rfl (lv_at hl 1 rfl) ?_
      refine xVR (q0 := 0) (ci := 2) (As := []) (rest := [.int (nI (xCnt (xLv n f) n))]) (stk := [.int (nI (xCnt (xLv n f) n)), .int (nI (xCnt (xLv n f) n))]) ⟨hx, hb, hml, hown, hts⟩ (c_X2_levelAxes γ l q0 q1 q2 q3 q4 kc td a1 n f (by omega) (by omega)) (cwV 0 hts gL_law_X2_levelAxes rfl rfl rfl hdv_X2_levelAxes ⟨(Nat.le_of_ble_eq_true rfl), (Nat.le_of_ble_eq_true rfl)⟩) hK hP [0, 1, 2] rfl rfl rfl rfl hl.1 rfl (Nat.le_of_ble_eq_true rfl) dL_law_264 ⟨(by omega : _ ≤ 600172), (by omega : _ ≤ 7300668)⟩ rfl ?_
      refine lv_icmp_ne (tgt := 345) hx hb dL_law_267 (by decide) (fun c => absurd (rfl) c) (fun _ => ?_)
      refine lv_iload hx hb dL_law_270 (lv_at hl 10 rfl) ?_
      refine lv_aload_n hx hb dL_law_272 rfl (lv_at hl 1 rfl) ?_
      refine xVR (q0 := 0) (ci := 2) (As := []) (rest := [.int (nI (xCnt (xSt n f) n))]) (stk := [.int (nI (xCnt (xSt n f) n)), .int (nI (xCnt (xSt n f) n))]) ⟨hx, hb, hml, hown, hts⟩ (c_X2_steepPlaces γ l q0 q1 q2 q3 q4 kc td a1 n f (by omega) (by omega)) (cwV 0 hts gL_law_X2_steepPlaces rfl rfl rfl hdv_X2_steepPlaces ⟨(Nat.le_of_ble_eq_true rfl), (Nat.le_of_ble_eq_true rfl)⟩) hK hP [0, 1, 2] rfl rfl rfl rfl hl.1 rfl (Nat.le_of_ble_eq_true rfl) dL_law_273 ⟨(by omega : _ ≤ 600172), (by omega : _ ≤ 7300668)⟩ rfl ?_
      refine lv_icmp_ne (tgt := 345) hx hb dL_law_276 (by decide) (fun c => absurd (rfl) c) (fun _ => ?_)
      refine lv_iload hx hb dL_law_279 (lv_at hl 10 rfl) ?_
      have J289 : W p l e room_1 s m args below meth c H locs cells slots Q (F0 m 289 ls [.int (if xCnt (xSt n f) n = 0 then 1 else 0)]) := by
        skip
        refine lv_aload_n hx hb dL_law_289 rfl (lv_at hl 1 rfl) ?_
        refine xVR (q0 := 0) (ci := 2) (As := []) (rest := [.int (if xCnt (xSt n f) n = 0 then 1 else 0)]) (stk := [.int (xFi (xSt n f) n), .int (if xCnt (xSt n f) n = 0 then 1 else 0)]) ⟨hx, hb, hml, hown, hts⟩ (c_X2_nextToTip γ l q0 q1 q2 q3 q4 kc td a1 n f (by omega) (by omega)) (cwV 0 hts gL_law_X2_nextToTip rfl rfl rfl hdv_X2_nextToTip ⟨(Nat.le_of_ble_eq_true rfl), (Nat.le_of_ble_eq_true rfl)⟩) hK hP [0, 1, 2] rfl rfl rfl rfl hl.1 rfl (Nat.le_of_ble_eq_true rfl) dL_law_290 ⟨(by omega : _ ≤ 600172), (by omega : _ ≤ 7300668)⟩ rfl ?_
        have J301 : W p l e room_1 s m args below meth c H locs cells slots Q (F0 m 301 ls [.int (if xCnt (xSt n f) n = 0 then 1 else 0), .int (if xCnt (xSt n f) n = 0 then 1 else 0)]) := by
          skip
          refine lv_icmp_ne (tgt := 345) hx hb dL_law_301 (by decide) (fun c => absurd (rfl) c) (fun _ => ?_)
          refine lv_iload hx hb dL_law_304 (lv_at hl 10 rfl) ?_
          refine lv_if_le (tgt := 320) hx hb dL_law_306 (by decide) (fun c306 => ?_) (fun c306 => ?_)
          · skip
            refine lv_aload_n hx hb dL_law_320 rfl (lv_at hl 1 rfl) ?_
            refine xVM (q0 := 0) (ci := 2) (As := []) (rest := []) ⟨hx, hb, hml, hown, hts⟩ (c_X2_stepsToRest γ l q0 q1 q2 q3 q4 kc td a1 n f a2 tn146x tf147x (by omega) (by omega)) (cwV 0 hts gL_law_X2_stepsToRest rfl rfl rfl hdv_X2_stepsToRest ⟨(Nat.le_of_ble_eq_true rfl), (Nat.le_of_ble_eq_true rfl)⟩) hK hP hD hS hA [0, 1, 2, 3, 4] rfl rfl rfl rfl rfl hl.1 rfl (Nat.le_of_ble_eq_true rfl) dL_law_321 ⟨(by omega : _ ≤ 600172), (by omega : _ ≤ 7300668)⟩ (fun r9 w9 H locs hw hP hD hS => ?_)
            obtain ⟨rfl, tn150x, tf151x, rfl⟩ := hw
            have hP : xP γ (([xO q0 2 [.ref q1, .ref q4, .int (nI kc), .int td, .ref q2, .ref q3], xO q1 0 [.ref a1, .int (nI n)], xA γ a1 12 f, xO q2 0 [.ref a2, .int tn150x], xA γ a2 12 tf151x, xO q3 1 [.ref a3, .int wn148x], xA γ a3 12 wf149x, xQ γ q4 6 (fun t9 => some (kq t9))] ++ xKp γ kq ka kn ks) ++ ([xO s0 3 [.ref r, .ref tq, .int td], xA γ r n f, xT γ tq kc (fun t9 => some (ta t9))] ++ xTs γ ta n ks kc)) H := hP
            have hD : va_D A (([xO q0 2 [.ref q1, .ref q4, .int (nI kc), .int td, .ref q2, .ref q3], xO q1 0 [.ref a1, .int (nI n)], xA γ a1 12 f, xO q2 0 [.ref a2, .int tn150x], xA γ a2 12 tf151x, xO q3 1 [.ref a3, .int wn148x], xA γ a3 12 wf149x, xQ γ q4 6 (fun t9 => some (kq t9))] ++ xKp γ kq ka kn ks) ++ ([xO s0 3 [.ref r, .ref tq, .int td], xA γ r n f, xT γ tq kc (fun t9 => some (ta t9))] ++ xTs γ ta n ks kc)) := hD
            refine W.eq (g2 := F0 m 324 ls [.int (xRs n f)]) rfl ?_
            have J332 : W p l e room_1 s m args below meth c H locs cells slots Q (F0 m 332 ls [.int (if xCnt (xSt n f) n = 0 then 1 else 0)]) := by
              skip
              refine lv_iload hx hb dL_law_332 (lv_at hl 10 rfl) ?_
              have J342 : W p l e room_1 s m args below meth c H locs cells slots Q (F0 m 342 ls [.int (if xCnt (xSt n f) n = 0 then 1 else 0), .int (if xCnt (xSt n f) n = 0 then 1 else 0)]) := by
                skip
                refine lv_icmp_eq (tgt := 347) hx hb dL_law_342 (by decide) (fun _ => ?_) (fun c => absurd (rfl) c)
                exact K tn150x wn148x tf151x wf149x _ _ _ _ _ (by omega) (by omega) hP hD hS (lv_sub hl [0, 1, 2, 3, 4, 5, 6, 7] rfl)
              refine lv_if_ne (tgt := 341) hx hb dL_law_334 (by decide) (fun c334 => ?_) (fun c334 => ?_)
              · refine lv_iconst (v := 0) hx hb dL_law_341 (by decide) ?_
                exact x_top (y := if xCnt (xSt n f) n = 0 then 1 else 0) (xif_0 (fun h => c334 ((nI_00 (by omega)).mpr h))) J342
              · refine lv_iconst (v := 1) hx hb dL_law_337 (by decide) ?_
                refine lv_goto (tgt := 342) hx hb dL_law_338 (by decide) ?_
                exact x_top (y := if xCnt (xSt n f) n = 0 then 1 else 0) (xif_1 ((nI_00 (by omega)).mp c334)) J342
            refine lv_if_ne (tgt := 331) hx hb dL_law_324 (by decide) (fun c324 => ?_) (fun c324 => ?_)
            · refine lv_iconst (v := 0) hx hb dL_law_331 (by decide) ?_
              exact x_top (y := if xCnt (xSt n f) n = 0 then 1 else 0) (xif_0 (fun h => c324 ((xRs_0 hn1).mpr h))) J332
            · refine lv_iconst (v := 1) hx hb dL_law_327 (by decide) ?_
              refine lv_goto (tgt := 332) hx hb dL_law_328 (by decide) ?_
              exact x_top (y := if xCnt (xSt n f) n = 0 then 1 else 0) (xif_1 ((xRs_0 hn1).mp c324)) J332
          · obtain ⟨hf1, hf2, hf3⟩ := xFi_p hn1 c306
            refine lv_aload_n hx hb dL_law_309 rfl (lv_at hl 1 rfl) ?_
            refine lv_aload_n hx hb dL_law_310 rfl (lv_at hl 1 rfl) ?_
            refine xVR (q0 := 0) (ci := 2) (As := []) (rest := [.ref q0]) (stk := [.int (xFi (xSt n f) n), .ref q0]) ⟨hx, hb, hml, hown, hts⟩ (c_X2_nextToTip γ l q0 q1 q2 q3 q4 kc td a1 n f (by omega) (by omega)) (cwV 0 hts gL_law_X2_nextToTip rfl rfl rfl hdv_X2_nextToTip ⟨(Nat.le_of_ble_eq_true rfl), (Nat.le_of_ble_eq_true rfl)⟩) hK hP [0, 1, 2] rfl rfl rfl rfl hl.1 rfl (Nat.le_of_ble_eq_true rfl) dL_law_311 ⟨(by omega : _ ≤ 600172), (by omega : _ ≤ 7300668)⟩ rfl ?_
            refine x_top (y := nI (xFirst (xSt n f) n)) (hf2) ?_
            refine xVR (q0 := 0) (ci := 2) (As := [.int (nI (xFirst (xSt n f) n))]) (rest := []) (stk := [.int (if xSt n f (xFirst (xSt n f) n) = true then 1 else 0)]) ⟨hx, hb, hml, hown, hts⟩ (c_X2_isSteep γ l q0 q1 q2 q3 q4 kc td a1 n f (xFirst (xSt n f) n) (by omega) (by omega) (by omega)) (cwV 1 hts gL_law_X2_isSteep rfl rfl rfl hdv_X2_isSteep ⟨(Nat.le_of_ble_eq_true rfl), (Nat.le_of_ble_eq_true rfl)⟩) hK hP [0, 1, 2] rfl rfl rfl rfl hl.1 rfl (Nat.le_of_ble_eq_true rfl) dL_law_314 ⟨(by omega : _ ≤ 600172), (by omega : _ ≤ 7300668)⟩ rfl ?_
            refine lv_if_eq (tgt := 345) hx hb dL_law_317 (by decide) (fun c => absurd c (by rw [if_pos hf3]; decide)) (fun _ => ?_)
            refine lv_aload_n hx hb dL_law_320 rfl (lv_at hl 1 rfl) ?_
            refine xVM (q0 := 0) (ci := 2) (As := []) (rest := []) ⟨hx, hb, hml, hown, hts⟩ (c_X2_stepsToRest γ l q0 q1 q2 q3 q4 kc td a1 n f a2 tn146x tf147x (by omega) (by omega)) (cwV 0 hts gL_law_X2_stepsToRest rfl rfl rfl hdv_X2_stepsToRest ⟨(Nat.le_of_ble_eq_true rfl), (Nat.le_of_ble_eq_true rfl)⟩) hK hP hD hS hA [0, 1, 2, 3, 4] rfl rfl rfl rfl rfl hl.1 rfl (Nat.le_of_ble_eq_true rfl) dL_law_321 ⟨(by omega : _ ≤ 600172), (by omega : _ ≤ 7300668)⟩ (fun r9 w9 H locs hw hP hD hS => ?_)
            obtain ⟨rfl, tn152x, tf153x, rfl⟩ := hw
            have hP : xP γ (([xO q0 2 [.ref q1, .ref q4, .int (nI kc), .int td, .ref q2, .ref q3], xO q1 0 [.ref a1, .int (nI n)], xA γ a1 12 f, xO q2 0 [.ref a2, .int tn152x], xA γ a2 12 tf153x, xO q3 1 [.ref a3, .int wn148x], xA γ a3 12 wf149x, xQ γ q4 6 (fun t9 => some (kq t9))] ++ xKp γ kq ka kn ks) ++ ([xO s0 3 [.ref r, .ref tq, .int td], xA γ r n f, xT γ tq kc (fun t9 => some (ta t9))] ++ xTs γ ta n ks kc)) H := hP
            have hD : va_D A (([xO q0 2 [.ref q1, .ref q4, .int (nI kc), .int td, .ref q2, .ref q3], xO q1 0 [.ref a1, .int (nI n)], xA γ a1 12 f, xO q2 0 [.ref a2, .int tn152x], xA γ a2 12 tf153x, xO q3 1 [.ref a3, .int wn148x], xA γ a3 12 wf149x, xQ γ q4 6 (fun t9 => some (kq t9))] ++ xKp γ kq ka kn ks) ++ ([xO s0 3 [.ref r, .ref tq, .int td], xA γ r n f, xT γ tq kc (fun t9 => some (ta t9))] ++ xTs γ ta n ks kc)) := hD
            refine W.eq (g2 := F0 m 324 ls [.int (xRs n f)]) rfl ?_
            have J332 : W p l e room_1 s m args below meth c H locs cells slots Q (F0 m 332 ls [.int (if xCnt (xSt n f) n = 0 then 1 else 0)]) := by
              skip
              refine lv_iload hx hb dL_law_332 (lv_at hl 10 rfl) ?_
              have J342 : W p l e room_1 s m args below meth c H locs cells slots Q (F0 m 342 ls [.int (if xCnt (xSt n f) n = 0 then 1 else 0), .int (if xCnt (xSt n f) n = 0 then 1 else 0)]) := by
                skip
                refine lv_icmp_eq (tgt := 347) hx hb dL_law_342 (by decide) (fun _ => ?_) (fun c => absurd (rfl) c)
                exact K tn152x wn148x tf153x wf149x _ _ _ _ _ (by omega) (by omega) hP hD hS (lv_sub hl [0, 1, 2, 3, 4, 5, 6, 7] rfl)
              refine lv_if_ne (tgt := 341) hx hb dL_law_334 (by decide) (fun c334 => ?_) (fun c334 => ?_)
              · refine lv_iconst (v := 0) hx hb dL_law_341 (by decide) ?_
                exact x_top (y := if xCnt (xSt n f) n = 0 then 1 else 0) (xif_0 (fun h => c334 ((nI_00 (by omega)).mpr h))) J342
              · refine lv_iconst (v := 1) hx hb dL_law_337 (by decide) ?_
                refine lv_goto (tgt := 342) hx hb dL_law_338 (by decide) ?_
                exact x_top (y := if xCnt (xSt n f) n = 0 then 1 else 0) (xif_1 ((nI_00 (by omega)).mp c334)) J342
            refine lv_if_ne (tgt := 331) hx hb dL_law_324 (by decide) (fun c324 => ?_) (fun c324 => ?_)
            · refine lv_iconst (v := 0) hx hb dL_law_331 (by decide) ?_
              exact x_top (y := if xCnt (xSt n f) n = 0 then 1 else 0) (xif_0 (fun h => c324 ((xRs_0 hn1).mpr h))) J332
            · refine lv_iconst (v := 1) hx hb dL_law_327 (by decide) ?_
              refine lv_goto (tgt := 332) hx hb dL_law_328 (by decide) ?_
              exact x_top (y := if xCnt (xSt n f) n = 0 then 1 else 0) (xif_1 ((xRs_0 hn1).mp c324)) J332
        refine lv_if_ge (tgt := 300) hx hb dL_law_293 (by decide) (fun c293 => ?_) (fun c293 => ?_)
        · refine lv_iconst (v := 0) hx hb dL_law_300 (by decide) ?_
          exact x_top (y := if xCnt (xSt n f) n = 0 then 1 else 0) (xif_0 ((xFi_c hn1).mp c293)) J301
        · refine lv_iconst (v := 1) hx hb dL_law_296 (by decide) ?_
          refine lv_goto (tgt := 301) hx hb dL_law_297 (by decide) ?_
          exact x_top (y := if xCnt (xSt n f) n = 0 then 1 else 0) (xif_1 (Classical.byContradiction (fun h => c293 ((xFi_c hn1).mpr h)))) J301
      refine lv_if_ne (tgt := 288) hx hb dL_law_281 (by decide) (fun c281 => ?_) (fun c281 => ?_)
      · refine lv_iconst (v := 0) hx hb dL_law_288 (by decide) ?_
        exact x_top (y := if xCnt (xSt n f) n = 0 then 1 else 0) (xif_0 (fun h => c281 ((nI_00 (by omega)).mpr h))) J289
      · refine lv_iconst (v := 1) hx hb dL_law_284 (by decide) ?_
        refine lv_goto (tgt := 289) hx hb dL_law_285 (by decide) ?_
        exact x_top (y := if xCnt (xSt n f) n = 0 then 1 else 0) (xif_1 ((nI_00 (by omega)).mp c281)) J289
    | succ j ih112 =>
      intro k hj ls hl
      refine lv_iload hx hb dL_law_112 (lv_at hl 11 rfl) ?_
      refine lv_iload hx hb dL_law_114 (lv_at hl 6 rfl) ?_
      refine lv_icmp_ge (tgt := 256) hx hb dL_law_116 (by decide) (fun c => absurd c (nI_ge (a := k) (b := n) (by omega) (by omega))) (fun _ => ?_)
      have hba := xBa_le (xTlt n f) (n - 1)
      have hto := xTopI_le f (n - 1)
      refine lv_iload hx hb dL_law_119 (lv_at hl 8 rfl) ?_
      refine lv_aload_n hx hb dL_law_121 rfl (lv_at hl 1 rfl) ?_
      refine lv_iload hx hb dL_law_122 (lv_at hl 11 rfl) ?_
      refine xVR (q0 := 0) (ci := 2) (As := [.int (nI k)]) (rest := [.int (xTS n f k)]) (stk := [.int (xTlt n f k), .int (xTS n f k)]) ⟨hx, hb, hml, hown, hts⟩ (c_X2_tilt γ l q0 q1 q2 q3 q4 kc td a1 n f k (by omega) (by omega) (by omega)) (cwV 1 hts gL_law_X2_tilt rfl rfl rfl hdv_X2_tilt ⟨(Nat.le_of_ble_eq_true rfl), (Nat.le_of_ble_eq_true rfl)⟩) hK hP [0, 1, 2] rfl rfl rfl rfl hl.1 rfl (Nat.le_of_ble_eq_true rfl) dL_law_124 ⟨(by omega : _ ≤ 600172), (by omega : _ ≤ 7300668)⟩ rfl ?_
      refine lv_iadd hx hb dL_law_127 ?_
      refine x_top (y := xTS n f (k + 1)) (rfl) ?_
      refine lv_istore (lv' := [(9, .int (xTS n f (k + 1))), (0, .ref b), (1, .ref q0), (2, .ref s0), (3, .int (nI tm)), (4, .int x), (5, .long (xDg n kc f ks td)), (7, .int (nI n)), (8, .int (nI kc)), (10, .int (nI (xCnt (xLv n f) k))), (11, .int (nI (xCnt (xSt n f) k))), (12, .int (nI k))]) hx hb dL_law_128 hl (by decide) rfl (fun ls hl => ?_)
      refine lv_iload hx hb dL_law_130 (lv_at hl 9 rfl) ?_
      refine lv_aload_n hx hb dL_law_132 rfl (lv_at hl 2 rfl) ?_
      refine lv_iload hx hb dL_law_133 (lv_at hl 11 rfl) ?_
      refine xVR (q0 := 0) (ci := 2) (As := [.int (nI k)]) (rest := [.int (nI (xCnt (xLv n f) k))]) (stk := [.int (xTlt n f k), .int (nI (xCnt (xLv n f) k))]) ⟨hx, hb, hml, hown, hts⟩ (c_X2_tilt γ l q0 q1 q2 q3 q4 kc td a1 n f k (by omega) (by omega) (by omega)) (cwV 1 hts gL_law_X2_tilt rfl rfl rfl hdv_X2_tilt ⟨(Nat.le_of_ble_eq_true rfl), (Nat.le_of_ble_eq_true rfl)⟩) hK hP [0, 1, 2] rfl rfl rfl rfl hl.1 rfl (Nat.le_of_ble_eq_true rfl) dL_law_135 ⟨(by omega : _ ≤ 600172), (by omega : _ ≤ 7300668)⟩ rfl ?_
      have J146 : W p l e room_1 s m args below meth c H locs cells slots Q (F0 m 146 ls [.int (if xLv n f k = true then 1 else 0), .int (nI (xCnt (xLv n f) k))]) := by
        skip
        refine lv_iadd hx hb dL_law_146 ?_
        refine x_top (y := nI (xCnt (xLv n f) (k + 1))) (xCnt_s) ?_
        refine lv_istore (lv' := [(10, .int (nI (xCnt (xLv n f) (k + 1)))), (9, .int (xTS n f (k + 1))), (0, .ref b), (1, .ref q0), (2, .ref s0), (3, .int (nI tm)), (4, .int x), (5, .long (xDg n kc f ks td)), (7, .int (nI n)), (8, .int (nI kc)), (11, .int (nI (xCnt (xSt n f) k))), (12, .int (nI k))]) hx hb dL_law_147 hl (by decide) rfl (fun ls hl => ?_)
        refine lv_iload hx hb dL_law_149 (lv_at hl 10 rfl) ?_
        refine lv_aload_n hx hb dL_law_151 rfl (lv_at hl 3 rfl) ?_
        refine lv_iload hx hb dL_law_152 (lv_at hl 11 rfl) ?_
        refine xVR (q0 := 0) (ci := 2) (As := [.int (nI k)]) (rest := [.int (nI (xCnt (xSt n f) k))]) (stk := [.int (if xSt n f k = true then 1 else 0), .int (nI (xCnt (xSt n f) k))]) ⟨hx, hb, hml, hown, hts⟩ (c_X2_isSteep γ l q0 q1 q2 q3 q4 kc td a1 n f k (by omega) (by omega) (by omega)) (cwV 1 hts gL_law_X2_isSteep rfl rfl rfl hdv_X2_isSteep ⟨(Nat.le_of_ble_eq_true rfl), (Nat.le_of_ble_eq_true rfl)⟩) hK hP [0, 1, 2] rfl rfl rfl rfl hl.1 rfl (Nat.le_of_ble_eq_true rfl) dL_law_154 ⟨(by omega : _ ≤ 600172), (by omega : _ ≤ 7300668)⟩ rfl ?_
        have J165 : W p l e room_1 s m args below meth c H locs cells slots Q (F0 m 165 ls [.int (if xSt n f k = true then 1 else 0), .int (nI (xCnt (xSt n f) k))]) := by
          skip
          refine lv_iadd hx hb dL_law_165 ?_
          refine x_top (y := nI (xCnt (xSt n f) (k + 1))) (xCnt_s) ?_
          refine lv_istore (lv' := [(11, .int (nI (xCnt (xSt n f) (k + 1)))), (10, .int (nI (xCnt (xLv n f) (k + 1)))), (9, .int (xTS n f (k + 1))), (0, .ref b), (1, .ref q0), (2, .ref s0), (3, .int (nI tm)), (4, .int x), (5, .long (xDg n kc f ks td)), (7, .int (nI n)), (8, .int (nI kc)), (12, .int (nI k))]) hx hb dL_law_166 hl (by decide) rfl (fun ls hl => ?_)
          refine lv_aload_n hx hb dL_law_168 rfl (lv_at hl 4 rfl) ?_
          refine lv_iload hx hb dL_law_169 (lv_at hl 11 rfl) ?_
          refine xVR (q0 := 0) (ci := 2) (As := [.int (nI k)]) (rest := []) (stk := [.int (xTlt n f k)]) ⟨hx, hb, hml, hown, hts⟩ (c_X2_tilt γ l q0 q1 q2 q3 q4 kc td a1 n f k (by omega) (by omega) (by omega)) (cwV 1 hts gL_law_X2_tilt rfl rfl rfl hdv_X2_tilt ⟨(Nat.le_of_ble_eq_true rfl), (Nat.le_of_ble_eq_true rfl)⟩) hK hP [0, 1, 2] rfl rfl rfl rfl hl.1 rfl (Nat.le_of_ble_eq_true rfl) dL_law_171 ⟨(by omega : _ ≤ 600172), (by omega : _ ≤ 7300668)⟩ rfl ?_
          refine va_mabs hx hb (hml.trans hl.1.symm) hown (hts _ wdL_law_m47a) (hts _ wdL_law_m47b) (hts _ wdL_law_m47c) (hts _ wdL_law_m47d) (Nat.le_of_ble_eq_true rfl) (Nat.le_of_ble_eq_true rfl) (by omega : _ ≤ 600172) (by omega : _ ≤ 7300668) dL_law_174 ?_
          refine x_top (y := xAbs (xTlt n f k)) (rfl) ?_
          refine lv_aload_n hx hb dL_law_177 rfl (lv_at hl 4 rfl) ?_
          refine lv_aload_n hx hb dL_law_178 rfl (lv_at hl 4 rfl) ?_
          refine xVR (q0 := 0) (ci := 2) (As := []) (rest := [.ref q0, .int (xAbs (xTlt n f k))]) (stk := [.int (nI (xBa (xTlt n f) (n - 1))), .ref q0, .int (xAbs (xTlt n f k))]) ⟨hx, hb, hml, hown, hts⟩ (c_X2_bestAxis γ l q0 q1 q2 q3 q4 kc td a1 n f (by omega) (by omega)) (cwV 0 hts gL_law_X2_bestAxis rfl rfl rfl hdv_X2_bestAxis ⟨(Nat.le_of_ble_eq_true rfl), (Nat.le_of_ble_eq_true rfl)⟩) hK hP [0, 1, 2] rfl rfl rfl rfl hl.1 rfl (Nat.le_of_ble_eq_true rfl) dL_law_179 ⟨(by omega : _ ≤ 600172), (by omega : _ ≤ 7300668)⟩ rfl ?_
          refine xVR (q0 := 0) (ci := 2) (As := [.int (nI (xBa (xTlt n f) (n - 1)))]) (rest := [.int (xAbs (xTlt n f k))]) (stk := [.int (xTlt n f (xBa (xTlt n f) (n - 1))), .int (xAbs (xTlt n f k))]) ⟨hx, hb, hml, hown, hts⟩ (c_X2_tilt γ l q0 q1 q2 q3 q4 kc td a1 n f (xBa (xTlt n f) (n - 1)) (by omega) (by omega) (by omega)) (cwV 1 hts gL_law_X2_tilt rfl rfl rfl hdv_X2_tilt ⟨(Nat.le_of_ble_eq_true rfl), (Nat.le_of_ble_eq_true rfl)⟩) hK hP [0, 1, 2] rfl rfl rfl rfl hl.1 rfl (Nat.le_of_ble_eq_true rfl) dL_law_182 ⟨(by omega : _ ≤ 600172), (by omega : _ ≤ 7300668)⟩ rfl ?_
          refine va_mabs hx hb (hml.trans hl.1.symm) hown (hts _ wdL_law_m47a) (hts _ wdL_law_m47b) (hts _ wdL_law_m47c) (hts _ wdL_law_m47d) (Nat.le_of_ble_eq_true rfl) (Nat.le_of_ble_eq_true rfl) (by omega : _ ≤ 600172) (by omega : _ ≤ 7300668) dL_law_185 ?_
          refine x_top (y := xAbs (xTlt n f (xBa (xTlt n f) (n - 1)))) (rfl) ?_
          refine lv_icmp_lt (tgt := 248) hx hb dL_law_188 (by decide) (fun c => absurd c (xBest (by omega))) (fun _ => ?_)
          refine lv_aload_n hx hb dL_law_191 rfl (lv_at hl 4 rfl) ?_
          refine lv_iload hx hb dL_law_192 (lv_at hl 11 rfl) ?_
          refine xVR (q0 := 0) (ci := 2) (As := [.int (nI k)]) (rest := []) (stk := [.int (f k)]) ⟨hx, hb, hml, hown, hts⟩ (c_X2_numberAt γ l q0 q1 q2 q3 q4 kc td a1 n f k (by omega) (by omega) (by omega)) (cwV 1 hts gL_law_X2_numberAt rfl rfl rfl hdv_X2_numberAt ⟨(Nat.le_of_ble_eq_true rfl), (Nat.le_of_ble_eq_true rfl)⟩) hK hP [0, 1, 2] rfl rfl rfl rfl hl.1 rfl (Nat.le_of_ble_eq_true rfl) dL_law_194 ⟨(by omega : _ ≤ 600172), (by omega : _ ≤ 7300668)⟩ rfl ?_
          refine lv_aload_n hx hb dL_law_197 rfl (lv_at hl 4 rfl) ?_
          refine lv_aload_n hx hb dL_law_198 rfl (lv_at hl 4 rfl) ?_
          refine xVR (q0 := 0) (ci := 2) (As := []) (rest := [.ref q0, .int (f k)]) (stk := [.int (nI (xTopI f (n - 1))), .ref q0, .int (f k)]) ⟨hx, hb, hml, hown, hts⟩ (c_X2_highest γ l q0 q1 q2 q3 q4 kc td a1 n f (by omega) (by omega)) (cwV 0 hts gL_law_X2_highest rfl rfl rfl hdv_X2_highest ⟨(Nat.le_of_ble_eq_true rfl), (Nat.le_of_ble_eq_true rfl)⟩) hK hP [0, 1, 2] rfl rfl rfl rfl hl.1 rfl (Nat.le_of_ble_eq_true rfl) dL_law_199 ⟨(by omega : _ ≤ 600172), (by omega : _ ≤ 7300668)⟩ rfl ?_
          refine xVR (q0 := 0) (ci := 2) (As := [.int (nI (xTopI f (n - 1)))]) (rest := [.int (f k)]) (stk := [.int (f (xTopI f (n - 1))), .int (f k)]) ⟨hx, hb, hml, hown, hts⟩ (c_X2_numberAt γ l q0 q1 q2 q3 q4 kc td a1 n f (xTopI f (n - 1)) (by omega) (by omega) (by omega)) (cwV 1 hts gL_law_X2_numberAt rfl rfl rfl hdv_X2_numberAt ⟨(Nat.le_of_ble_eq_true rfl), (Nat.le_of_ble_eq_true rfl)⟩) hK hP [0, 1, 2] rfl rfl rfl rfl hl.1 rfl (Nat.le_of_ble_eq_true rfl) dL_law_202 ⟨(by omega : _ ≤ 600172), (by omega : _ ≤ 7300668)⟩ rfl ?_
          refine lv_icmp_gt (tgt := 248) hx hb dL_law_205 (by decide) (fun c => absurd c (xTop_ge (by omega))) (fun _ => ?_)
          refine lv_aload_n hx hb dL_law_208 rfl (lv_at hl 4 rfl) ?_
          refine lv_iload hx hb dL_law_209 (lv_at hl 11 rfl) ?_
          refine xVR (q0 := 0) (ci := 2) (As := [.int (nI k)]) (rest := []) (stk := [.int (f k)]) ⟨hx, hb, hml, hown, hts⟩ (c_X2_numberAt γ l q0 q1 q2 q3 q4 kc td a1 n f k (by omega) (by omega) (by omega)) (cwV 1 hts gL_law_X2_numberAt rfl rfl rfl hdv_X2_numberAt ⟨(Nat.le_of_ble_eq_true rfl), (Nat.le_of_ble_eq_true rfl)⟩) hK hP [0, 1, 2] rfl rfl rfl rfl hl.1 rfl (Nat.le_of_ble_eq_true rfl) dL_law_211 ⟨(by omega : _ ≤ 600172), (by omega : _ ≤ 7300668)⟩ rfl ?_
          refine lv_aload_n hx hb dL_law_214 rfl (lv_at hl 4 rfl) ?_
          refine lv_aload_n hx hb dL_law_215 rfl (lv_at hl 4 rfl) ?_
          refine xVR (q0 := 0) (ci := 2) (As := []) (rest := [.ref q0, .int (f k)]) (stk := [.int (nI (xTopI f (n - 1))), .ref q0, .int (f k)]) ⟨hx, hb, hml, hown, hts⟩ (c_X2_highest γ l q0 q1 q2 q3 q4 kc td a1 n f (by omega) (by omega)) (cwV 0 hts gL_law_X2_highest rfl rfl rfl hdv_X2_highest ⟨(Nat.le_of_ble_eq_true rfl), (Nat.le_of_ble_eq_true rfl)⟩) hK hP [0, 1, 2] rfl rfl rfl rfl hl.1 rfl (Nat.le_of_ble_eq_true rfl) dL_law_216 ⟨(by omega : _ ≤ 600172), (by omega : _ ≤ 7300668)⟩ rfl ?_
          refine xVR (q0 := 0) (ci := 2) (As := [.int (nI (xTopI f (n - 1)))]) (rest := [.int (f k)]) (stk := [.int (f (xTopI f (n - 1))), .int (f k)]) ⟨hx, hb, hml, hown, hts⟩ (c_X2_numberAt γ l q0 q1 q2 q3 q4 kc td a1 n f (xTopI f (n - 1)) (by omega) (by omega) (by omega)) (cwV 1 hts gL_law_X2_numberAt rfl rfl rfl hdv_X2_numberAt ⟨(Nat.le_of_ble_eq_true rfl), (Nat.le_of_ble_eq_true rfl)⟩) hK hP [0, 1, 2] rfl rfl rfl rfl hl.1 rfl (Nat.le_of_ble_eq_true rfl) dL_law_219 ⟨(by omega : _ ≤ 600172), (by omega : _ ≤ 7300668)⟩ rfl ?_
          refine lv_aload_n hx hb dL_law_222 rfl (lv_at hl 4 rfl) ?_
          refine xVR (q0 := 0) (ci := 2) (As := []) (rest := [.int (f (xTopI f (n - 1))), .int (f k)]) (stk := [.int (xSpn n f), .int (f (xTopI f (n - 1))), .int (f k)]) ⟨hx, hb, hml, hown, hts⟩ (c_X2_spread γ l q0 q1 q2 q3 q4 kc td a1 n f (by omega) (by omega)) (cwV 0 hts gL_law_X2_spread rfl rfl rfl hdv_X2_spread ⟨(Nat.le_of_ble_eq_true rfl), (Nat.le_of_ble_eq_true rfl)⟩) hK hP [0, 1, 2] rfl rfl rfl rfl hl.1 rfl (Nat.le_of_ble_eq_true rfl) dL_law_223 ⟨(by omega : _ ≤ 600172), (by omega : _ ≤ 7300668)⟩ rfl ?_
          refine lv_isub hx hb dL_law_226 ?_
          refine lv_icmp_lt (tgt := 248) hx hb dL_law_227 (by decide) (fun c => absurd c (xLow_le (by omega))) (fun _ => ?_)
          refine lv_aload_n hx hb dL_law_230 rfl (lv_at hl 4 rfl) ?_
          refine lv_iload hx hb dL_law_231 (lv_at hl 11 rfl) ?_
          refine xVR (q0 := 0) (ci := 2) (As := [.int (nI k)]) (rest := []) (stk := [.int (if xSt n f k = true then 1 else 0)]) ⟨hx, hb, hml, hown, hts⟩ (c_X2_isSteep γ l q0 q1 q2 q3 q4 kc td a1 n f k (by omega) (by omega) (by omega)) (cwV 1 hts gL_law_X2_isSteep rfl rfl rfl hdv_X2_isSteep ⟨(Nat.le_of_ble_eq_true rfl), (Nat.le_of_ble_eq_true rfl)⟩) hK hP [0, 1, 2] rfl rfl rfl rfl hl.1 rfl (Nat.le_of_ble_eq_true rfl) dL_law_233 ⟨(by omega : _ ≤ 600172), (by omega : _ ≤ 7300668)⟩ rfl ?_
          refine lv_if_eq (tgt := 250) hx hb dL_law_236 (by decide) (fun c236 => ?_) (fun c236 => ?_)
          · refine lv_iinc (v := nI (k + 1)) (lv' := [(12, .int (nI (k + 1))), (11, .int (nI (xCnt (xSt n f) (k + 1)))), (10, .int (nI (xCnt (xLv n f) (k + 1)))), (9, .int (xTS n f (k + 1))), (0, .ref b), (1, .ref q0), (2, .ref s0), (3, .int (nI tm)), (4, .int x), (5, .long (xDg n kc f ks td)), (7, .int (nI n)), (8, .int (nI kc))]) hx hb dL_law_250 hl (k := 11) rfl (nI_add k 1) (by decide) rfl (fun ls hl => ?_)
            refine lv_goto (tgt := 112) hx hb dL_law_253 (by decide) ?_
            exact ih112 (k + 1) (by omega) ls (lv_sub hl [4, 5, 6, 7, 8, 9, 10, 11, 3, 2, 1, 0] rfl)
          · refine lv_iload hx hb dL_law_239 (lv_at hl 11 rfl) ?_
            refine lv_aload_n hx hb dL_law_241 rfl (lv_at hl 4 rfl) ?_
            refine xVR (q0 := 0) (ci := 2) (As := []) (rest := [.int (nI k)]) (stk := [.int (xFi (xSt n f) n), .int (nI k)]) ⟨hx, hb, hml, hown, hts⟩ (c_X2_nextToTip γ l q0 q1 q2 q3 q4 kc td a1 n f (by omega) (by omega)) (cwV 0 hts gL_law_X2_nextToTip rfl rfl rfl hdv_X2_nextToTip ⟨(Nat.le_of_ble_eq_true rfl), (Nat.le_of_ble_eq_true rfl)⟩) hK hP [0, 1, 2] rfl rfl rfl rfl hl.1 rfl (Nat.le_of_ble_eq_true rfl) dL_law_242 ⟨(by omega : _ ≤ 600172), (by omega : _ ≤ 7300668)⟩ rfl ?_
            refine lv_icmp_ge (tgt := 250) hx hb dL_law_245 (by decide) (fun _ => ?_) (fun c => absurd (xFi_le hn1 (by omega) (xB_t c236)) c)
            refine lv_iinc (v := nI (k + 1)) (lv' := [(12, .int (nI (k + 1))), (11, .int (nI (xCnt (xSt n f) (k + 1)))), (10, .int (nI (xCnt (xLv n f) (k + 1)))), (9, .int (xTS n f (k + 1))), (0, .ref b), (1, .ref q0), (2, .ref s0), (3, .int (nI tm)), (4, .int x), (5, .long (xDg n kc f ks td)), (7, .int (nI n)), (8, .int (nI kc))]) hx hb dL_law_250 hl (k := 11) rfl (nI_add k 1) (by decide) rfl (fun ls hl => ?_)
            refine lv_goto (tgt := 112) hx hb dL_law_253 (by decide) ?_
            exact ih112 (k + 1) (by omega) ls (lv_sub hl [4, 5, 6, 7, 8, 9, 10, 11, 3, 2, 1, 0] rfl)
        refine lv_if_eq (tgt := 164) hx hb dL_law_157 (by decide) (fun c157 => ?_) (fun c157 => ?_)
        · refine lv_iconst (v := 0) hx hb dL_law_164 (by decide) ?_
          exact x_top (y := if xSt n f k = true then 1 else 0) (c157.symm) J165
        · refine lv_iconst (v := 1) hx hb dL_law_160 (by decide) ?_
          refine lv_goto (tgt := 165) hx hb dL_law_161 (by decide) ?_
          exact x_top (y := if xSt n f k = true then 1 else 0) (xB_1 (xB_t c157)) J165
      refine lv_if_ne (tgt := 145) hx hb dL_law_138 (by decide) (fun c138 => ?_) (fun c138 => ?_)
      · refine lv_iconst (v := 0) hx hb dL_law_145 (by decide) ?_
        exact x_top (y := if xLv n f k = true then 1 else 0) (xB_0 (xLv_f c138)) J146
      · refine lv_iconst (v := 1) hx hb dL_law_141 (by decide) ?_
        refine lv_goto (tgt := 146) hx hb dL_law_142 (by decide) ?_
        exact x_top (y := if xLv n f k = true then 1 else 0) (xB_1 (xLv_t c138)) J146
  exact loop112 n 0 (by omega) ls (lv_sub hl [7, 8, 9, 10, 11, 6, 5, 4, 3, 2, 1, 0] rfl)

/-! the rounds (laid by wip/p38/spec_loop.py) -/
set_option maxHeartbeats 8000000 in
set_option maxRecDepth 100000 in
theorem xloop {p : Program} {l : Launch} {e : Env} {s : State} {m : MethodId} {args : Array Value} {below : List Frame} {meth : Method} {c : Code} (hlt : l.stackTraces = false) (hx : p.tables.exec = Jvm.exec) (hb : c.code = cL_law) (hml : c.maxLocals = 27) (hts : ∀ w ∈ wsL_law, w.before args s = true) (hown : s.vm.findClass RL = some m.cls) {γ : xG} (hK : xK γ s) (sa : Nat → Nat) {A : Nat → Prop} (hEv : xEv s) (hEs : xEs sa s) (hEh : xEh A s s.heap) (hAr : xAz s) (hA : ∀ q : Nat, s.heap.size ≤ q → A q) (q0 q1 a1 q2 a2 q3 a3 q4 s0 : Nat) (kq ka : Nat → Nat) {b L : Nat} {xs : Nat → Int32} (hX : va_X b L xs s s.heap) (hbl : b < s.heap.size) (hbA : ¬ A b) (hL : L ≤ 260) {Q : State → Prop} (K : ∀ (n kc : Nat) (td tn wn : Int32) (f tf wf : xRow) (ks : Nat → xRow) (kn : Nat → Int32) (r tq : Nat) (ta : Nat → Nat) (H : Heap) (locs : List Loc) (ce sl : Nat) (ls : Array Slot), xInv 57 n kc f ks → (∀ t, t < kc → kn t = nI n) → ce ≤ 20000 → sl ≤ 200000 → xP γ (([xO q0 2 [.ref q1, .ref q4, .int (nI kc), .int td, .ref q2, .ref q3], xO q1 0 [.ref a1, .int (nI n)], xA γ a1 12 f, xO q2 0 [.ref a2, .int tn], xA γ a2 12 tf, xO q3 1 [.ref a3, .int wn], xA γ a3 12 wf, xQ γ q4 6 (fun t9 => some (kq t9))] ++ xKp γ kq ka kn ks) ++ ([xO s0 3 [.ref r, .ref tq, .int td], xA γ r n f, xT γ tq kc (fun t9 => some (ta t9))] ++ xTs γ ta n ks kc)) H → va_D A (([xO q0 2 [.ref q1, .ref q4, .int (nI kc), .int td, .ref q2, .ref q3], xO q1 0 [.ref a1, .int (nI n)], xA γ a1 12 f, xO q2 0 [.ref a2, .int tn], xA γ a2 12 tf, xO q3 1 [.ref a3, .int wn], xA γ a3 12 wf, xQ γ q4 6 (fun t9 => some (kq t9))] ++ xKp γ kq ka kn ks) ++ ([xO s0 3 [.ref r, .ref tq, .int td], xA γ r n f, xT γ tq kc (fun t9 => some (ta t9))] ++ xTs γ ta n ks kc)) → va_S A s.heap H locs → lv_has ls 27 [(0, .ref b), (1, .ref q0), (2, .ref s0)] → W p l e room_1 s m args below meth c H locs ce sl Q (F0 m 1225 ls [])) : ∀ (j tm : Nat) (n kc : Nat) (td tn wn : Int32) (f tf wf : xRow) (ks : Nat → xRow) (kn : Nat → Int32) (r tq : Nat) (ta : Nat → Nat) (H : Heap) (locs : List Loc) (cells slots : Nat) (ls : Array Slot), tm + j = 7 → xInv (22 + 5 * tm) n kc f ks → (∀ t, t < kc → kn t = nI n) → cells ≤ 2000 + 1000 * tm → slots ≤ 23000 + 13000 * tm → xP γ (([xO q0 2 [.ref q1, .ref q4, .int (nI kc), .int td, .ref q2, .ref q3], xO q1 0 [.ref a1, .int (nI n)], xA γ a1 12 f, xO q2 0 [.ref a2, .int tn], xA γ a2 12 tf, xO q3 1 [.ref a3, .int wn], xA γ a3 12 wf, xQ γ q4 6 (fun t9 => some (kq t9))] ++ xKp γ kq ka kn ks) ++ ([xO s0 3 [.ref r, .ref tq, .int td], xA γ r n f, xT γ tq kc (fun t9 => some (ta t9))] ++ xTs γ ta n ks kc)) H → va_D A (([xO q0 2 [.ref q1, .ref q4, .int (nI kc), .int td, .ref q2, .ref q3], xO q1 0 [.ref a1, .int (nI n)], xA γ a1 12 f, xO q2 0 [.ref a2, .int tn], xA γ a2 12 tf, xO q3 1 [.ref a3, .int wn], xA γ a3 12 wf, xQ γ q4 6 (fun t9 => some (kq t9))] ++ xKp γ kq ka kn ks) ++ ([xO s0 3 [.ref r, .ref tq, .int td], xA γ r n f, xT γ tq kc (fun t9 => some (ta t9))] ++ xTs γ ta n ks kc)) → va_S A s.heap H locs → lv_has ls 27 [(0, .ref b), (1, .ref q0), (2, .ref s0), (3, .int (nI tm))] → W p l e room_1 s m args below meth c H locs cells slots Q (F0 m 22 ls []) := by
  intro j
  induction j with
  | zero =>
    intro tm n kc td tn wn f tf wf ks kn r tq ta H locs cells slots ls hj hI hkn hc hs hP hD hS hl
    refine lv_iload_n hx hb dL_law_22 rfl (lv_at hl 3 rfl) ?_
    refine lv_bipush (v := 7) hx hb dL_law_23 (by decide) ?_
    refine lv_icmp_ge (tgt := 1225) hx hb dL_law_25 (by decide) (fun _ => ?_) (fun c9 => absurd (nI_le (a := 7) (b := tm) (by omega) (by omega)) c9)
    exact K n kc td tn wn f tf wf ks kn r tq ta H locs cells slots ls (by rw [show 57 = 22 + 5 * tm by omega]; exact hI) hkn (by omega) (by omega) hP hD hS (lv_sub hl [0, 1, 2] rfl)
  | succ j ih =>
    intro tm n kc td tn wn f tf wf ks kn r tq ta H locs cells slots ls hj hI hkn hc hs hP hD hS hl
    refine lv_iload_n hx hb dL_law_22 rfl (lv_at hl 3 rfl) ?_
    refine lv_bipush (v := 7) hx hb dL_law_23 (by decide) ?_
    refine lv_icmp_ge (tgt := 1225) hx hb dL_law_25 (by decide) (fun c9 => absurd c9 (nI_ge (a := tm) (b := 7) (by omega) (by omega))) (fun _ => ?_)
    refine xlaw_acts hlt hx hb hml hts hown hK sa hEv hEs hEh hAr hA q0 q1 a1 q2 a2 q3 a3 q4 s0 kq ka hX hbl hbA hL tm (by omega) n kc td tn wn f tf wf ks kn r tq ta (22 + 5 * tm) (by omega) hI hkn H locs cells slots ls (by omega) (by omega) hP hD hS hl ?_
    clear hI hkn hP hD hS hl
    intro n kc td tn wn f tf wf ks kn r tq ta x H locs ce1 sl1 ls hI hkn hc1 hs1 hP hD hS hl
    have hn0 := hI.1
    have hn1 := hI.2.1
    have hkc := hI.2.2.1
    have hbg := hI.g
    refine xlaw_look hlt hx hb hml hts hown hK sa hEv hEs hEh hAr hA q0 q1 a1 q2 a2 q3 a3 q4 s0 kq ka hX hbl hbA hL tm x n kc td tn wn f tf wf ks kn r tq ta (22 + 5 * tm + 3) hI hkn H locs ce1 sl1 ls (by omega) (by omega) hP hD hS hl ?_
    clear hP hD hS hl
    intro tn wn tf wf H locs ce2 sl2 ls hc2 hs2 hP hD hS hl
    refine xlaw_targets hlt hx hb hml hts hown hK sa hEv hEs hEh hAr hA q0 q1 a1 q2 a2 q3 a3 q4 s0 kq ka hX hbl hbA hL tm x n kc td tn wn f tf wf ks kn r tq ta (22 + 5 * tm + 3) hI hkn H locs ce2 sl2 ls (by omega) (by omega) hP hD hS hl ?_
    clear hP hD hS hl
    intro wn wf g bq H locs ce3 sl3 ls hg hc3 hs3 hP hD hS hl
    refine xlaw_nearest hlt hx hb hml hts hown hK sa hEv hEs hEh hAr hA q0 q1 a1 q2 a2 q3 a3 q4 s0 kq ka hX hbl hbA hL tm x n kc td tn wn f tf wf ks kn r tq ta (22 + 5 * tm + 3) hI hkn bq g H locs ce3 sl3 ls (by omega) (by omega) hP hD hS hl ?_
    clear hP hD hS hl
    intro wn wf H locs ce4 sl4 ls hc4 hs4 hP hD hS hl
    refine xlaw_best hlt hx hb hml hts hown hK sa hEv hEs hEh hAr hA q0 q1 a1 q2 a2 q3 a3 q4 s0 kq ka hX hbl hbA hL tm x n kc td tn wn f tf wf ks kn r tq ta (22 + 5 * tm + 3) hI hkn bq g H locs ce4 sl4 ls (by omega) (by omega) hP hD hS hl ?_
    clear hP hD hS hl
    intro tn tf p9 H locs ce5 sl5 ls hp9 hc5 hs5 hP hD hS hl
    refine xlaw_place hlt hx hb hml hts hown hK sa hEv hEs hEh hAr hA q0 q1 a1 q2 a2 q3 a3 q4 s0 kq ka hX hbl hbA hL tm x n kc td tn wn f tf wf ks kn r tq ta (22 + 5 * tm + 3) hI hkn bq g p9 H locs ce5 sl5 ls (by omega) (by omega) hP hD hS hl ?_
    clear hP hD hS hl
    intro tn wn tf wf H locs ce6 sl6 ls hc6 hs6 hP hD hS hl
    refine xlaw_rest hlt hx hb hml hts hown hK sa hEv hEs hEh hAr hA q0 q1 a1 q2 a2 q3 a3 q4 s0 kq ka hX hbl hbA hL tm x n kc td tn wn f tf wf ks kn r tq ta (22 + 5 * tm + 3) hI hkn bq g p9 hp9 H locs ce6 sl6 ls (by omega) (by omega) hP hD hS hl ?_
    clear hP hD hS hl
    intro tn tf k9 r H locs ce7 sl7 ls hk9 hc7 hs7 hP hD hS hl
    obtain ⟨hT9, hM9⟩ := xTM_stl hn0 hn1 k9 (1000 + 400 * ((22 + 5 * tm + 3) : Nat)) f hI.2.2.2.2.1 (by omega) (by omega)
    refine xlaw_again hlt hx hb hml hts hown hK sa hEv hEs hEh hAr hA q0 q1 a1 q2 a2 q3 a3 q4 s0 kq ka hX hbl hbA hL tm x n kc (td + nI (xStl n k9 f).1) tn wn (xStl n k9 f).2 tf wf ks kn r tq ta f td (xTot f n) (xMm n f) (22 + 5 * tm + 3 + 1) (by omega) (hI.stl (by omega) hk9) hkn bq g p9 hp9 hT9 hM9 (fun i hi => by rw [hg i hi, xCB_keep hT9 hM9]) H locs ce7 sl7 ls (by omega) (by omega) hP hD hS hl ?_
    clear hP hD hS hl
    intro f td r H locs ce8 sl8 ls hI2 hc8 hs8 hP hD hS hl
    refine lv_iinc (v := nI (tm + 1)) (lv' := [(3, .int (nI (tm + 1))), (0, .ref b), (1, .ref q0), (2, .ref s0)]) hx hb dL_law_1219 hl (k := 3) rfl (nI_add tm 1) (by decide) rfl (fun ls hl => ?_)
    refine lv_goto (tgt := 22) hx hb dL_law_1222 (by decide) ?_
    exact ih (tm + 1) n kc td tn wn f tf wf ks kn r tq ta H locs ce8 sl8 ls (by omega) (by rw [show 22 + 5 * (tm + 1) = 22 + 5 * tm + 3 + 1 + 1 by omega]; exact hI2) hkn (by omega) (by omega) hP hD hS (lv_sub hl [1, 2, 3, 0] rfl)

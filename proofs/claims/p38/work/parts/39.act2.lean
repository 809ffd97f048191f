/-! act (rows laid by wip/p38/spec_act.py) -/
set_option maxHeartbeats 8000000 in
set_option maxRecDepth 100000 in
theorem c_L_act (γ : xG) (l : Launch) (hlt : l.stackTraces = false) (sa : Nat → Nat) (q0 q1 a1 q2 a2 q3 a3 q4 s0 : Nat) (kq ka : Nat → Nat) (x : Int32) (j : Nat) (hj : j < 512) (n kc : Nat) (td tn wn : Int32) (f tf wf : xRow) (ks : Nat → xRow) (kn : Nat → Int32) (r tq : Nat) (ta : Nat → Nat) (hI : xInv j n kc f ks) (hkn : ∀ t, t < kc → kn t = nI n) : xGG γ l yL_act wsL_act ({ frames := 8, cells := 203, slots := 2700, locals := 140 } : Room) [.ref q0, .ref s0, .int x] (xLE sa (DWt γ q0 q1 a1 q2 a2 q3 a3 q4 s0 kq ka n kc td tn wn f tf wf ks kn r tq ta)) (DWt γ q0 q1 a1 q2 a2 q3 a3 q4 s0 kq ka n kc td tn wn f tf wf ks kn r tq ta) (xActP γ q0 q1 a1 q2 a2 q3 a3 q4 s0 kq ka (j + 1) (.int 1)) 203 2700 := by
  refine xGG.ofH (cc := cL_act) (maxL := 8) (ret := (some .boolean)) (hh := [(18, 99, 616, 80), (100, 143, 616, 80), (144, 234, 616, 80), (235, 332, 616, 80), (333, 391, 616, 80), (392, 458, 616, 80), (459, 508, 616, 80), (509, 518, 616, 80), (519, 615, 616, 80)]) (by decide +kernel) rfl (Nat.le_of_ble_eq_true rfl) ?_
  intro p e s m below meth c hx hb hr hml hts hown hlocks htab hP hK hEx A hA hAw hD ls hl
  have hEv := hEx.1
  have hEs := hEx.2.1
  have hEh := hEx.eh hAw
  have hAr := hEx.2.2.2
  have hn0 := hI.1
  have hn1 := hI.2.1
  have hkc := hI.2.2.1
  have hS : va_S A s.heap s.heap [] := va_S.rf
  generalize hargs : ([.ref q0, .ref s0, .int x] : List Value).toArray = args at hts ⊢
  obtain ⟨Q, hQ⟩ : ∃ Q9, Q9 = MQ below (xGQ γ A (xActP γ q0 q1 a1 q2 a2 q3 a3 q4 s0 kq ka (j + 1) (.int 1))) args s 203 2700 A := ⟨_, rfl⟩
  rw [← hQ]
  have hown : s.vm.findClass RL = some m.cls := hown
  have hP : xP γ (([xO q0 2 [.ref q1, .ref q4, .int (nI kc), .int td, .ref q2, .ref q3], xO q1 0 [.ref a1, .int (nI n)], xA γ a1 12 f, xO q2 0 [.ref a2, .int tn], xA γ a2 12 tf, xO q3 1 [.ref a3, .int wn], xA γ a3 12 wf, xQ γ q4 6 (fun t9 => some (kq t9))] ++ xKp γ kq ka kn ks) ++ ([xO s0 3 [.ref r, .ref tq, .int td], xA γ r n f, xT γ tq kc (fun t9 => some (ta t9))] ++ xTs γ ta n ks kc)) s.heap := hP
  have hD : va_D A (([xO q0 2 [.ref q1, .ref q4, .int (nI kc), .int td, .ref q2, .ref q3], xO q1 0 [.ref a1, .int (nI n)], xA γ a1 12 f, xO q2 0 [.ref a2, .int tn], xA γ a2 12 tf, xO q3 1 [.ref a3, .int wn], xA γ a3 12 wf, xQ γ q4 6 (fun t9 => some (kq t9))] ++ xKp γ kq ka kn ks) ++ ([xO s0 3 [.ref r, .ref tq, .int td], xA γ r n f, xT γ tq kc (fun t9 => some (ta t9))] ++ xTs γ ta n ks kc)) := hD
  have hl : lv_has ls 8 [(0, .ref q0), (1, .ref s0), (2, .int x)] := hl
  refine lv_aload_n hx hb dL_act_0 rfl (lv_at hl 1 rfl) ?_
  refine va_get (D := γ.1) (ci := 3) (v := .ref r) (C := RX3) (T := TX3) (N := 3) hx hb hts iwL_act_3 hown hK hP 20 rfl rfl 0 (by decide) (hts _ flL_act_9) (fun _ h9 => h9) rfl dL_act_1 ?_
  refine va_alen (v := nI n) hx hb hK hP 21 0 rfl rfl rfl dL_act_4 ?_
  refine lv_istore_n (lv' := [(3, .int (nI n)), (0, .ref q0), (1, .ref s0), (2, .int x)]) hx hb dL_act_5 rfl hl (by decide) rfl (fun ls hl => ?_)
  refine lv_iload_n hx hb dL_act_6 rfl (lv_at hl 3 rfl) ?_
  refine lv_iconst (v := 3) hx hb dL_act_7 (by decide) ?_
  refine lv_ishr hx hb dL_act_8 ?_
  refine lv_iload_n hx hb dL_act_9 rfl (lv_at hl 0 rfl) ?_
  refine xSR (As := [.int (x >>> (3 &&& 31)), .int (nI n)]) (rest := []) (stk := [.int (nI (xBl (x >>> (3 &&& 31)) n))]) ⟨hx, hb, hml, hown, hts⟩ (c_L_below γ l (x >>> (3 &&& 31)) n (by omega) (by omega)) (va_cwS 2 hts gL_act_L_below rfl rfl rfl hds_L_below ⟨(Nat.le_of_ble_eq_true rfl), (Nat.le_of_ble_eq_true rfl)⟩) hK hP [] rfl  rfl hl.1 rfl (Nat.le_of_ble_eq_true rfl) dL_act_10 ⟨(by omega : _ ≤ 203), (by omega : _ ≤ 2700)⟩ rfl ?_
  refine lv_istore (lv' := [(4, .int (nI (xBl (x >>> (3 &&& 31)) n))), (3, .int (nI n)), (0, .ref q0), (1, .ref s0), (2, .int x)]) hx hb dL_act_13 hl (by decide) rfl (fun ls hl => ?_)
  refine lv_iconst (v := 1) hx hb dL_act_15 (by decide) ?_
  refine lv_istore (lv' := [(5, .int 1), (4, .int (nI (xBl (x >>> (3 &&& 31)) n))), (3, .int (nI n)), (0, .ref q0), (1, .ref s0), (2, .int x)]) hx hb dL_act_16 hl (by decide) rfl (fun ls hl => ?_)
  refine lv_iload_n hx hb dL_act_18 rfl (lv_at hl 5 rfl) ?_
  refine lv_bipush (v := 14) hx hb dL_act_19 (by decide) ?_
  refine xSR (As := [.int x, .int 14]) (rest := []) (stk := [.int (nI (xBl x 14))]) ⟨hx, hb, hml, hown, hts⟩ (c_L_below γ l x 14 (by omega) (by omega)) (va_cwS 2 hts gL_act_L_below rfl rfl rfl hds_L_below ⟨(Nat.le_of_ble_eq_true rfl), (Nat.le_of_ble_eq_true rfl)⟩) hK hP [] rfl  rfl hl.1 rfl (Nat.le_of_ble_eq_true rfl) dL_act_21 ⟨(by omega : _ ≤ 203), (by omega : _ ≤ 2700)⟩ rfl ?_
  have h14 : xBl x 14 < 14 := xBl_lt (by omega)
  have hp9 : xBl (x >>> (3 &&& 31)) n < n := xBl_lt (by omega)
  rcases (show xBl x 14 = 0 ∨ xBl x 14 = 1 ∨ xBl x 14 = 2 ∨ xBl x 14 = 3 ∨ xBl x 14 = 4 ∨ xBl x 14 = 5 ∨ xBl x 14 = 6 ∨ xBl x 14 = 7 ∨ xBl x 14 = 8 ∨ xBl x 14 = 9 ∨ xBl x 14 = 10 ∨ xBl x 14 = 11 ∨ xBl x 14 = 12 ∨ xBl x 14 = 13 by omega) with h | h | h | h | h | h | h | h | h | h | h | h | h | h
  · rw [h]
    refine lv_tableIn (off := 64) (tgt := 88) hx hb dL_act_24 (by decide) (by decide) (by decide) (by decide) ?_
    subst hQ
    exact xact_lay hlt hx hb hr hml hts hown hlocks htab hK sa hEv hEs hEh hAr hA q0 q1 a1 q2 a2 q3 a3 q4 s0 kq ka x j hj n kc td tn wn f tf wf ks kn r tq ta hI hkn hP hD (xBl (x >>> (3 &&& 31)) n) hp9 ls (lv_sub hl [3, 4, 5, 2, 1, 0] rfl)
  · rw [h]
    refine lv_tableIn (off := 120) (tgt := 144) hx hb dL_act_24 (by decide) (by decide) (by decide) (by decide) ?_
    subst hQ
    exact xact_put hlt hx hb hr hml hts hown hlocks htab hK sa hEv hEs hEh hAr hA q0 q1 a1 q2 a2 q3 a3 q4 s0 kq ka x j hj n kc td tn wn f tf wf ks kn r tq ta hI hkn hP hD (xBl (x >>> (3 &&& 31)) n) hp9 ls (lv_sub hl [3, 4, 5, 2, 1, 0] rfl)
  · rw [h]
    refine lv_tableIn (off := 120) (tgt := 144) hx hb dL_act_24 (by decide) (by decide) (by decide) (by decide) ?_
    subst hQ
    exact xact_put hlt hx hb hr hml hts hown hlocks htab hK sa hEv hEs hEh hAr hA q0 q1 a1 q2 a2 q3 a3 q4 s0 kq ka x j hj n kc td tn wn f tf wf ks kn r tq ta hI hkn hP hD (xBl (x >>> (3 &&& 31)) n) hp9 ls (lv_sub hl [3, 4, 5, 2, 1, 0] rfl)
  · rw [h]
    refine lv_tableIn (off := 120) (tgt := 144) hx hb dL_act_24 (by decide) (by decide) (by decide) (by decide) ?_
    subst hQ
    exact xact_put hlt hx hb hr hml hts hown hlocks htab hK sa hEv hEs hEh hAr hA q0 q1 a1 q2 a2 q3 a3 q4 s0 kq ka x j hj n kc td tn wn f tf wf ks kn r tq ta hI hkn hP hD (xBl (x >>> (3 &&& 31)) n) hp9 ls (lv_sub hl [3, 4, 5, 2, 1, 0] rfl)
  · rw [h]
    refine lv_tableIn (off := 211) (tgt := 235) hx hb dL_act_24 (by decide) (by decide) (by decide) (by decide) ?_
    subst hQ
    exact xact_tip hlt hx hb hr hml hts hown hlocks htab hK sa hEv hEs hEh hAr hA q0 q1 a1 q2 a2 q3 a3 q4 s0 kq ka x j hj n kc td tn wn f tf wf ks kn r tq ta hI hkn hP hD (xBl (x >>> (3 &&& 31)) n) hp9 ls (lv_sub hl [3, 4, 5, 2, 1, 0] rfl)
  · rw [h]
    refine lv_tableIn (off := 211) (tgt := 235) hx hb dL_act_24 (by decide) (by decide) (by decide) (by decide) ?_
    subst hQ
    exact xact_tip hlt hx hb hr hml hts hown hlocks htab hK sa hEv hEs hEh hAr hA q0 q1 a1 q2 a2 q3 a3 q4 s0 kq ka x j hj n kc td tn wn f tf wf ks kn r tq ta hI hkn hP hD (xBl (x >>> (3 &&& 31)) n) hp9 ls (lv_sub hl [3, 4, 5, 2, 1, 0] rfl)
  · rw [h]
    refine lv_tableIn (off := 211) (tgt := 235) hx hb dL_act_24 (by decide) (by decide) (by decide) (by decide) ?_
    subst hQ
    exact xact_tip hlt hx hb hr hml hts hown hlocks htab hK sa hEv hEs hEh hAr hA q0 q1 a1 q2 a2 q3 a3 q4 s0 kq ka x j hj n kc td tn wn f tf wf ks kn r tq ta hI hkn hP hD (xBl (x >>> (3 &&& 31)) n) hp9 ls (lv_sub hl [3, 4, 5, 2, 1, 0] rfl)
  · rw [h]
    refine lv_tableIn (off := 211) (tgt := 235) hx hb dL_act_24 (by decide) (by decide) (by decide) (by decide) ?_
    subst hQ
    exact xact_tip hlt hx hb hr hml hts hown hlocks htab hK sa hEv hEs hEh hAr hA q0 q1 a1 q2 a2 q3 a3 q4 s0 kq ka x j hj n kc td tn wn f tf wf ks kn r tq ta hI hkn hP hD (xBl (x >>> (3 &&& 31)) n) hp9 ls (lv_sub hl [3, 4, 5, 2, 1, 0] rfl)
  · rw [h]
    refine lv_tableIn (off := 309) (tgt := 333) hx hb dL_act_24 (by decide) (by decide) (by decide) (by decide) ?_
    subst hQ
    exact xact_turn hlt hx hb hr hml hts hown hlocks htab hK sa hEv hEs hEh hAr hA q0 q1 a1 q2 a2 q3 a3 q4 s0 kq ka x j hj n kc td tn wn f tf wf ks kn r tq ta hI hkn hP hD (xBl (x >>> (3 &&& 31)) n) hp9 ls (lv_sub hl [3, 4, 5, 2, 1, 0] rfl)
  · rw [h]
    refine lv_tableIn (off := 368) (tgt := 392) hx hb dL_act_24 (by decide) (by decide) (by decide) (by decide) ?_
    subst hQ
    exact xact_keep hlt hx hb hr hml hts hown hlocks htab hK sa hEv hEs hEh hAr hA q0 q1 a1 q2 a2 q3 a3 q4 s0 kq ka x j hj n kc td tn wn f tf wf ks kn r tq ta hI hkn hP hD (xBl (x >>> (3 &&& 31)) n) hp9 ls (lv_sub hl [3, 4, 5, 2, 1, 0] rfl)
  · rw [h]
    refine lv_tableIn (off := 368) (tgt := 392) hx hb dL_act_24 (by decide) (by decide) (by decide) (by decide) ?_
    subst hQ
    exact xact_keep hlt hx hb hr hml hts hown hlocks htab hK sa hEv hEs hEh hAr hA q0 q1 a1 q2 a2 q3 a3 q4 s0 kq ka x j hj n kc td tn wn f tf wf ks kn r tq ta hI hkn hP hD (xBl (x >>> (3 &&& 31)) n) hp9 ls (lv_sub hl [3, 4, 5, 2, 1, 0] rfl)
  · rw [h]
    refine lv_tableIn (off := 435) (tgt := 459) hx hb dL_act_24 (by decide) (by decide) (by decide) (by decide) ?_
    subst hQ
    exact xact_settle hlt hx hb hr hml hts hown hlocks htab hK sa hEv hEs hEh hAr hA q0 q1 a1 q2 a2 q3 a3 q4 s0 kq ka x j hj n kc td tn wn f tf wf ks kn r tq ta hI hkn hP hD (xBl (x >>> (3 &&& 31)) n) hp9 ls (lv_sub hl [3, 4, 5, 2, 1, 0] rfl)
  · rw [h]
    refine lv_tableOut (tgt := 509) hx hb dL_act_24 (by decide) (by decide) ?_
    subst hQ
    exact xact_reach hlt hx hb hr hml hts hown hlocks htab hK sa hEv hEs hEh hAr hA q0 q1 a1 q2 a2 q3 a3 q4 s0 kq ka x j hj n kc td tn wn f tf wf ks kn r tq ta hI hkn hP hD (xBl (x >>> (3 &&& 31)) n) hp9 ls (lv_sub hl [3, 4, 5, 2, 1, 0] rfl)
  · rw [h]
    refine lv_tableOut (tgt := 509) hx hb dL_act_24 (by decide) (by decide) ?_
    subst hQ
    exact xact_reach hlt hx hb hr hml hts hown hlocks htab hK sa hEv hEs hEh hAr hA q0 q1 a1 q2 a2 q3 a3 q4 s0 kq ka x j hj n kc td tn wn f tf wf ks kn r tq ta hI hkn hP hD (xBl (x >>> (3 &&& 31)) n) hp9 ls (lv_sub hl [3, 4, 5, 2, 1, 0] rfl)

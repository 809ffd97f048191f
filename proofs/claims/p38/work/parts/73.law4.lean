/-! the law, stretch by stretch (rows laid by wip/p38/spec_law.py) -/
theorem wdL_law_cl1_32 : Cond.methodLink RL 32 ⟨"[I", "clone", "()Ljava/lang/Object;"⟩ ∈ wsL_law := by decide +kernel
theorem wdL_law_cl2 : Cond.sameMethod "[I" "java/lang/Object" "clone" "()Ljava/lang/Object;" ∈ wsL_law := by decide +kernel
theorem wdL_law_cl3 : Cond.native ⟨"java/lang/Object", "clone", "()Ljava/lang/Object;"⟩ ∈ wsL_law := by decide +kernel
theorem wdL_law_cl4 : Cond.instanceMethod ⟨"java/lang/Object", "clone", "()Ljava/lang/Object;"⟩ ∈ wsL_law := by decide +kernel
theorem wdL_law_cl5 : Cond.selects "[I" ⟨"[I", "clone", "()Ljava/lang/Object;"⟩ ⟨"java/lang/Object", "clone", "()Ljava/lang/Object;"⟩ ∈ wsL_law := by decide +kernel
theorem wdL_law_n21a : Cond.classLink RL 21 "[I" ∈ wsL_law := by decide +kernel
set_option maxHeartbeats 16000000 in
set_option maxRecDepth 100000 in
theorem xlaw_place {p : Program} {l : Launch} {e : Env} {s : State} {m : MethodId} {args : Array Value} {below : List Frame} {meth : Method} {c : Code} (hlt : l.stackTraces = false) (hx : p.tables.exec = Jvm.exec) (hb : c.code = cL_law) (hml : c.maxLocals = 27) (hts : ∀ w ∈ wsL_law, w.before args s = true) (hown : s.vm.findClass RL = some m.cls) {γ : xG} (hK : xK γ s) (sa : Nat → Nat) {A : Nat → Prop} (hEv : xEv s) (hEs : xEs sa s) (hEh : xEh A s s.heap) (hAr : xAz s) (hA : ∀ q : Nat, s.heap.size ≤ q → A q) (q0 q1 a1 q2 a2 q3 a3 q4 s0 : Nat) (kq ka : Nat → Nat) {b L : Nat} {xs : Nat → Int32} (hX : va_X b L xs s s.heap) (hbl : b < s.heap.size) (hbA : ¬ A b) (hL : L ≤ 260) {Q : State → Prop} (tm : Nat) (x : Int32) (n kc : Nat) (td tn wn : Int32) (f tf wf : xRow) (ks : Nat → xRow) (kn : Nat → Int32) (r tq : Nat) (ta : Nat → Nat) (J : Nat) (hI : xInv J n kc f ks) (hkn : ∀ t, t < kc → kn t = nI n) (bq : Nat) (g : xRow) (p9 : Nat) (H : Heap) (locs : List Loc) (cells slots : Nat) (ls : Array Slot) (hce : cells ≤ 500000) (hsl : slots ≤ 7000000) (hP : xP γ (([xO q0 2 [.ref q1, .ref q4, .int (nI kc), .int td, .ref q2, .ref q3], xO q1 0 [.ref a1, .int (nI n)], xA γ a1 12 f, xO q2 0 [.ref a2, .int tn], xA γ a2 12 tf, xO q3 1 [.ref a3, .int wn], xA γ a3 12 wf, xQ γ q4 6 (fun t9 => some (kq t9))] ++ xKp γ kq ka kn ks) ++ ([xO s0 3 [.ref r, .ref tq, .int td], xA γ r n f, xT γ tq kc (fun t9 => some (ta t9)), xBo γ bq kc g] ++ xTs γ ta n ks kc)) H) (hD : va_D A (([xO q0 2 [.ref q1, .ref q4, .int (nI kc), .int td, .ref q2, .ref q3], xO q1 0 [.ref a1, .int (nI n)], xA γ a1 12 f, xO q2 0 [.ref a2, .int tn], xA γ a2 12 tf, xO q3 1 [.ref a3, .int wn], xA γ a3 12 wf, xQ γ q4 6 (fun t9 => some (kq t9))] ++ xKp γ kq ka kn ks) ++ ([xO s0 3 [.ref r, .ref tq, .int td], xA γ r n f, xT γ tq kc (fun t9 => some (ta t9)), xBo γ bq kc g] ++ xTs γ ta n ks kc))) (hS : va_S A s.heap H locs) (hl : lv_has ls 27 [(0, .ref b), (1, .ref q0), (2, .ref s0), (3, .int (nI tm)), (4, .int x), (5, .long (xDg n kc f ks td)), (7, .int (nI n)), (8, .int (nI kc)), (12, .ref bq), (15, .int (nI p9))]) (K : ∀ (tn wn : Int32) (tf wf : xRow) (H : Heap) (locs : List Loc) (ce sl : Nat) (ls : Array Slot), ce ≤ cells + 12 → sl ≤ slots + 144 → xP γ (([xO q0 2 [.ref q1, .ref q4, .int (nI kc), .int td, .ref q2, .ref q3], xO q1 0 [.ref a1, .int (nI n)], xA γ a1 12 f, xO q2 0 [.ref a2, .int tn], xA γ a2 12 tf, xO q3 1 [.ref a3, .int wn], xA γ a3 12 wf, xQ γ q4 6 (fun t9 => some (kq t9))] ++ xKp γ kq ka kn ks) ++ ([xO s0 3 [.ref r, .ref tq, .int td], xA γ r n f, xT γ tq kc (fun t9 => some (ta t9)), xBo γ bq kc g] ++ xTs γ ta n ks kc)) H → va_D A (([xO q0 2 [.ref q1, .ref q4, .int (nI kc), .int td, .ref q2, .ref q3], xO q1 0 [.ref a1, .int (nI n)], xA γ a1 12 f, xO q2 0 [.ref a2, .int tn], xA γ a2 12 tf, xO q3 1 [.ref a3, .int wn], xA γ a3 12 wf, xQ γ q4 6 (fun t9 => some (kq t9))] ++ xKp γ kq ka kn ks) ++ ([xO s0 3 [.ref r, .ref tq, .int td], xA γ r n f, xT γ tq kc (fun t9 => some (ta t9)), xBo γ bq kc g] ++ xTs γ ta n ks kc)) → va_S A s.heap H locs → lv_has ls 27 [(0, .ref b), (1, .ref q0), (2, .ref s0), (3, .int (nI tm)), (4, .int x), (5, .long (xDg n kc f ks td)), (7, .int (nI n)), (8, .int (nI kc)), (12, .ref bq), (15, .int (nI p9))] → W p l e room_1 s m args below meth c H locs ce sl Q (F0 m 943 ls [])) : W p l e room_1 s m args below meth c H locs cells slots Q (F0 m 820 ls []) := by
  have hn0 := hI.1
  have hn1 := hI.2.1
  have hkc := hI.2.2.1
  have hbf := hI.f
  have hbg := hI.g
  refine lv_aload_n hx hb dL_law_820 rfl (lv_at hl 1 rfl) ?_
  refine xVM (q0 := 0) (ci := 2) (As := []) (rest := []) ⟨hx, hb, hml, hown, hts⟩ (c_X2_digest γ l q0 q1 q2 q3 q4 kc td a1 n f a2 tn tf a3 wn wf kq ka kn ks (by omega) (by omega) (by omega) hkn) (cwV 0 hts gL_law_X2_digest rfl rfl rfl hdv_X2_digest ⟨(Nat.le_of_ble_eq_true rfl), (Nat.le_of_ble_eq_true rfl)⟩) hK hP hD hS hA ([0, 1, 2, 3, 4, 5, 6, 7] ++ List.range' 8 12) rfl (xsuf_M2 (base := [xO q0 2 [.ref q1, .ref q4, .int (nI kc), .int td, .ref q2, .ref q3], xO q1 0 [.ref a1, .int (nI n)], xA γ a1 12 f, xO q2 0 [.ref a2, .int tn], xA γ a2 12 tf, xO q3 1 [.ref a3, .int wn], xA γ a3 12 wf, xQ γ q4 6 (fun t9 => some (kq t9))]) rfl rfl rfl (by decide)) rfl rfl rfl hl.1 rfl (Nat.le_of_ble_eq_true rfl) dL_law_821 ⟨(by omega : _ ≤ 600172), (by omega : _ ≤ 7300668)⟩ (fun r9 w9 H locs hw hP hD hS => ?_)
  obtain ⟨rfl, tn206x, tf207x, wn208x, wf209x, rfl⟩ := hw
  rw [xup_suf3 (base := [xO q0 2 [.ref q1, .ref q4, .int (nI kc), .int td, .ref q2, .ref q3], xO q1 0 [.ref a1, .int (nI n)], xA γ a1 12 f, xO q2 0 [.ref a2, .int tn], xA γ a2 12 tf, xO q3 1 [.ref a3, .int wn], xA γ a3 12 wf, xQ γ q4 6 (fun t9 => some (kq t9))]) (K := xKp γ kq ka kn ks) (K' := xKp γ kq ka kn ks) (R9 := [xO s0 3 [.ref r, .ref tq, .int td], xA γ r n f, xT γ tq kc (fun t9 => some (ta t9)), xBo γ bq kc g] ++ xTs γ ta n ks kc) (is1 := [0, 1, 2, 3, 4, 5, 6, 7]) (w1 := [xO q0 2 [.ref q1, .ref q4, .int (nI kc), .int td, .ref q2, .ref q3], xO q1 0 [.ref a1, .int (nI n)], xA γ a1 12 f, xO q2 0 [.ref a2, .int tn206x], xA γ a2 12 tf207x, xO q3 1 [.ref a3, .int wn208x], xA γ a3 12 wf209x, xQ γ q4 6 (fun t9 => some (kq t9))]) (nb := 8) rfl rfl rfl rfl (by decide)] at hP hD
  have hP : xP γ (([xO q0 2 [.ref q1, .ref q4, .int (nI kc), .int td, .ref q2, .ref q3], xO q1 0 [.ref a1, .int (nI n)], xA γ a1 12 f, xO q2 0 [.ref a2, .int tn206x], xA γ a2 12 tf207x, xO q3 1 [.ref a3, .int wn208x], xA γ a3 12 wf209x, xQ γ q4 6 (fun t9 => some (kq t9))] ++ xKp γ kq ka kn ks) ++ ([xO s0 3 [.ref r, .ref tq, .int td], xA γ r n f, xT γ tq kc (fun t9 => some (ta t9)), xBo γ bq kc g] ++ xTs γ ta n ks kc)) H := hP
  have hD : va_D A (([xO q0 2 [.ref q1, .ref q4, .int (nI kc), .int td, .ref q2, .ref q3], xO q1 0 [.ref a1, .int (nI n)], xA γ a1 12 f, xO q2 0 [.ref a2, .int tn206x], xA γ a2 12 tf207x, xO q3 1 [.ref a3, .int wn208x], xA γ a3 12 wf209x, xQ γ q4 6 (fun t9 => some (kq t9))] ++ xKp γ kq ka kn ks) ++ ([xO s0 3 [.ref r, .ref tq, .int td], xA γ r n f, xT γ tq kc (fun t9 => some (ta t9)), xBo γ bq kc g] ++ xTs γ ta n ks kc)) := hD
  refine W.eq (g2 := F0 m 824 ls [.long (xDg n kc f ks td)]) rfl ?_
  refine lv_lload hx hb dL_law_824 (lv_at hl 5 rfl) ?_
  refine x_lcmp rfl hx hb dL_law_826 ?_
  refine lv_if_eq (tgt := 832) hx hb dL_law_827 (by decide) (fun _ => ?_) (fun c => absurd (rfl) c)
  refine lv_iload hx hb dL_law_832 (lv_at hl 4 rfl) ?_
  refine lv_iconst (v := 5) hx hb dL_law_834 (by decide) ?_
  refine lv_ishr hx hb dL_law_835 ?_
  refine lv_bipush (v := 41) hx hb dL_law_836 (by decide) ?_
  refine xSR (As := [.int (x >>> (5 &&& 31)), .int 41]) (rest := []) (stk := [.int (nI (xBl (x >>> (5 &&& 31)) 41))]) ⟨hx, hb, hml, hown, hts⟩ (c_L_below γ l (x >>> (5 &&& 31)) 41 (by omega) (by omega)) (va_cwS 2 hts gL_law_L_below rfl rfl rfl hds_L_below ⟨(Nat.le_of_ble_eq_true rfl), (Nat.le_of_ble_eq_true rfl)⟩) hK hP [] rfl  rfl hl.1 rfl (Nat.le_of_ble_eq_true rfl) dL_law_838 ⟨(by omega : _ ≤ 600172), (by omega : _ ≤ 7300668)⟩ rfl ?_
  refine lv_bipush (v := 20) hx hb dL_law_841 (by decide) ?_
  refine lv_isub hx hb dL_law_843 ?_
  have hu0 := xnum (k := xBl (x >>> (5 &&& 31)) 41) (a := 20) (xBl_lt (by omega)) (by omega)
  obtain ⟨u9, eu, hu1, hu2⟩ : ∃ u9 : Int32, u9 = (nI (xBl (x >>> (5 &&& 31)) 41)) - 20 ∧ ¬ u9 < (-999) ∧ u9 ≤ 999 := ⟨_, rfl, xnum_le hu0.1 hu0.2 (by decide) (by decide)⟩
  refine x_top (y := u9) eu.symm ?_
  refine lv_istore (lv' := [(17, .int u9), (0, .ref b), (1, .ref q0), (2, .ref s0), (3, .int (nI tm)), (4, .int x), (5, .long (xDg n kc f ks td)), (7, .int (nI n)), (8, .int (nI kc)), (12, .ref bq), (15, .int (nI p9))]) hx hb dL_law_844 hl (by decide) rfl (fun ls hl => ?_)
  refine lv_aload_n hx hb dL_law_846 rfl (lv_at hl 2 rfl) ?_
  refine lv_iload hx hb dL_law_847 (lv_at hl 0 rfl) ?_
  refine xVM (q0 := 0) (ci := 2) (As := [.int u9]) (rest := []) ⟨hx, hb, hml, hown, hts⟩ (c_X2_placeForA γ l q0 q1 q2 q3 q4 kc td a1 n f a2 tn206x tf207x kq ka kn ks u9 (by omega) (by omega) (by omega) hkn hu1 hu2) (cwV 1 hts gL_law_X2_placeFor rfl rfl rfl hdv_X2_placeFor ⟨(Nat.le_of_ble_eq_true rfl), (Nat.le_of_ble_eq_true rfl)⟩) hK hP hD hS hA ([0, 1, 2, 3, 4, 7] ++ List.range' 8 12) rfl (xsuf_M2 (base := [xO q0 2 [.ref q1, .ref q4, .int (nI kc), .int td, .ref q2, .ref q3], xO q1 0 [.ref a1, .int (nI n)], xA γ a1 12 f, xO q2 0 [.ref a2, .int tn206x], xA γ a2 12 tf207x, xO q3 1 [.ref a3, .int wn208x], xA γ a3 12 wf209x, xQ γ q4 6 (fun t9 => some (kq t9))]) rfl rfl rfl (by decide)) rfl rfl rfl hl.1 rfl (Nat.le_of_ble_eq_true rfl) dL_law_849 ⟨(by omega : _ ≤ 600172), (by omega : _ ≤ 7300668)⟩ (fun r9 w9 H locs hw hP hD hS => ?_)
  obtain ⟨rfl, tn210x, tf211x, rfl⟩ := hw
  rw [xup_suf3 (base := [xO q0 2 [.ref q1, .ref q4, .int (nI kc), .int td, .ref q2, .ref q3], xO q1 0 [.ref a1, .int (nI n)], xA γ a1 12 f, xO q2 0 [.ref a2, .int tn206x], xA γ a2 12 tf207x, xO q3 1 [.ref a3, .int wn208x], xA γ a3 12 wf209x, xQ γ q4 6 (fun t9 => some (kq t9))]) (K := xKp γ kq ka kn ks) (K' := xKp γ kq ka kn ks) (R9 := [xO s0 3 [.ref r, .ref tq, .int td], xA γ r n f, xT γ tq kc (fun t9 => some (ta t9)), xBo γ bq kc g] ++ xTs γ ta n ks kc) (is1 := [0, 1, 2, 3, 4, 7]) (w1 := [xO q0 2 [.ref q1, .ref q4, .int (nI kc), .int td, .ref q2, .ref q3], xO q1 0 [.ref a1, .int (nI n)], xA γ a1 12 f, xO q2 0 [.ref a2, .int tn210x], xA γ a2 12 tf211x, xQ γ q4 6 (fun t9 => some (kq t9))]) (nb := 8) rfl rfl rfl rfl (by decide)] at hP hD
  have hP : xP γ (([xO q0 2 [.ref q1, .ref q4, .int (nI kc), .int td, .ref q2, .ref q3], xO q1 0 [.ref a1, .int (nI n)], xA γ a1 12 f, xO q2 0 [.ref a2, .int tn210x], xA γ a2 12 tf211x, xO q3 1 [.ref a3, .int wn208x], xA γ a3 12 wf209x, xQ γ q4 6 (fun t9 => some (kq t9))] ++ xKp γ kq ka kn ks) ++ ([xO s0 3 [.ref r, .ref tq, .int td], xA γ r n f, xT γ tq kc (fun t9 => some (ta t9)), xBo γ bq kc g] ++ xTs γ ta n ks kc)) H := hP
  have hD : va_D A (([xO q0 2 [.ref q1, .ref q4, .int (nI kc), .int td, .ref q2, .ref q3], xO q1 0 [.ref a1, .int (nI n)], xA γ a1 12 f, xO q2 0 [.ref a2, .int tn210x], xA γ a2 12 tf211x, xO q3 1 [.ref a3, .int wn208x], xA γ a3 12 wf209x, xQ γ q4 6 (fun t9 => some (kq t9))] ++ xKp γ kq ka kn ks) ++ ([xO s0 3 [.ref r, .ref tq, .int td], xA γ r n f, xT γ tq kc (fun t9 => some (ta t9)), xBo γ bq kc g] ++ xTs γ ta n ks kc)) := hD
  refine W.eq (g2 := F0 m 852 ls [.int (xPl n kc f ks u9)]) rfl ?_
  refine lv_istore (lv' := [(18, .int (xPl n kc f ks u9)), (17, .int u9), (0, .ref b), (1, .ref q0), (2, .ref s0), (3, .int (nI tm)), (4, .int x), (5, .long (xDg n kc f ks td)), (7, .int (nI n)), (8, .int (nI kc)), (12, .ref bq), (15, .int (nI p9))]) hx hb dL_law_852 hl (by decide) rfl (fun ls hl => ?_)
  rcases Nat.eq_zero_or_pos kc with hk0 | hk0
  · skip
    refine lv_iconst (v := 0) hx hb dL_law_854 (by decide) ?_
    refine x_top (y := nI 0) (rfl) ?_
    refine lv_istore (lv' := [(19, .int (nI 0)), (18, .int (xPl n kc f ks u9)), (17, .int u9), (0, .ref b), (1, .ref q0), (2, .ref s0), (3, .int (nI tm)), (4, .int x), (5, .long (xDg n kc f ks td)), (7, .int (nI n)), (8, .int (nI kc)), (12, .ref bq), (15, .int (nI p9))]) hx hb dL_law_855 hl (by decide) rfl (fun ls hl => ?_)
    refine lv_iload hx hb dL_law_857 (lv_at hl 0 rfl) ?_
    refine lv_iload hx hb dL_law_859 (lv_at hl 9 rfl) ?_
    refine lv_icmp_ge (tgt := 930) hx hb dL_law_861 (by decide) (fun c => absurd c (nI_ge (a := 0) (b := n) (by omega) (by omega))) (fun _ => ?_)
    refine lv_iload hx hb dL_law_864 (lv_at hl 10 rfl) ?_
    refine lv_if_le (tgt := 930) hx hb dL_law_866 (by decide) (fun _ => ?_) (fun c => absurd (nI_le (a := kc) (b := 0) (by omega) (by omega)) c)
    refine lv_iload hx hb dL_law_930 (lv_at hl 10 rfl) ?_
    refine lv_if_ne (tgt := 943) hx hb dL_law_932 (by decide) (fun c => absurd (by rw [hk0]; rfl) c) (fun _ => ?_)
    refine lv_iload hx hb dL_law_935 (lv_at hl 1 rfl) ?_
    refine lv_iconst (v := (-1)) hx hb dL_law_937 (by decide) ?_
    refine lv_icmp_eq (tgt := 943) hx hb dL_law_938 (by decide) (fun _ => ?_) (fun c => absurd (xPl_0 hk0) c)
    exact K tn210x wn208x tf211x wf209x _ _ _ _ _ (by omega) (by omega) hP hD hS (lv_sub hl [3, 4, 5, 6, 7, 8, 9, 10, 11, 12] rfl)
  · skip
    refine lv_iconst (v := 0) hx hb dL_law_854 (by decide) ?_
    refine x_top (y := nI 0) (rfl) ?_
    rw [xPl_p hk0] at hl
    refine lv_istore (lv' := [(19, .int (nI 0)), (18, .int (xFi (xPf n f (ks 0) u9) n)), (17, .int u9), (0, .ref b), (1, .ref q0), (2, .ref s0), (3, .int (nI tm)), (4, .int x), (5, .long (xDg n kc f ks td)), (7, .int (nI n)), (8, .int (nI kc)), (12, .ref bq), (15, .int (nI p9))]) hx hb dL_law_855 hl (by decide) rfl (fun ls hl => ?_)
    have loop857 : ∀ j : Nat, ∀ (ce857 sl857 : Nat) (t : Nat), t + j = n → (ce857 ≤ cells + t) → (sl857 ≤ slots + 12 * t) → ∀ (H : Heap) (locs : List Loc), xP γ (([xO q0 2 [.ref q1, .ref q4, .int (nI kc), .int td, .ref q2, .ref q3], xO q1 0 [.ref a1, .int (nI n)], xA γ a1 12 f, xO q2 0 [.ref a2, .int tn210x], xA γ a2 12 tf211x, xO q3 1 [.ref a3, .int wn208x], xA γ a3 12 wf209x, xQ γ q4 6 (fun t9 => some (kq t9))] ++ xKp γ kq ka kn ks) ++ ([xO s0 3 [.ref r, .ref tq, .int td], xA γ r n f, xT γ tq kc (fun t9 => some (ta t9)), xBo γ bq kc g] ++ xTs γ ta n ks kc)) H → va_D A (([xO q0 2 [.ref q1, .ref q4, .int (nI kc), .int td, .ref q2, .ref q3], xO q1 0 [.ref a1, .int (nI n)], xA γ a1 12 f, xO q2 0 [.ref a2, .int tn210x], xA γ a2 12 tf211x, xO q3 1 [.ref a3, .int wn208x], xA γ a3 12 wf209x, xQ γ q4 6 (fun t9 => some (kq t9))] ++ xKp γ kq ka kn ks) ++ ([xO s0 3 [.ref r, .ref tq, .int td], xA γ r n f, xT γ tq kc (fun t9 => some (ta t9)), xBo γ bq kc g] ++ xTs γ ta n ks kc)) → va_S A s.heap H locs → ∀ ls : Array Slot, lv_has ls 27 [(0, .ref b), (1, .ref q0), (2, .ref s0), (3, .int (nI tm)), (4, .int x), (5, .long (xDg n kc f ks td)), (7, .int (nI n)), (8, .int (nI kc)), (12, .ref bq), (15, .int (nI p9)), (17, .int u9), (18, .int (xFi (xPf n f (ks 0) u9) n)), (19, .int (nI t))] → W p l e room_1 s m args below meth c H locs ce857 sl857 Q (F0 m 857 ls []) := by
      intro j
      induction j with
      | zero =>
        intro ce857 sl857 t hj hce9 hsl9 H locs hP hD hS ls hl
        refine lv_iload hx hb dL_law_857 (lv_at hl 12 rfl) ?_
        refine lv_iload hx hb dL_law_859 (lv_at hl 6 rfl) ?_
        refine lv_icmp_ge (tgt := 930) hx hb dL_law_861 (by decide) (fun _ => ?_) (fun c => absurd (nI_le (a := n) (b := t) (by omega) (by omega)) c)
        refine lv_iload hx hb dL_law_930 (lv_at hl 7 rfl) ?_
        refine lv_if_ne (tgt := 943) hx hb dL_law_932 (by decide) (fun _ => ?_) (fun c => absurd c (fun h => absurd ((nI_eq (a := kc) (b := 0) (by omega) (by omega)).mp h) (by omega)))
        exact K tn210x wn208x tf211x wf209x _ _ _ _ _ (by omega) (by omega) hP hD hS (lv_sub hl [0, 1, 2, 3, 4, 5, 6, 7, 8, 9] rfl)
      | succ j ih857 =>
        intro ce857 sl857 t hj hce9 hsl9 H locs hP hD hS ls hl
        refine lv_iload hx hb dL_law_857 (lv_at hl 12 rfl) ?_
        refine lv_iload hx hb dL_law_859 (lv_at hl 6 rfl) ?_
        refine lv_icmp_ge (tgt := 930) hx hb dL_law_861 (by decide) (fun c => absurd c (nI_ge (a := t) (b := n) (by omega) (by omega))) (fun _ => ?_)
        refine lv_iload hx hb dL_law_864 (lv_at hl 7 rfl) ?_
        refine lv_if_le (tgt := 930) hx hb dL_law_866 (by decide) (fun c => absurd c (nI_ge (a := 0) (b := kc) (by omega) (by omega))) (fun _ => ?_)
        refine lv_aload_n hx hb dL_law_869 rfl (lv_at hl 2 rfl) ?_
        refine va_get (D := γ.1) (ci := 3) (v := .ref r) (C := RX3) (T := TX3) (N := 3) hx hb hts iwL_law_3 hown hK hP 20 rfl rfl 0 (by decide) (hts _ flL_law_9) (fun _ h9 => h9) rfl dL_law_870 ?_
        refine x_cloneI hx hb (hml.trans hl.1.symm) hown (hts _ wdL_law_cl1_32) (hts _ wdL_law_cl2) (hts _ wdL_law_cl3) (hts _ wdL_law_cl4) (hts _ wdL_law_cl5) hAr.1 hK hP hD hS hA 21 rfl (Nat.le_of_ble_eq_true rfl) (Nat.le_of_ble_eq_true rfl) (by omega : _ ≤ 600172) (by omega : _ ≤ 7300668) dL_law_873 (fun q873x H hP hD hS => ?_)
        have hP := xmvP2 hP
        have hD := xmvD2 hD
        have hP : xP γ (([xO q0 2 [.ref q1, .ref q4, .int (nI kc), .int td, .ref q2, .ref q3], xO q1 0 [.ref a1, .int (nI n)], xA γ a1 12 f, xO q2 0 [.ref a2, .int tn210x], xA γ a2 12 tf211x, xO q3 1 [.ref a3, .int wn208x], xA γ a3 12 wf209x, xQ γ q4 6 (fun t9 => some (kq t9))] ++ xKp γ kq ka kn ks) ++ ([xO s0 3 [.ref r, .ref tq, .int td], xA γ r n f, xT γ tq kc (fun t9 => some (ta t9)), xBo γ bq kc g, xA γ q873x n f] ++ xTs γ ta n ks kc)) H := hP
        have hD : va_D A (([xO q0 2 [.ref q1, .ref q4, .int (nI kc), .int td, .ref q2, .ref q3], xO q1 0 [.ref a1, .int (nI n)], xA γ a1 12 f, xO q2 0 [.ref a2, .int tn210x], xA γ a2 12 tf211x, xO q3 1 [.ref a3, .int wn208x], xA γ a3 12 wf209x, xQ γ q4 6 (fun t9 => some (kq t9))] ++ xKp γ kq ka kn ks) ++ ([xO s0 3 [.ref r, .ref tq, .int td], xA γ r n f, xT γ tq kc (fun t9 => some (ta t9)), xBo γ bq kc g, xA γ q873x n f] ++ xTs γ ta n ks kc)) := hD
        refine x_castI hx hb hown (hts _ wdL_law_n21a) hK hP 24 rfl dL_law_876 ?_
        refine lv_astore (lv' := [(20, .ref q873x), (0, .ref b), (1, .ref q0), (2, .ref s0), (3, .int (nI tm)), (4, .int x), (5, .long (xDg n kc f ks td)), (7, .int (nI n)), (8, .int (nI kc)), (12, .ref bq), (15, .int (nI p9)), (17, .int u9), (18, .int (xFi (xPf n f (ks 0) u9) n)), (19, .int (nI t))]) hx hb dL_law_879 hl (by decide) rfl (fun ls hl => ?_)
        refine lv_aload hx hb dL_law_881 (lv_at hl 0 rfl) ?_
        refine lv_iload hx hb dL_law_883 (lv_at hl 13 rfl) ?_
        refine lv_iload hx hb dL_law_885 (lv_at hl 11 rfl) ?_
        refine x_iast (f := f) hx hb hK hP hD hS 24 rfl t rfl (by omega) (by omega) dL_law_887 (fun H locs hP hD hS => ?_)
        have hP : xP γ (([xO q0 2 [.ref q1, .ref q4, .int (nI kc), .int td, .ref q2, .ref q3], xO q1 0 [.ref a1, .int (nI n)], xA γ a1 12 f, xO q2 0 [.ref a2, .int tn210x], xA γ a2 12 tf211x, xO q3 1 [.ref a3, .int wn208x], xA γ a3 12 wf209x, xQ γ q4 6 (fun t9 => some (kq t9))] ++ xKp γ kq ka kn ks) ++ ([xO s0 3 [.ref r, .ref tq, .int td], xA γ r n f, xT γ tq kc (fun t9 => some (ta t9)), xBo γ bq kc g, xA γ q873x n (upd f t u9)] ++ xTs γ ta n ks kc)) H := hP
        have hD : va_D A (([xO q0 2 [.ref q1, .ref q4, .int (nI kc), .int td, .ref q2, .ref q3], xO q1 0 [.ref a1, .int (nI n)], xA γ a1 12 f, xO q2 0 [.ref a2, .int tn210x], xA γ a2 12 tf211x, xO q3 1 [.ref a3, .int wn208x], xA γ a3 12 wf209x, xQ γ q4 6 (fun t9 => some (kq t9))] ++ xKp γ kq ka kn ks) ++ ([xO s0 3 [.ref r, .ref tq, .int td], xA γ r n f, xT γ tq kc (fun t9 => some (ta t9)), xBo γ bq kc g, xA γ q873x n (upd f t u9)] ++ xTs γ ta n ks kc)) := hD
        refine lv_aload_n hx hb dL_law_888 rfl (lv_at hl 3 rfl) ?_
        refine lv_aload hx hb dL_law_889 (lv_at hl 0 rfl) ?_
        refine lv_iconst (v := 0) hx hb dL_law_891 (by decide) ?_
        refine xVR (q0 := 20) (ci := 3) (As := [.ref q873x, .int 0]) (rest := []) (stk := [.int (if xCB n (upd f t u9) (ks 0) = true then 1 else 0)]) ⟨hx, hb, hml, hown, hts⟩ (c_X3_can γ l s0 r tq td q873x n (upd f t u9) ta kc 0 (ks 0) (by omega) (by omega) (by omega) (by omega)) (cwV 2 hts gL_law_X3_can rfl rfl rfl hdv_X3_can ⟨(Nat.le_of_ble_eq_true rfl), (Nat.le_of_ble_eq_true rfl)⟩) hK hP [25 + 0, 20, 22, 24] (xisC (xTs_r2 (C := [xO q0 2 [.ref q1, .ref q4, .int (nI kc), .int td, .ref q2, .ref q3], xO q1 0 [.ref a1, .int (nI n)], xA γ a1 12 f, xO q2 0 [.ref a2, .int tn210x], xA γ a2 12 tf211x, xO q3 1 [.ref a3, .int wn208x], xA γ a3 12 wf209x, xQ γ q4 6 (fun t9 => some (kq t9))] ++ xKp γ kq ka kn ks) (base := [xO s0 3 [.ref r, .ref tq, .int td], xA γ r n f, xT γ tq kc (fun t9 => some (ta t9)), xBo γ bq kc g, xA γ q873x n (upd f t u9)]) (nc := 20) (nb := 25) (t := 0) rfl rfl (by omega)) (xisC rfl (xisC rfl (xisC rfl xisN)))) rfl rfl rfl hl.1 rfl (Nat.le_of_ble_eq_true rfl) dL_law_892 ⟨(by omega : _ ≤ 600172), (by omega : _ ≤ 7300668)⟩ rfl ?_
        refine x_top (y := if xPf n f (ks 0) u9 t = true then 1 else 0) (rfl) ?_
        refine lv_iload hx hb dL_law_895 (lv_at hl 13 rfl) ?_
        refine lv_iload hx hb dL_law_897 (lv_at hl 12 rfl) ?_
        have J907 : W p l e room_1 s m args below meth c H locs (ce857 + 1) (sl857 + n) Q (F0 m 907 ls [.int (if nI t = xFi (xPf n f (ks 0) u9) n then 1 else 0), .int (if xPf n f (ks 0) u9 t = true then 1 else 0)]) := by
          skip
          refine lv_icmp_eq (tgt := 924) hx hb dL_law_907 (by decide) (fun c907 => ?_) (fun c907 => ?_)
          · skip
            have hPD := xre (C := [xO q0 2 [.ref q1, .ref q4, .int (nI kc), .int td, .ref q2, .ref q3], xO q1 0 [.ref a1, .int (nI n)], xA γ a1 12 f, xO q2 0 [.ref a2, .int tn210x], xA γ a2 12 tf211x, xO q3 1 [.ref a3, .int wn208x], xA γ a3 12 wf209x, xQ γ q4 6 (fun t9 => some (kq t9))] ++ xKp γ kq ka kn ks) (E := [xO s0 3 [.ref r, .ref tq, .int td], xA γ r n f, xT γ tq kc (fun t9 => some (ta t9)), xBo γ bq kc g, xA γ q873x n (upd f t u9)]) (E2 := [xO s0 3 [.ref r, .ref tq, .int td], xA γ r n f, xT γ tq kc (fun t9 => some (ta t9)), xBo γ bq kc g]) (T := xTs γ ta n ks kc) [0, 1, 2, 3] rfl rfl hP hD
            have hP := hPD.1
            have hD := hPD.2
            have hP : xP γ (([xO q0 2 [.ref q1, .ref q4, .int (nI kc), .int td, .ref q2, .ref q3], xO q1 0 [.ref a1, .int (nI n)], xA γ a1 12 f, xO q2 0 [.ref a2, .int tn210x], xA γ a2 12 tf211x, xO q3 1 [.ref a3, .int wn208x], xA γ a3 12 wf209x, xQ γ q4 6 (fun t9 => some (kq t9))] ++ xKp γ kq ka kn ks) ++ ([xO s0 3 [.ref r, .ref tq, .int td], xA γ r n f, xT γ tq kc (fun t9 => some (ta t9)), xBo γ bq kc g] ++ xTs γ ta n ks kc)) H := hP
            have hD : va_D A (([xO q0 2 [.ref q1, .ref q4, .int (nI kc), .int td, .ref q2, .ref q3], xO q1 0 [.ref a1, .int (nI n)], xA γ a1 12 f, xO q2 0 [.ref a2, .int tn210x], xA γ a2 12 tf211x, xO q3 1 [.ref a3, .int wn208x], xA γ a3 12 wf209x, xQ γ q4 6 (fun t9 => some (kq t9))] ++ xKp γ kq ka kn ks) ++ ([xO s0 3 [.ref r, .ref tq, .int td], xA γ r n f, xT γ tq kc (fun t9 => some (ta t9)), xBo γ bq kc g] ++ xTs γ ta n ks kc)) := hD
            refine lv_iinc (v := nI (t + 1)) (lv' := [(19, .int (nI (t + 1))), (20, .ref q873x), (0, .ref b), (1, .ref q0), (2, .ref s0), (3, .int (nI tm)), (4, .int x), (5, .long (xDg n kc f ks td)), (7, .int (nI n)), (8, .int (nI kc)), (12, .ref bq), (15, .int (nI p9)), (17, .int u9), (18, .int (xFi (xPf n f (ks 0) u9) n))]) hx hb dL_law_924 hl (k := 13) rfl (nI_add t 1) (by decide) rfl (fun ls hl => ?_)
            refine lv_goto (tgt := 857) hx hb dL_law_927 (by decide) ?_
            exact ih857 (ce857 + 1) (sl857 + n) (t + 1) (by omega) (by omega) (by omega) _ _ hP hD hS ls (lv_sub hl [2, 3, 4, 5, 6, 7, 8, 9, 10, 11, 12, 13, 0] rfl)
          · have hw9 := xPl_w (P := xPf n f (ks 0) u9) (t := t) hn1 (by omega) c907
            refine lv_iload hx hb dL_law_910 (lv_at hl 13 rfl) ?_
            refine lv_iload hx hb dL_law_912 (lv_at hl 12 rfl) ?_
            refine lv_icmp_le (tgt := 922) hx hb dL_law_914 (by decide) (fun c => absurd c (hw9.1)) (fun _ => ?_)
            refine lv_iload hx hb dL_law_917 (lv_at hl 12 rfl) ?_
            refine lv_if_ge (tgt := 924) hx hb dL_law_919 (by decide) (fun _ => ?_) (fun c => absurd (hw9.2) c)
            have hPD := xre (C := [xO q0 2 [.ref q1, .ref q4, .int (nI kc), .int td, .ref q2, .ref q3], xO q1 0 [.ref a1, .int (nI n)], xA γ a1 12 f, xO q2 0 [.ref a2, .int tn210x], xA γ a2 12 tf211x, xO q3 1 [.ref a3, .int wn208x], xA γ a3 12 wf209x, xQ γ q4 6 (fun t9 => some (kq t9))] ++ xKp γ kq ka kn ks) (E := [xO s0 3 [.ref r, .ref tq, .int td], xA γ r n f, xT γ tq kc (fun t9 => some (ta t9)), xBo γ bq kc g, xA γ q873x n (upd f t u9)]) (E2 := [xO s0 3 [.ref r, .ref tq, .int td], xA γ r n f, xT γ tq kc (fun t9 => some (ta t9)), xBo γ bq kc g]) (T := xTs γ ta n ks kc) [0, 1, 2, 3] rfl rfl hP hD
            have hP := hPD.1
            have hD := hPD.2
            have hP : xP γ (([xO q0 2 [.ref q1, .ref q4, .int (nI kc), .int td, .ref q2, .ref q3], xO q1 0 [.ref a1, .int (nI n)], xA γ a1 12 f, xO q2 0 [.ref a2, .int tn210x], xA γ a2 12 tf211x, xO q3 1 [.ref a3, .int wn208x], xA γ a3 12 wf209x, xQ γ q4 6 (fun t9 => some (kq t9))] ++ xKp γ kq ka kn ks) ++ ([xO s0 3 [.ref r, .ref tq, .int td], xA γ r n f, xT γ tq kc (fun t9 => some (ta t9)), xBo γ bq kc g] ++ xTs γ ta n ks kc)) H := hP
            have hD : va_D A (([xO q0 2 [.ref q1, .ref q4, .int (nI kc), .int td, .ref q2, .ref q3], xO q1 0 [.ref a1, .int (nI n)], xA γ a1 12 f, xO q2 0 [.ref a2, .int tn210x], xA γ a2 12 tf211x, xO q3 1 [.ref a3, .int wn208x], xA γ a3 12 wf209x, xQ γ q4 6 (fun t9 => some (kq t9))] ++ xKp γ kq ka kn ks) ++ ([xO s0 3 [.ref r, .ref tq, .int td], xA γ r n f, xT γ tq kc (fun t9 => some (ta t9)), xBo γ bq kc g] ++ xTs γ ta n ks kc)) := hD
            refine lv_iinc (v := nI (t + 1)) (lv' := [(19, .int (nI (t + 1))), (20, .ref q873x), (0, .ref b), (1, .ref q0), (2, .ref s0), (3, .int (nI tm)), (4, .int x), (5, .long (xDg n kc f ks td)), (7, .int (nI n)), (8, .int (nI kc)), (12, .ref bq), (15, .int (nI p9)), (17, .int u9), (18, .int (xFi (xPf n f (ks 0) u9) n))]) hx hb dL_law_924 hl (k := 13) rfl (nI_add t 1) (by decide) rfl (fun ls hl => ?_)
            refine lv_goto (tgt := 857) hx hb dL_law_927 (by decide) ?_
            exact ih857 (ce857 + 1) (sl857 + n) (t + 1) (by omega) (by omega) (by omega) _ _ hP hD hS ls (lv_sub hl [2, 3, 4, 5, 6, 7, 8, 9, 10, 11, 12, 13, 0] rfl)
        refine lv_icmp_ne (tgt := 906) hx hb dL_law_899 (by decide) (fun c899 => ?_) (fun c899 => ?_)
        · refine lv_iconst (v := 0) hx hb dL_law_906 (by decide) ?_
          exact x_top (y := if nI t = xFi (xPf n f (ks 0) u9) n then 1 else 0) (xif_0 c899) J907
        · refine lv_iconst (v := 1) hx hb dL_law_902 (by decide) ?_
          refine lv_goto (tgt := 907) hx hb dL_law_903 (by decide) ?_
          exact x_top (y := if nI t = xFi (xPf n f (ks 0) u9) n then 1 else 0) (xif_1 c899) J907
    exact loop857 n cells slots 0 (by omega) (by omega) (by omega) _ _ hP hD hS ls (lv_sub hl [3, 4, 5, 6, 7, 8, 9, 10, 11, 12, 2, 1, 0] rfl)

set_option maxHeartbeats 16000000 in
set_option maxRecDepth 100000 in
theorem xlaw_rest {p : Program} {l : Launch} {e : Env} {s : State} {m : MethodId} {args : Array Value} {below : List Frame} {meth : Method} {c : Code} (hlt : l.stackTraces = false) (hx : p.tables.exec = Jvm.exec) (hb : c.code = cL_law) (hml : c.maxLocals = 27) (hts : ∀ w ∈ wsL_law, w.before args s = true) (hown : s.vm.findClass RL = some m.cls) {γ : xG} (hK : xK γ s) (sa : Nat → Nat) {A : Nat → Prop} (hEv : xEv s) (hEs : xEs sa s) (hEh : xEh A s s.heap) (hAr : xAz s) (hA : ∀ q : Nat, s.heap.size ≤ q → A q) (q0 q1 a1 q2 a2 q3 a3 q4 s0 : Nat) (kq ka : Nat → Nat) {b L : Nat} {xs : Nat → Int32} (hX : va_X b L xs s s.heap) (hbl : b < s.heap.size) (hbA : ¬ A b) (hL : L ≤ 260) {Q : State → Prop} (tm : Nat) (x : Int32) (n kc : Nat) (td tn wn : Int32) (f tf wf : xRow) (ks : Nat → xRow) (kn : Nat → Int32) (r tq : Nat) (ta : Nat → Nat) (J : Nat) (hI : xInv J n kc f ks) (hkn : ∀ t, t < kc → kn t = nI n) (bq : Nat) (g : xRow) (p9 : Nat) (hp9 : p9 < n) (H : Heap) (locs : List Loc) (cells slots : Nat) (ls : Array Slot) (hce : cells ≤ 500000) (hsl : slots ≤ 7000000) (hP : xP γ (([xO q0 2 [.ref q1, .ref q4, .int (nI kc), .int td, .ref q2, .ref q3], xO q1 0 [.ref a1, .int (nI n)], xA γ a1 12 f, xO q2 0 [.ref a2, .int tn], xA γ a2 12 tf, xO q3 1 [.ref a3, .int wn], xA γ a3 12 wf, xQ γ q4 6 (fun t9 => some (kq t9))] ++ xKp γ kq ka kn ks) ++ ([xO s0 3 [.ref r, .ref tq, .int td], xA γ r n f, xT γ tq kc (fun t9 => some (ta t9)), xBo γ bq kc g] ++ xTs γ ta n ks kc)) H) (hD : va_D A (([xO q0 2 [.ref q1, .ref q4, .int (nI kc), .int td, .ref q2, .ref q3], xO q1 0 [.ref a1, .int (nI n)], xA γ a1 12 f, xO q2 0 [.ref a2, .int tn], xA γ a2 12 tf, xO q3 1 [.ref a3, .int wn], xA γ a3 12 wf, xQ γ q4 6 (fun t9 => some (kq t9))] ++ xKp γ kq ka kn ks) ++ ([xO s0 3 [.ref r, .ref tq, .int td], xA γ r n f, xT γ tq kc (fun t9 => some (ta t9)), xBo γ bq kc g] ++ xTs γ ta n ks kc))) (hS : va_S A s.heap H locs) (hl : lv_has ls 27 [(0, .ref b), (1, .ref q0), (2, .ref s0), (3, .int (nI tm)), (4, .int x), (5, .long (xDg n kc f ks td)), (7, .int (nI n)), (8, .int (nI kc)), (12, .ref bq), (15, .int (nI p9))]) (K : ∀ (tn : Int32) (tf : xRow) (k9 r : Nat) (H : Heap) (locs : List Loc) (ce sl : Nat) (ls : Array Slot), (k9 ≤ 200) → ce ≤ cells + 200 → sl ≤ slots + 2400 → xP γ (([xO q0 2 [.ref q1, .ref q4, .int (nI kc), .int (td + nI (xStl n k9 f).1), .ref q2, .ref q3], xO q1 0 [.ref a1, .int (nI n)], xA γ a1 12 ((xStl n k9 f).2), xO q2 0 [.ref a2, .int tn], xA γ a2 12 tf, xO q3 1 [.ref a3, .int wn], xA γ a3 12 wf, xQ γ q4 6 (fun t9 => some (kq t9))] ++ xKp γ kq ka kn ks) ++ ([xO s0 3 [.ref r, .ref tq, .int (td + nI (xStl n k9 f).1)], xA γ r n ((xStl n k9 f).2), xT γ tq kc (fun t9 => some (ta t9)), xBo γ bq kc g] ++ xTs γ ta n ks kc)) H → va_D A (([xO q0 2 [.ref q1, .ref q4, .int (nI kc), .int (td + nI (xStl n k9 f).1), .ref q2, .ref q3], xO q1 0 [.ref a1, .int (nI n)], xA γ a1 12 ((xStl n k9 f).2), xO q2 0 [.ref a2, .int tn], xA γ a2 12 tf, xO q3 1 [.ref a3, .int wn], xA γ a3 12 wf, xQ γ q4 6 (fun t9 => some (kq t9))] ++ xKp γ kq ka kn ks) ++ ([xO s0 3 [.ref r, .ref tq, .int (td + nI (xStl n k9 f).1)], xA γ r n ((xStl n k9 f).2), xT γ tq kc (fun t9 => some (ta t9)), xBo γ bq kc g] ++ xTs γ ta n ks kc)) → va_S A s.heap H locs → lv_has ls 27 [(0, .ref b), (1, .ref q0), (2, .ref s0), (3, .int (nI tm)), (4, .int x), (5, .long (xDg n kc f ks td)), (7, .int (nI n)), (8, .int (nI kc)), (12, .ref bq), (15, .int (nI p9)), (19, .int (xTot f n)), (20, .int (xMm n f))] → W p l e room_1 s m args below meth c H locs ce sl Q (F0 m 1105 ls [])) : W p l e room_1 s m args below meth c H locs cells slots Q (F0 m 943 ls []) := by
  have hn0 := hI.1
  have hn1 := hI.2.1
  have hkc := hI.2.2.1
  have hbf := hI.f
  have hbg := hI.g
  refine lv_aload_n hx hb dL_law_943 rfl (lv_at hl 1 rfl) ?_
  refine xVR (q0 := 0) (ci := 2) (As := []) (rest := []) (stk := [.int (xTot f n)]) ⟨hx, hb, hml, hown, hts⟩ (c_X2_sum γ l q0 q1 q2 q3 q4 kc td a1 n f (by omega) (by omega)) (cwV 0 hts gL_law_X2_sum rfl rfl rfl hdv_X2_sum ⟨(Nat.le_of_ble_eq_true rfl), (Nat.le_of_ble_eq_true rfl)⟩) hK hP [0, 1, 2] rfl rfl rfl rfl hl.1 rfl (Nat.le_of_ble_eq_true rfl) dL_law_944 ⟨(by omega : _ ≤ 600172), (by omega : _ ≤ 7300668)⟩ rfl ?_
  refine lv_istore (lv' := [(19, .int (xTot f n)), (0, .ref b), (1, .ref q0), (2, .ref s0), (3, .int (nI tm)), (4, .int x), (5, .long (xDg n kc f ks td)), (7, .int (nI n)), (8, .int (nI kc)), (12, .ref bq), (15, .int (nI p9))]) hx hb dL_law_947 hl (by decide) rfl (fun ls hl => ?_)
  refine lv_aload_n hx hb dL_law_949 rfl (lv_at hl 2 rfl) ?_
  refine xVR (q0 := 0) (ci := 2) (As := []) (rest := []) (stk := [.int (xMm n f)]) ⟨hx, hb, hml, hown, hts⟩ (c_X2_moment γ l q0 q1 q2 q3 q4 kc td a1 n f (by omega) (by omega)) (cwV 0 hts gL_law_X2_moment rfl rfl rfl hdv_X2_moment ⟨(Nat.le_of_ble_eq_true rfl), (Nat.le_of_ble_eq_true rfl)⟩) hK hP [0, 1, 2] rfl rfl rfl rfl hl.1 rfl (Nat.le_of_ble_eq_true rfl) dL_law_950 ⟨(by omega : _ ≤ 600172), (by omega : _ ≤ 7300668)⟩ rfl ?_
  refine lv_istore (lv' := [(20, .int (xMm n f)), (19, .int (xTot f n)), (0, .ref b), (1, .ref q0), (2, .ref s0), (3, .int (nI tm)), (4, .int x), (5, .long (xDg n kc f ks td)), (7, .int (nI n)), (8, .int (nI kc)), (12, .ref bq), (15, .int (nI p9))]) hx hb dL_law_953 hl (by decide) rfl (fun ls hl => ?_)
  refine lv_aload_n hx hb dL_law_955 rfl (lv_at hl 3 rfl) ?_
  refine xVM (q0 := 0) (ci := 2) (As := []) (rest := []) ⟨hx, hb, hml, hown, hts⟩ (c_X2_stepsToRest γ l q0 q1 q2 q3 q4 kc td a1 n f a2 tn tf (by omega) (by omega)) (cwV 0 hts gL_law_X2_stepsToRest rfl rfl rfl hdv_X2_stepsToRest ⟨(Nat.le_of_ble_eq_true rfl), (Nat.le_of_ble_eq_true rfl)⟩) hK hP hD hS hA [0, 1, 2, 3, 4] rfl rfl rfl rfl rfl hl.1 rfl (Nat.le_of_ble_eq_true rfl) dL_law_956 ⟨(by omega : _ ≤ 600172), (by omega : _ ≤ 7300668)⟩ (fun r9 w9 H locs hw hP hD hS => ?_)
  obtain ⟨rfl, tn212x, tf213x, rfl⟩ := hw
  have hP : xP γ (([xO q0 2 [.ref q1, .ref q4, .int (nI kc), .int td, .ref q2, .ref q3], xO q1 0 [.ref a1, .int (nI n)], xA γ a1 12 f, xO q2 0 [.ref a2, .int tn212x], xA γ a2 12 tf213x, xO q3 1 [.ref a3, .int wn], xA γ a3 12 wf, xQ γ q4 6 (fun t9 => some (kq t9))] ++ xKp γ kq ka kn ks) ++ ([xO s0 3 [.ref r, .ref tq, .int td], xA γ r n f, xT γ tq kc (fun t9 => some (ta t9)), xBo γ bq kc g] ++ xTs γ ta n ks kc)) H := hP
  have hD : va_D A (([xO q0 2 [.ref q1, .ref q4, .int (nI kc), .int td, .ref q2, .ref q3], xO q1 0 [.ref a1, .int (nI n)], xA γ a1 12 f, xO q2 0 [.ref a2, .int tn212x], xA γ a2 12 tf213x, xO q3 1 [.ref a3, .int wn], xA γ a3 12 wf, xQ γ q4 6 (fun t9 => some (kq t9))] ++ xKp γ kq ka kn ks) ++ ([xO s0 3 [.ref r, .ref tq, .int td], xA γ r n f, xT γ tq kc (fun t9 => some (ta t9)), xBo γ bq kc g] ++ xTs γ ta n ks kc)) := hD
  refine W.eq (g2 := F0 m 959 ls [.int (xRs n f)]) rfl ?_
  rcases xRs_q (f := f) hn1 with ⟨hq, hR, hSr⟩ | ⟨hq, hR, hSr⟩
  · refine x_top (y := nI ((xStl n 300 f).1)) (hR) ?_
    have hD9 := xStl_le n 300 f
    refine lv_istore (lv' := [(21, .int (nI ((xStl n 300 f).1))), (20, .int (xMm n f)), (19, .int (xTot f n)), (0, .ref b), (1, .ref q0), (2, .ref s0), (3, .int (nI tm)), (4, .int x), (5, .long (xDg n kc f ks td)), (7, .int (nI n)), (8, .int (nI kc)), (12, .ref bq), (15, .int (nI p9))]) hx hb dL_law_959 hl (by decide) rfl (fun ls hl => ?_)
    refine lv_aload_n hx hb dL_law_961 rfl (lv_at hl 4 rfl) ?_
    refine xVM (q0 := 0) (ci := 2) (As := []) (rest := []) ⟨hx, hb, hml, hown, hts⟩ (c_X2_spreadAtRest γ l q0 q1 q2 q3 q4 kc td a1 n f a2 tn212x tf213x (by omega) (by omega)) (cwV 0 hts gL_law_X2_spreadAtRest rfl rfl rfl hdv_X2_spreadAtRest ⟨(Nat.le_of_ble_eq_true rfl), (Nat.le_of_ble_eq_true rfl)⟩) hK hP hD hS hA [0, 1, 2, 3, 4] rfl rfl rfl rfl rfl hl.1 rfl (Nat.le_of_ble_eq_true rfl) dL_law_962 ⟨(by omega : _ ≤ 600172), (by omega : _ ≤ 7300668)⟩ (fun r9 w9 H locs hw hP hD hS => ?_)
    obtain ⟨rfl, tn214x, tf215x, rfl⟩ := hw
    have hP : xP γ (([xO q0 2 [.ref q1, .ref q4, .int (nI kc), .int td, .ref q2, .ref q3], xO q1 0 [.ref a1, .int (nI n)], xA γ a1 12 f, xO q2 0 [.ref a2, .int tn214x], xA γ a2 12 tf215x, xO q3 1 [.ref a3, .int wn], xA γ a3 12 wf, xQ γ q4 6 (fun t9 => some (kq t9))] ++ xKp γ kq ka kn ks) ++ ([xO s0 3 [.ref r, .ref tq, .int td], xA γ r n f, xT γ tq kc (fun t9 => some (ta t9)), xBo γ bq kc g] ++ xTs γ ta n ks kc)) H := hP
    have hD : va_D A (([xO q0 2 [.ref q1, .ref q4, .int (nI kc), .int td, .ref q2, .ref q3], xO q1 0 [.ref a1, .int (nI n)], xA γ a1 12 f, xO q2 0 [.ref a2, .int tn214x], xA γ a2 12 tf215x, xO q3 1 [.ref a3, .int wn], xA γ a3 12 wf, xQ γ q4 6 (fun t9 => some (kq t9))] ++ xKp γ kq ka kn ks) ++ ([xO s0 3 [.ref r, .ref tq, .int td], xA γ r n f, xT γ tq kc (fun t9 => some (ta t9)), xBo γ bq kc g] ++ xTs γ ta n ks kc)) := hD
    refine W.eq (g2 := F0 m 965 ls [.int (xSr n f)]) rfl ?_
    refine lv_istore (lv' := [(22, .int (xSr n f)), (21, .int (nI ((xStl n 300 f).1))), (20, .int (xMm n f)), (19, .int (xTot f n)), (0, .ref b), (1, .ref q0), (2, .ref s0), (3, .int (nI tm)), (4, .int x), (5, .long (xDg n kc f ks td)), (7, .int (nI n)), (8, .int (nI kc)), (12, .ref bq), (15, .int (nI p9))]) hx hb dL_law_965 hl (by decide) rfl (fun ls hl => ?_)
    refine lv_iconst (v := 1) hx hb dL_law_967 (by decide) ?_
    refine lv_iload hx hb dL_law_968 (lv_at hl 8 rfl) ?_
    refine lv_bipush (v := 6) hx hb dL_law_970 (by decide) ?_
    refine lv_ishr hx hb dL_law_972 ?_
    refine lv_bipush (v := 120) hx hb dL_law_973 (by decide) ?_
    refine xSR (As := [.int (x >>> (6 &&& 31)), .int 120]) (rest := [.int 1]) (stk := [.int (nI (xBl (x >>> (6 &&& 31)) 120)), .int 1]) ⟨hx, hb, hml, hown, hts⟩ (c_L_below γ l (x >>> (6 &&& 31)) 120 (by omega) (by omega)) (va_cwS 2 hts gL_law_L_below rfl rfl rfl hds_L_below ⟨(Nat.le_of_ble_eq_true rfl), (Nat.le_of_ble_eq_true rfl)⟩) hK hP [] rfl  rfl hl.1 rfl (Nat.le_of_ble_eq_true rfl) dL_law_975 ⟨(by omega : _ ≤ 600172), (by omega : _ ≤ 7300668)⟩ rfl ?_
    refine lv_iadd hx hb dL_law_978 ?_
    obtain ⟨k9, ek9, hk91, hk92⟩ : ∃ k9 : Nat, k9 = 1 + xBl (x >>> (6 &&& 31)) 120 ∧ 1 ≤ k9 ∧ k9 ≤ 200 := ⟨_, rfl, by omega, by have := xBl_lt (v := x >>> (6 &&& 31)) (N := 120) (by omega); omega⟩
    refine x_top (y := nI k9) (by rw [ek9]; exact nI_add 1 _) ?_
    have hsl1 := xStl_le n k9 f
    refine lv_istore (lv' := [(23, .int (nI k9)), (22, .int (xSr n f)), (21, .int (nI ((xStl n 300 f).1))), (20, .int (xMm n f)), (19, .int (xTot f n)), (0, .ref b), (1, .ref q0), (2, .ref s0), (3, .int (nI tm)), (4, .int x), (5, .long (xDg n kc f ks td)), (7, .int (nI n)), (8, .int (nI kc)), (12, .ref bq), (15, .int (nI p9))]) hx hb dL_law_979 hl (by decide) rfl (fun ls hl => ?_)
    refine lv_aload_n hx hb dL_law_981 rfl (lv_at hl 6 rfl) ?_
    refine lv_iload hx hb dL_law_982 (lv_at hl 0 rfl) ?_
    refine xVM (q0 := 0) (ci := 2) (As := [.int (nI k9)]) (rest := []) ⟨hx, hb, hml, hown, hts⟩ (c_X2_settle γ l q0 q1 q2 q3 q4 kc td a1 n f k9 (by omega) (by omega) (by omega) (by omega)) (cwV 1 hts gL_law_X2_settle rfl rfl rfl hdv_X2_settle ⟨(Nat.le_of_ble_eq_true rfl), (Nat.le_of_ble_eq_true rfl)⟩) hK hP hD hS hA [0, 1, 2] rfl rfl rfl rfl rfl hl.1 rfl (Nat.le_of_ble_eq_true rfl) dL_law_984 ⟨(by omega : _ ≤ 600172), (by omega : _ ≤ 7300668)⟩ (fun r9 w9 H locs hw hP hD hS => ?_)
    obtain ⟨rfl, rfl⟩ := hw
    have hP : xP γ (([xO q0 2 [.ref q1, .ref q4, .int (nI kc), .int (td + nI (xStl n k9 f).1), .ref q2, .ref q3], xO q1 0 [.ref a1, .int (nI n)], xA γ a1 12 ((xStl n k9 f).2), xO q2 0 [.ref a2, .int tn214x], xA γ a2 12 tf215x, xO q3 1 [.ref a3, .int wn], xA γ a3 12 wf, xQ γ q4 6 (fun t9 => some (kq t9))] ++ xKp γ kq ka kn ks) ++ ([xO s0 3 [.ref r, .ref tq, .int td], xA γ r n f, xT γ tq kc (fun t9 => some (ta t9)), xBo γ bq kc g] ++ xTs γ ta n ks kc)) H := hP
    have hD : va_D A (([xO q0 2 [.ref q1, .ref q4, .int (nI kc), .int (td + nI (xStl n k9 f).1), .ref q2, .ref q3], xO q1 0 [.ref a1, .int (nI n)], xA γ a1 12 ((xStl n k9 f).2), xO q2 0 [.ref a2, .int tn214x], xA γ a2 12 tf215x, xO q3 1 [.ref a3, .int wn], xA γ a3 12 wf, xQ γ q4 6 (fun t9 => some (kq t9))] ++ xKp γ kq ka kn ks) ++ ([xO s0 3 [.ref r, .ref tq, .int td], xA γ r n f, xT γ tq kc (fun t9 => some (ta t9)), xBo γ bq kc g] ++ xTs γ ta n ks kc)) := hD
    refine W.eq (g2 := F0 m 987 ls [.int (nI ((xStl n k9 f).1))]) rfl ?_
    have hmin := xStl_min (k := k9) (f := f) (by omega) hq
    have haft := xRs_after (k := k9) (f := f) hn1 (by omega) hq
    refine lv_istore (lv' := [(24, .int (nI ((xStl n k9 f).1))), (23, .int (nI k9)), (22, .int (xSr n f)), (21, .int (nI ((xStl n 300 f).1))), (20, .int (xMm n f)), (19, .int (xTot f n)), (0, .ref b), (1, .ref q0), (2, .ref s0), (3, .int (nI tm)), (4, .int x), (5, .long (xDg n kc f ks td)), (7, .int (nI n)), (8, .int (nI kc)), (12, .ref bq), (15, .int (nI p9))]) hx hb dL_law_987 hl (by decide) rfl (fun ls hl => ?_)
    refine lv_iload hx hb dL_law_989 (lv_at hl 0 rfl) ?_
    refine lv_aload_n hx hb dL_law_991 rfl (lv_at hl 8 rfl) ?_
    refine lv_iload hx hb dL_law_992 (lv_at hl 1 rfl) ?_
    refine xVC (q0 := 20) (ci := 3) (As := [.int (nI k9)]) (rest := [.int (nI ((xStl n k9 f).1))]) ⟨hx, hb, hml, hown, hts⟩ (c_X3_settle γ l s0 r tq td n f k9 (by omega) (by omega) (by omega)) (cwV 1 hts gL_law_X3_settle rfl rfl rfl hdv_X3_settle ⟨(Nat.le_of_ble_eq_true rfl), (Nat.le_of_ble_eq_true rfl)⟩) xAz_blind (fun U _ hW => xAz.warm hW hAr) hK hP hD hS hA [20, 21] rfl rfl rfl rfl rfl hl.1 rfl (Nat.le_of_ble_eq_true rfl) dL_law_994 ⟨(by omega : _ ≤ 600172), (by omega : _ ≤ 7300668)⟩ (fun r9 w9 v9 H locs hw hP hD hS => ?_)
    obtain ⟨b216x, rfl, rfl, rfl⟩ := hw
    have hP : xP γ (([xO q0 2 [.ref q1, .ref q4, .int (nI kc), .int (td + nI (xStl n k9 f).1), .ref q2, .ref q3], xO q1 0 [.ref a1, .int (nI n)], xA γ a1 12 ((xStl n k9 f).2), xO q2 0 [.ref a2, .int tn214x], xA γ a2 12 tf215x, xO q3 1 [.ref a3, .int wn], xA γ a3 12 wf, xQ γ q4 6 (fun t9 => some (kq t9))] ++ xKp γ kq ka kn ks) ++ ([xO s0 3 [.ref b216x, .ref tq, .int (td + nI (xStl n k9 f).1)], xA γ b216x n ((xStl n k9 f).2), xT γ tq kc (fun t9 => some (ta t9)), xBo γ bq kc g] ++ xTs γ ta n ks kc)) H := by simp only [List.append_nil] at hP; exact hP
    have hD : va_D A (([xO q0 2 [.ref q1, .ref q4, .int (nI kc), .int (td + nI (xStl n k9 f).1), .ref q2, .ref q3], xO q1 0 [.ref a1, .int (nI n)], xA γ a1 12 ((xStl n k9 f).2), xO q2 0 [.ref a2, .int tn214x], xA γ a2 12 tf215x, xO q3 1 [.ref a3, .int wn], xA γ a3 12 wf, xQ γ q4 6 (fun t9 => some (kq t9))] ++ xKp γ kq ka kn ks) ++ ([xO s0 3 [.ref b216x, .ref tq, .int (td + nI (xStl n k9 f).1)], xA γ b216x n ((xStl n k9 f).2), xT γ tq kc (fun t9 => some (ta t9)), xBo γ bq kc g] ++ xTs γ ta n ks kc)) := by simp only [List.append_nil] at hD; exact hD
    refine W.eq (g2 := F0 m 997 ls [.int (nI ((xStl n k9 f).1)), .int (nI ((xStl n k9 f).1))]) rfl ?_
    refine lv_icmp_ne (tgt := 1103) hx hb dL_law_997 (by decide) (fun c => absurd (rfl) c) (fun _ => ?_)
    refine lv_iload hx hb dL_law_1000 (lv_at hl 0 rfl) ?_
    refine lv_iload hx hb dL_law_1002 (lv_at hl 1 rfl) ?_
    refine lv_icmp_gt (tgt := 1103) hx hb dL_law_1004 (by decide) (fun c => absurd c (nI_nlt (a := k9) (b := (xStl n k9 f).1) (by omega) (by omega))) (fun _ => ?_)
    refine lv_iload hx hb dL_law_1007 (lv_at hl 3 rfl) ?_
    refine lv_if_lt (tgt := 1024) hx hb dL_law_1009 (by decide) (fun c => absurd c (nI_nlt (a := (xStl n 300 f).1) (b := 0) (by omega) (by omega))) (fun _ => ?_)
    refine lv_iload hx hb dL_law_1012 (lv_at hl 0 rfl) ?_
    refine lv_iload hx hb dL_law_1014 (lv_at hl 3 rfl) ?_
    refine lv_iload hx hb dL_law_1016 (lv_at hl 1 rfl) ?_
    refine va_mmin hx hb (hml.trans hl.1.symm) hown (hts _ wdL_law_m153a) (hts _ wdL_law_m153b) (hts _ wdL_law_m153c) (hts _ wdL_law_m153d) (Nat.le_of_ble_eq_true rfl) (Nat.le_of_ble_eq_true rfl) (by omega : _ ≤ 600172) (by omega : _ ≤ 7300668) dL_law_1018 ?_
    refine x_top (y := nI ((xStl n k9 f).1)) (xMin9 hmin.1 (by omega) (by omega)) ?_
    refine lv_icmp_ne (tgt := 1103) hx hb dL_law_1021 (by decide) (fun c => absurd (rfl) c) (fun _ => ?_)
    refine lv_iload hx hb dL_law_1024 (lv_at hl 0 rfl) ?_
    refine lv_iload hx hb dL_law_1026 (lv_at hl 1 rfl) ?_
    have J1036 : W p l e room_1 s m args below meth c H locs (cells + 200) (slots + 2400) Q (F0 m 1036 ls [.int (if (xStl n k9 f).1 < k9 then 1 else 0)]) := by
      skip
      refine lv_iload hx hb dL_law_1036 (lv_at hl 3 rfl) ?_
      refine lv_if_lt (tgt := 1052) hx hb dL_law_1038 (by decide) (fun c => absurd c (nI_nlt (a := (xStl n 300 f).1) (b := 0) (by omega) (by omega))) (fun _ => ?_)
      refine lv_iload hx hb dL_law_1041 (lv_at hl 3 rfl) ?_
      refine lv_iload hx hb dL_law_1043 (lv_at hl 1 rfl) ?_
      have J1053 : W p l e room_1 s m args below meth c H locs (cells + 200) (slots + 2400) Q (F0 m 1053 ls [.int (if (xStl n 300 f).1 < k9 then 1 else 0), .int (if (xStl n k9 f).1 < k9 then 1 else 0)]) := by
        skip
        refine lv_icmp_ne (tgt := 1103) hx hb dL_law_1053 (by decide) (fun c => absurd (xMinLt hmin.1) c) (fun _ => ?_)
        refine lv_iload hx hb dL_law_1056 (lv_at hl 3 rfl) ?_
        refine lv_if_lt (tgt := 1082) hx hb dL_law_1058 (by decide) (fun c => absurd c (nI_nlt (a := (xStl n 300 f).1) (b := 0) (by omega) (by omega))) (fun _ => ?_)
        refine lv_aload_n hx hb dL_law_1061 rfl (lv_at hl 7 rfl) ?_
        refine xVM (q0 := 0) (ci := 2) (As := []) (rest := []) ⟨hx, hb, hml, hown, hts⟩ (c_X2_stepsToRest γ l q0 q1 q2 q3 q4 kc (td + nI (xStl n k9 f).1) a1 n ((xStl n k9 f).2) a2 tn214x tf215x (by omega) (by omega)) (cwV 0 hts gL_law_X2_stepsToRest rfl rfl rfl hdv_X2_stepsToRest ⟨(Nat.le_of_ble_eq_true rfl), (Nat.le_of_ble_eq_true rfl)⟩) hK hP hD hS hA [0, 1, 2, 3, 4] rfl rfl rfl rfl rfl hl.1 rfl (Nat.le_of_ble_eq_true rfl) dL_law_1062 ⟨(by omega : _ ≤ 600172), (by omega : _ ≤ 7300668)⟩ (fun r9 w9 H locs hw hP hD hS => ?_)
        obtain ⟨rfl, tn217x, tf218x, rfl⟩ := hw
        have hP : xP γ (([xO q0 2 [.ref q1, .ref q4, .int (nI kc), .int (td + nI (xStl n k9 f).1), .ref q2, .ref q3], xO q1 0 [.ref a1, .int (nI n)], xA γ a1 12 ((xStl n k9 f).2), xO q2 0 [.ref a2, .int tn217x], xA γ a2 12 tf218x, xO q3 1 [.ref a3, .int wn], xA γ a3 12 wf, xQ γ q4 6 (fun t9 => some (kq t9))] ++ xKp γ kq ka kn ks) ++ ([xO s0 3 [.ref b216x, .ref tq, .int (td + nI (xStl n k9 f).1)], xA γ b216x n ((xStl n k9 f).2), xT γ tq kc (fun t9 => some (ta t9)), xBo γ bq kc g] ++ xTs γ ta n ks kc)) H := hP
        have hD : va_D A (([xO q0 2 [.ref q1, .ref q4, .int (nI kc), .int (td + nI (xStl n k9 f).1), .ref q2, .ref q3], xO q1 0 [.ref a1, .int (nI n)], xA γ a1 12 ((xStl n k9 f).2), xO q2 0 [.ref a2, .int tn217x], xA γ a2 12 tf218x, xO q3 1 [.ref a3, .int wn], xA γ a3 12 wf, xQ γ q4 6 (fun t9 => some (kq t9))] ++ xKp γ kq ka kn ks) ++ ([xO s0 3 [.ref b216x, .ref tq, .int (td + nI (xStl n k9 f).1)], xA γ b216x n ((xStl n k9 f).2), xT γ tq kc (fun t9 => some (ta t9)), xBo γ bq kc g] ++ xTs γ ta n ks kc)) := hD
        refine W.eq (g2 := F0 m 1065 ls [.int (xRs n ((xStl n k9 f).2))]) rfl ?_
        refine lv_iload hx hb dL_law_1065 (lv_at hl 3 rfl) ?_
        refine lv_iload hx hb dL_law_1067 (lv_at hl 0 rfl) ?_
        refine lv_isub hx hb dL_law_1069 ?_
        refine lv_icmp_ne (tgt := 1103) hx hb dL_law_1070 (by decide) (fun c => absurd (haft.1) c) (fun _ => ?_)
        refine lv_aload_n hx hb dL_law_1073 rfl (lv_at hl 7 rfl) ?_
        refine xVM (q0 := 0) (ci := 2) (As := []) (rest := []) ⟨hx, hb, hml, hown, hts⟩ (c_X2_spreadAtRest γ l q0 q1 q2 q3 q4 kc (td + nI (xStl n k9 f).1) a1 n ((xStl n k9 f).2) a2 tn217x tf218x (by omega) (by omega)) (cwV 0 hts gL_law_X2_spreadAtRest rfl rfl rfl hdv_X2_spreadAtRest ⟨(Nat.le_of_ble_eq_true rfl), (Nat.le_of_ble_eq_true rfl)⟩) hK hP hD hS hA [0, 1, 2, 3, 4] rfl rfl rfl rfl rfl hl.1 rfl (Nat.le_of_ble_eq_true rfl) dL_law_1074 ⟨(by omega : _ ≤ 600172), (by omega : _ ≤ 7300668)⟩ (fun r9 w9 H locs hw hP hD hS => ?_)
        obtain ⟨rfl, tn219x, tf220x, rfl⟩ := hw
        have hP : xP γ (([xO q0 2 [.ref q1, .ref q4, .int (nI kc), .int (td + nI (xStl n k9 f).1), .ref q2, .ref q3], xO q1 0 [.ref a1, .int (nI n)], xA γ a1 12 ((xStl n k9 f).2), xO q2 0 [.ref a2, .int tn219x], xA γ a2 12 tf220x, xO q3 1 [.ref a3, .int wn], xA γ a3 12 wf, xQ γ q4 6 (fun t9 => some (kq t9))] ++ xKp γ kq ka kn ks) ++ ([xO s0 3 [.ref b216x, .ref tq, .int (td + nI (xStl n k9 f).1)], xA γ b216x n ((xStl n k9 f).2), xT γ tq kc (fun t9 => some (ta t9)), xBo γ bq kc g] ++ xTs γ ta n ks kc)) H := hP
        have hD : va_D A (([xO q0 2 [.ref q1, .ref q4, .int (nI kc), .int (td + nI (xStl n k9 f).1), .ref q2, .ref q3], xO q1 0 [.ref a1, .int (nI n)], xA γ a1 12 ((xStl n k9 f).2), xO q2 0 [.ref a2, .int tn219x], xA γ a2 12 tf220x, xO q3 1 [.ref a3, .int wn], xA γ a3 12 wf, xQ γ q4 6 (fun t9 => some (kq t9))] ++ xKp γ kq ka kn ks) ++ ([xO s0 3 [.ref b216x, .ref tq, .int (td + nI (xStl n k9 f).1)], xA γ b216x n ((xStl n k9 f).2), xT γ tq kc (fun t9 => some (ta t9)), xBo γ bq kc g] ++ xTs γ ta n ks kc)) := hD
        refine W.eq (g2 := F0 m 1077 ls [.int (xSr n ((xStl n k9 f).2))]) rfl ?_
        refine lv_iload hx hb dL_law_1077 (lv_at hl 2 rfl) ?_
        refine lv_icmp_ne (tgt := 1103) hx hb dL_law_1079 (by decide) (fun c => absurd (haft.2.trans hSr.symm) c) (fun _ => ?_)
        refine lv_iload hx hb dL_law_1082 (lv_at hl 3 rfl) ?_
        refine lv_if_lt (tgt := 1105) hx hb dL_law_1084 (by decide) (fun c => absurd c (nI_nlt (a := (xStl n 300 f).1) (b := 0) (by omega) (by omega))) (fun _ => ?_)
        refine lv_iload hx hb dL_law_1087 (lv_at hl 3 rfl) ?_
        refine lv_iload hx hb dL_law_1089 (lv_at hl 1 rfl) ?_
        refine lv_icmp_gt (tgt := 1105) hx hb dL_law_1091 (by decide) (fun c1091 => ?_) (fun c1091 => ?_)
        · exact K tn219x tf220x k9 b216x _ _ _ _ _ (hk92) (by omega) (by omega) hP hD hS (lv_sub hl [6, 7, 8, 9, 10, 11, 12, 13, 14, 15, 5, 4] rfl)
        · refine lv_aload_n hx hb dL_law_1094 rfl (lv_at hl 7 rfl) ?_
          refine xVR (q0 := 0) (ci := 2) (As := []) (rest := []) (stk := [.int (xSpn n ((xStl n k9 f).2))]) ⟨hx, hb, hml, hown, hts⟩ (c_X2_spread γ l q0 q1 q2 q3 q4 kc (td + nI (xStl n k9 f).1) a1 n ((xStl n k9 f).2) (by omega) (by omega)) (cwV 0 hts gL_law_X2_spread rfl rfl rfl hdv_X2_spread ⟨(Nat.le_of_ble_eq_true rfl), (Nat.le_of_ble_eq_true rfl)⟩) hK hP [0, 1, 2] rfl rfl rfl rfl hl.1 rfl (Nat.le_of_ble_eq_true rfl) dL_law_1095 ⟨(by omega : _ ≤ 600172), (by omega : _ ≤ 7300668)⟩ rfl ?_
          refine lv_iload hx hb dL_law_1098 (lv_at hl 2 rfl) ?_
          refine lv_icmp_eq (tgt := 1105) hx hb dL_law_1100 (by decide) (fun _ => ?_) (fun c => absurd (by rw [hmin.2 (Classical.byContradiction (fun h => c1091 (nI_lt (by omega) (by omega)))), hSr]) c)
          exact K tn219x tf220x k9 b216x _ _ _ _ _ (hk92) (by omega) (by omega) hP hD hS (lv_sub hl [6, 7, 8, 9, 10, 11, 12, 13, 14, 15, 5, 4] rfl)
      refine lv_icmp_ge (tgt := 1052) hx hb dL_law_1045 (by decide) (fun c1045 => ?_) (fun c1045 => ?_)
      · refine lv_iconst (v := 0) hx hb dL_law_1052 (by decide) ?_
        exact x_top (y := if (xStl n 300 f).1 < k9 then 1 else 0) (xLt_0 (by omega) c1045) J1053
      · refine lv_iconst (v := 1) hx hb dL_law_1048 (by decide) ?_
        refine lv_goto (tgt := 1053) hx hb dL_law_1049 (by decide) ?_
        exact x_top (y := if (xStl n 300 f).1 < k9 then 1 else 0) (xLt_1 (by omega) c1045) J1053
    refine lv_icmp_ge (tgt := 1035) hx hb dL_law_1028 (by decide) (fun c1028 => ?_) (fun c1028 => ?_)
    · refine lv_iconst (v := 0) hx hb dL_law_1035 (by decide) ?_
      exact x_top (y := if (xStl n k9 f).1 < k9 then 1 else 0) (xLt_0 (by omega) c1028) J1036
    · refine lv_iconst (v := 1) hx hb dL_law_1031 (by decide) ?_
      refine lv_goto (tgt := 1036) hx hb dL_law_1032 (by decide) ?_
      exact x_top (y := if (xStl n k9 f).1 < k9 then 1 else 0) (xLt_1 (by omega) c1028) J1036
  · refine x_top (y := (-1)) (hR) ?_
    refine lv_istore (lv' := [(21, .int (-1)), (20, .int (xMm n f)), (19, .int (xTot f n)), (0, .ref b), (1, .ref q0), (2, .ref s0), (3, .int (nI tm)), (4, .int x), (5, .long (xDg n kc f ks td)), (7, .int (nI n)), (8, .int (nI kc)), (12, .ref bq), (15, .int (nI p9))]) hx hb dL_law_959 hl (by decide) rfl (fun ls hl => ?_)
    refine lv_aload_n hx hb dL_law_961 rfl (lv_at hl 4 rfl) ?_
    refine xVM (q0 := 0) (ci := 2) (As := []) (rest := []) ⟨hx, hb, hml, hown, hts⟩ (c_X2_spreadAtRest γ l q0 q1 q2 q3 q4 kc td a1 n f a2 tn212x tf213x (by omega) (by omega)) (cwV 0 hts gL_law_X2_spreadAtRest rfl rfl rfl hdv_X2_spreadAtRest ⟨(Nat.le_of_ble_eq_true rfl), (Nat.le_of_ble_eq_true rfl)⟩) hK hP hD hS hA [0, 1, 2, 3, 4] rfl rfl rfl rfl rfl hl.1 rfl (Nat.le_of_ble_eq_true rfl) dL_law_962 ⟨(by omega : _ ≤ 600172), (by omega : _ ≤ 7300668)⟩ (fun r9 w9 H locs hw hP hD hS => ?_)
    obtain ⟨rfl, tn221x, tf222x, rfl⟩ := hw
    have hP : xP γ (([xO q0 2 [.ref q1, .ref q4, .int (nI kc), .int td, .ref q2, .ref q3], xO q1 0 [.ref a1, .int (nI n)], xA γ a1 12 f, xO q2 0 [.ref a2, .int tn221x], xA γ a2 12 tf222x, xO q3 1 [.ref a3, .int wn], xA γ a3 12 wf, xQ γ q4 6 (fun t9 => some (kq t9))] ++ xKp γ kq ka kn ks) ++ ([xO s0 3 [.ref r, .ref tq, .int td], xA γ r n f, xT γ tq kc (fun t9 => some (ta t9)), xBo γ bq kc g] ++ xTs γ ta n ks kc)) H := hP
    have hD : va_D A (([xO q0 2 [.ref q1, .ref q4, .int (nI kc), .int td, .ref q2, .ref q3], xO q1 0 [.ref a1, .int (nI n)], xA γ a1 12 f, xO q2 0 [.ref a2, .int tn221x], xA γ a2 12 tf222x, xO q3 1 [.ref a3, .int wn], xA γ a3 12 wf, xQ γ q4 6 (fun t9 => some (kq t9))] ++ xKp γ kq ka kn ks) ++ ([xO s0 3 [.ref r, .ref tq, .int td], xA γ r n f, xT γ tq kc (fun t9 => some (ta t9)), xBo γ bq kc g] ++ xTs γ ta n ks kc)) := hD
    refine W.eq (g2 := F0 m 965 ls [.int (xSr n f)]) rfl ?_
    refine lv_istore (lv' := [(22, .int (xSr n f)), (21, .int (-1)), (20, .int (xMm n f)), (19, .int (xTot f n)), (0, .ref b), (1, .ref q0), (2, .ref s0), (3, .int (nI tm)), (4, .int x), (5, .long (xDg n kc f ks td)), (7, .int (nI n)), (8, .int (nI kc)), (12, .ref bq), (15, .int (nI p9))]) hx hb dL_law_965 hl (by decide) rfl (fun ls hl => ?_)
    refine lv_iconst (v := 1) hx hb dL_law_967 (by decide) ?_
    refine lv_iload hx hb dL_law_968 (lv_at hl 8 rfl) ?_
    refine lv_bipush (v := 6) hx hb dL_law_970 (by decide) ?_
    refine lv_ishr hx hb dL_law_972 ?_
    refine lv_bipush (v := 120) hx hb dL_law_973 (by decide) ?_
    refine xSR (As := [.int (x >>> (6 &&& 31)), .int 120]) (rest := [.int 1]) (stk := [.int (nI (xBl (x >>> (6 &&& 31)) 120)), .int 1]) ⟨hx, hb, hml, hown, hts⟩ (c_L_below γ l (x >>> (6 &&& 31)) 120 (by omega) (by omega)) (va_cwS 2 hts gL_law_L_below rfl rfl rfl hds_L_below ⟨(Nat.le_of_ble_eq_true rfl), (Nat.le_of_ble_eq_true rfl)⟩) hK hP [] rfl  rfl hl.1 rfl (Nat.le_of_ble_eq_true rfl) dL_law_975 ⟨(by omega : _ ≤ 600172), (by omega : _ ≤ 7300668)⟩ rfl ?_
    refine lv_iadd hx hb dL_law_978 ?_
    obtain ⟨k9, ek9, hk91, hk92⟩ : ∃ k9 : Nat, k9 = 1 + xBl (x >>> (6 &&& 31)) 120 ∧ 1 ≤ k9 ∧ k9 ≤ 200 := ⟨_, rfl, by omega, by have := xBl_lt (v := x >>> (6 &&& 31)) (N := 120) (by omega); omega⟩
    refine x_top (y := nI k9) (by rw [ek9]; exact nI_add 1 _) ?_
    have hsl1 := xStl_le n k9 f
    refine lv_istore (lv' := [(23, .int (nI k9)), (22, .int (xSr n f)), (21, .int (-1)), (20, .int (xMm n f)), (19, .int (xTot f n)), (0, .ref b), (1, .ref q0), (2, .ref s0), (3, .int (nI tm)), (4, .int x), (5, .long (xDg n kc f ks td)), (7, .int (nI n)), (8, .int (nI kc)), (12, .ref bq), (15, .int (nI p9))]) hx hb dL_law_979 hl (by decide) rfl (fun ls hl => ?_)
    refine lv_aload_n hx hb dL_law_981 rfl (lv_at hl 6 rfl) ?_
    refine lv_iload hx hb dL_law_982 (lv_at hl 0 rfl) ?_
    refine xVM (q0 := 0) (ci := 2) (As := [.int (nI k9)]) (rest := []) ⟨hx, hb, hml, hown, hts⟩ (c_X2_settle γ l q0 q1 q2 q3 q4 kc td a1 n f k9 (by omega) (by omega) (by omega) (by omega)) (cwV 1 hts gL_law_X2_settle rfl rfl rfl hdv_X2_settle ⟨(Nat.le_of_ble_eq_true rfl), (Nat.le_of_ble_eq_true rfl)⟩) hK hP hD hS hA [0, 1, 2] rfl rfl rfl rfl rfl hl.1 rfl (Nat.le_of_ble_eq_true rfl) dL_law_984 ⟨(by omega : _ ≤ 600172), (by omega : _ ≤ 7300668)⟩ (fun r9 w9 H locs hw hP hD hS => ?_)
    obtain ⟨rfl, rfl⟩ := hw
    have hP : xP γ (([xO q0 2 [.ref q1, .ref q4, .int (nI kc), .int (td + nI (xStl n k9 f).1), .ref q2, .ref q3], xO q1 0 [.ref a1, .int (nI n)], xA γ a1 12 ((xStl n k9 f).2), xO q2 0 [.ref a2, .int tn221x], xA γ a2 12 tf222x, xO q3 1 [.ref a3, .int wn], xA γ a3 12 wf, xQ γ q4 6 (fun t9 => some (kq t9))] ++ xKp γ kq ka kn ks) ++ ([xO s0 3 [.ref r, .ref tq, .int td], xA γ r n f, xT γ tq kc (fun t9 => some (ta t9)), xBo γ bq kc g] ++ xTs γ ta n ks kc)) H := hP
    have hD : va_D A (([xO q0 2 [.ref q1, .ref q4, .int (nI kc), .int (td + nI (xStl n k9 f).1), .ref q2, .ref q3], xO q1 0 [.ref a1, .int (nI n)], xA γ a1 12 ((xStl n k9 f).2), xO q2 0 [.ref a2, .int tn221x], xA γ a2 12 tf222x, xO q3 1 [.ref a3, .int wn], xA γ a3 12 wf, xQ γ q4 6 (fun t9 => some (kq t9))] ++ xKp γ kq ka kn ks) ++ ([xO s0 3 [.ref r, .ref tq, .int td], xA γ r n f, xT γ tq kc (fun t9 => some (ta t9)), xBo γ bq kc g] ++ xTs γ ta n ks kc)) := hD
    refine W.eq (g2 := F0 m 987 ls [.int (nI ((xStl n k9 f).1))]) rfl ?_
    have hno := xStl_no (k := k9) (f := f) (by omega) hq
    refine lv_istore (lv' := [(24, .int (nI ((xStl n k9 f).1))), (23, .int (nI k9)), (22, .int (xSr n f)), (21, .int (-1)), (20, .int (xMm n f)), (19, .int (xTot f n)), (0, .ref b), (1, .ref q0), (2, .ref s0), (3, .int (nI tm)), (4, .int x), (5, .long (xDg n kc f ks td)), (7, .int (nI n)), (8, .int (nI kc)), (12, .ref bq), (15, .int (nI p9))]) hx hb dL_law_987 hl (by decide) rfl (fun ls hl => ?_)
    refine lv_iload hx hb dL_law_989 (lv_at hl 0 rfl) ?_
    refine lv_aload_n hx hb dL_law_991 rfl (lv_at hl 8 rfl) ?_
    refine lv_iload hx hb dL_law_992 (lv_at hl 1 rfl) ?_
    refine xVC (q0 := 20) (ci := 3) (As := [.int (nI k9)]) (rest := [.int (nI ((xStl n k9 f).1))]) ⟨hx, hb, hml, hown, hts⟩ (c_X3_settle γ l s0 r tq td n f k9 (by omega) (by omega) (by omega)) (cwV 1 hts gL_law_X3_settle rfl rfl rfl hdv_X3_settle ⟨(Nat.le_of_ble_eq_true rfl), (Nat.le_of_ble_eq_true rfl)⟩) xAz_blind (fun U _ hW => xAz.warm hW hAr) hK hP hD hS hA [20, 21] rfl rfl rfl rfl rfl hl.1 rfl (Nat.le_of_ble_eq_true rfl) dL_law_994 ⟨(by omega : _ ≤ 600172), (by omega : _ ≤ 7300668)⟩ (fun r9 w9 v9 H locs hw hP hD hS => ?_)
    obtain ⟨b223x, rfl, rfl, rfl⟩ := hw
    have hP : xP γ (([xO q0 2 [.ref q1, .ref q4, .int (nI kc), .int (td + nI (xStl n k9 f).1), .ref q2, .ref q3], xO q1 0 [.ref a1, .int (nI n)], xA γ a1 12 ((xStl n k9 f).2), xO q2 0 [.ref a2, .int tn221x], xA γ a2 12 tf222x, xO q3 1 [.ref a3, .int wn], xA γ a3 12 wf, xQ γ q4 6 (fun t9 => some (kq t9))] ++ xKp γ kq ka kn ks) ++ ([xO s0 3 [.ref b223x, .ref tq, .int (td + nI (xStl n k9 f).1)], xA γ b223x n ((xStl n k9 f).2), xT γ tq kc (fun t9 => some (ta t9)), xBo γ bq kc g] ++ xTs γ ta n ks kc)) H := by simp only [List.append_nil] at hP; exact hP
    have hD : va_D A (([xO q0 2 [.ref q1, .ref q4, .int (nI kc), .int (td + nI (xStl n k9 f).1), .ref q2, .ref q3], xO q1 0 [.ref a1, .int (nI n)], xA γ a1 12 ((xStl n k9 f).2), xO q2 0 [.ref a2, .int tn221x], xA γ a2 12 tf222x, xO q3 1 [.ref a3, .int wn], xA γ a3 12 wf, xQ γ q4 6 (fun t9 => some (kq t9))] ++ xKp γ kq ka kn ks) ++ ([xO s0 3 [.ref b223x, .ref tq, .int (td + nI (xStl n k9 f).1)], xA γ b223x n ((xStl n k9 f).2), xT γ tq kc (fun t9 => some (ta t9)), xBo γ bq kc g] ++ xTs γ ta n ks kc)) := by simp only [List.append_nil] at hD; exact hD
    refine W.eq (g2 := F0 m 997 ls [.int (nI ((xStl n k9 f).1)), .int (nI ((xStl n k9 f).1))]) rfl ?_
    refine lv_icmp_ne (tgt := 1103) hx hb dL_law_997 (by decide) (fun c => absurd (rfl) c) (fun _ => ?_)
    refine lv_iload hx hb dL_law_1000 (lv_at hl 0 rfl) ?_
    refine lv_iload hx hb dL_law_1002 (lv_at hl 1 rfl) ?_
    refine lv_icmp_gt (tgt := 1103) hx hb dL_law_1004 (by decide) (fun c => absurd c (nI_nlt (a := k9) (b := (xStl n k9 f).1) (by omega) (by omega))) (fun _ => ?_)
    refine lv_iload hx hb dL_law_1007 (lv_at hl 3 rfl) ?_
    refine lv_if_lt (tgt := 1024) hx hb dL_law_1009 (by decide) (fun _ => ?_) (fun c => absurd (by decide) c)
    refine lv_iload hx hb dL_law_1024 (lv_at hl 0 rfl) ?_
    refine lv_iload hx hb dL_law_1026 (lv_at hl 1 rfl) ?_
    have J1036 : W p l e room_1 s m args below meth c H locs (cells + 200) (slots + 2400) Q (F0 m 1036 ls [.int (if (xStl n k9 f).1 < k9 then 1 else 0)]) := by
      skip
      refine lv_iload hx hb dL_law_1036 (lv_at hl 3 rfl) ?_
      refine lv_if_lt (tgt := 1052) hx hb dL_law_1038 (by decide) (fun _ => ?_) (fun c => absurd (by decide) c)
      refine lv_iconst (v := 0) hx hb dL_law_1052 (by decide) ?_
      refine lv_icmp_ne (tgt := 1103) hx hb dL_law_1053 (by decide) (fun c => absurd (if_neg (by omega)) c) (fun _ => ?_)
      refine lv_iload hx hb dL_law_1056 (lv_at hl 3 rfl) ?_
      refine lv_if_lt (tgt := 1082) hx hb dL_law_1058 (by decide) (fun _ => ?_) (fun c => absurd (by decide) c)
      refine lv_iload hx hb dL_law_1082 (lv_at hl 3 rfl) ?_
      refine lv_if_lt (tgt := 1105) hx hb dL_law_1084 (by decide) (fun _ => ?_) (fun c => absurd (by decide) c)
      exact K tn221x tf222x k9 b223x _ _ _ _ _ (hk92) (by omega) (by omega) hP hD hS (lv_sub hl [6, 7, 8, 9, 10, 11, 12, 13, 14, 15, 5, 4] rfl)
    refine lv_icmp_ge (tgt := 1035) hx hb dL_law_1028 (by decide) (fun c1028 => ?_) (fun c1028 => ?_)
    · refine lv_iconst (v := 0) hx hb dL_law_1035 (by decide) ?_
      exact x_top (y := if (xStl n k9 f).1 < k9 then 1 else 0) (xLt_0 (by omega) c1028) J1036
    · refine lv_iconst (v := 1) hx hb dL_law_1031 (by decide) ?_
      refine lv_goto (tgt := 1036) hx hb dL_law_1032 (by decide) ?_
      exact x_top (y := if (xStl n k9 f).1 < k9 then 1 else 0) (xLt_1 (by omega) c1028) J1036

theorem hds_L_build : yL_build.cls ≠ "java/lang/invoke/MethodHandle" ∧ yL_build.cls ≠ "java/lang/invoke/VarHandle" ∧ (parseMethodDescriptor yL_build.desc).map (fun d => d.parameters.length) = some 2 := by decide +kernel
theorem hdv_X3_isSame : yX3_isSame.cls = RX3 ∧ yX3_isSame.cls ≠ "java/lang/invoke/MethodHandle" ∧ yX3_isSame.cls ≠ "java/lang/invoke/VarHandle" ∧ (parseMethodDescriptor yX3_isSame.desc).map (fun d => d.parameters.length) = some 1 := by decide +kernel
set_option maxHeartbeats 4000000 in
set_option maxRecDepth 100000 in
theorem whole_start {p : Program} {e : Env} {s : State} {m : MethodId} {below : List Frame} {meth : Method} {c : Code} (l : Launch) (hflags : l.flags = flags0) {b L : Nat} {xs : Nat → Int32} (hL : L ≤ 260) (C0 : lw_At p s m meth c b L xs) : W p l e room_1 s m #[Value.ref b] below meth c s.heap [] 0 0 (lw_Z below #[Value.ref b] s) (entryFrame m ([Value.ref b] : List Value).toArray 27) := by
  obtain ⟨hx, hb, hr, hml, hown, hts0, hX, hbl, hlocks, hgv⟩ := id C0
  have hlt : l.stackTraces = false := xflags hflags
  have hts : ∀ w ∈ wsL_law, w.before #[Value.ref b] s = true := fun w h => hts0 w (wsL_law_in w h)
  have hflat := flat_of_before _ hgv
  have hown : s.vm.findClass RL = some m.cls := hown
  obtain ⟨A, eA⟩ : ∃ A : Nat → Prop, A = fun q : Nat => s.heap.size ≤ q := ⟨_, rfl⟩
  have hA : ∀ q : Nat, s.heap.size ≤ q → A q := fun q h => by rw [eA]; exact h
  have hAS : ∀ q : Nat, A q → s.heap.size ≤ q := fun q h => by rw [eA] at h; exact h
  have hbA : ¬ A b := fun h => absurd (hAS b h) (Nat.not_le.mpr hbl)
  have hnA : ∀ a : Nat, a < s.heap.size → ¬ A a := fun a h h2 => absurd (hAS a h2) (Nat.not_le.mpr h)
  obtain ⟨c0, iS0, hKn0⟩ := u_known (C := RX0) (T := TX0) (N := 2) (n := 2) hts0 inX0 (hts0 (.instantiable RX0 2) (by decide +kernel))
  obtain ⟨c1, iS1, hKn1⟩ := u_known (C := RX1) (T := TX1) (N := 2) (n := 2) hts0 inX1 (hts0 (.instantiable RX1 2) (by decide +kernel))
  obtain ⟨c2, iS2, hKn2⟩ := u_known (C := RX2) (T := TX2) (N := 6) (n := 6) hts0 inX2 (hts0 (.instantiable RX2 6) (by decide +kernel))
  obtain ⟨c3, iS3, hKn3⟩ := u_known (C := RX3) (T := TX3) (N := 3) (n := 3) hts0 inX3 (hts0 (.instantiable RX3 3) (by decide +kernel))
  obtain ⟨dC, dI, hKc⟩ : ∃ (dC : Nat → ClassId) (dI : Nat → Nat → Nat), ∀ (k : Nat) (q : vw_C), vwCl[k]? = some q → u_Kn s q.1 q.2.1 q.2.2 (dC k) (dI k) := by
    refine ⟨fun k => if k = 0 then c0 else if k = 1 then c1 else if k = 2 then c2 else c3, fun k => if k = 0 then iS0 else if k = 1 then iS1 else if k = 2 then iS2 else iS3, ?_⟩
    intro k q hq
    match k, hq with
    | 0, hq => cases hq; exact hKn0
    | 1, hq => cases hq; exact hKn1
    | 2, hq => cases hq; exact hKn2
    | 3, hq => cases hq; exact hKn3
    | k + 4, hq => simp [vwCl] at hq
  obtain ⟨cI, hcI⟩ := xarr_int (hts0 (.arrayClass .int) (by decide +kernel))
  obtain ⟨cR, hcR⟩ := xarr_obj (hts0 (.arrayOver (.object RX0)) (by decide +kernel))
  obtain ⟨cT, hcT⟩ := xarr_arr (hts0 (.arrayOver (.array .int)) (by decide +kernel))
  obtain ⟨cB, hcB⟩ := xarr_bool (hts0 (.arrayClass .boolean) (by decide +kernel))
  obtain ⟨γ, eγ⟩ : ∃ γ : xG, γ = ((dC, dI), cI, cR, cT, cB) := ⟨_, rfl⟩
  have hK : xK γ s := by
    rw [eγ]
    refine ⟨hKc, fun k q hq => ?_⟩
    match k, hq with
    | 0, hq => cases hq; exact hcI
    | 1, hq => cases hq; exact hcR
    | 2, hq => cases hq; exact hcT
    | 3, hq => cases hq; exact hcB
    | k + 4, hq => simp [xTy] at hq
  obtain ⟨t39, ht39⟩ := xstr (hflat (Cond.exactly (Term.string RX2 39) "java/lang/String") (by decide +kernel))
  obtain ⟨t82, ht82⟩ := xstr (hflat (Cond.exactly (Term.string RX2 82) "java/lang/String") (by decide +kernel))
  obtain ⟨t93, ht93⟩ := xstr (hflat (Cond.exactly (Term.string RX2 93) "java/lang/String") (by decide +kernel))
  obtain ⟨t223, ht223⟩ := xstr (hflat (Cond.exactly (Term.string RX2 223) "java/lang/String") (by decide +kernel))
  obtain ⟨t226, ht226⟩ := xstr (hflat (Cond.exactly (Term.string RX2 226) "java/lang/String") (by decide +kernel))
  obtain ⟨t228, ht228⟩ := xstr (hflat (Cond.exactly (Term.string RX2 228) "java/lang/String") (by decide +kernel))
  obtain ⟨t230, ht230⟩ := xstr (hflat (Cond.exactly (Term.string RX2 230) "java/lang/String") (by decide +kernel))
  obtain ⟨t232, ht232⟩ := xstr (hflat (Cond.exactly (Term.string RX2 232) "java/lang/String") (by decide +kernel))
  obtain ⟨sa, hsa⟩ : ∃ sa : Nat → Nat, sa = fun k => if k = 39 then t39 else if k = 82 then t82 else if k = 93 then t93 else if k = 223 then t223 else if k = 226 then t226 else if k = 228 then t228 else if k = 230 then t230 else if k = 232 then t232 else 0 := ⟨_, rfl⟩
  have hEs : xEs sa s := by
    rw [hsa]
    refine ⟨?_, ?_, ?_, ?_, ?_, ?_, ?_, ?_⟩
    · exact vk_R.of (hts0 (.stringRef RX2 39 "places is not 3 to 12") (by decide +kernel)) ht39
    · exact vk_R.of (hts0 (.stringRef RX2 82 "there are 6 targets") (by decide +kernel)) ht82
    · exact vk_R.of (hts0 (.stringRef RX2 93 "steps is not 1 to 200") (by decide +kernel)) ht93
    · exact vk_R.of (hts0 (.stringRef RX2 223 "there is no such place") (by decide +kernel)) ht223
    · exact vk_R.of (hts0 (.stringRef RX2 226 "number is not -999 to 999") (by decide +kernel)) ht226
    · exact vk_R.of (hts0 (.stringRef RX2 228 "times is not -50 to 50") (by decide +kernel)) ht228
    · exact vk_R.of (hts0 (.stringRef RX2 230 "the target cannot be reached") (by decide +kernel)) ht230
    · exact vk_R.of (hts0 (.stringRef RX2 232 "there is no such target") (by decide +kernel)) ht232
  have hEv : xEv s := ⟨va_Nw.of rfl (hts0 (.castable "java/lang/IndexOutOfBoundsException" "java/lang/IndexOutOfBoundsException") (by decide +kernel)), va_Nw.of rfl (hts0 (.castable "java/lang/IllegalArgumentException" "java/lang/IllegalArgumentException") (by decide +kernel)), va_Nw.of rfl (hts0 (.castable "java/lang/IllegalStateException" "java/lang/IllegalStateException") (by decide +kernel)), va_Nw.of rfl (hts0 (.declares ⟨"java/lang/RuntimeException", "<init>", "(Ljava/lang/String;)V"⟩) (by decide +kernel)), va_Nw.of rfl (hts0 (.declares ⟨"java/lang/Exception", "<init>", "(Ljava/lang/String;)V"⟩) (by decide +kernel)), va_Nw.of rfl (hts0 (.declares ⟨"java/lang/Throwable", "<init>", "(Ljava/lang/String;)V"⟩) (by decide +kernel))⟩
  have hAr : xAz s := ⟨va_Nw.of rfl (hts0 (.castable "[I" "java/lang/Cloneable") (by decide +kernel)), xAO.of (hts0 (.arrayOver (.array .int)) (by decide +kernel))⟩
  have hEh : xEh A s s.heap := ⟨vx_Zqof (hts0 (.laysStatic Bundle.tN "UNASSIGNED_STACK" Bundle.steD) (by decide +kernel)) (hts0 (.initialized Bundle.tN) (by decide +kernel)) (hflat (.isRef (.static Bundle.tN "UNASSIGNED_STACK" Bundle.steD)) (by decide +kernel)) hnA, vx_Zqof (hts0 (.laysStatic Bundle.tN "SUPPRESSED_SENTINEL" Bundle.listD) (by decide +kernel)) (hts0 (.initialized Bundle.tN) (by decide +kernel)) (hflat (.isRef (.static Bundle.tN "SUPPRESSED_SENTINEL" Bundle.listD)) (by decide +kernel)) hnA⟩
  have hS : va_S A s.heap s.heap [] := va_S.rf
  have hP : xP γ [] s.heap := fun k q h => by simp at h
  have hD : va_D A [] := ⟨fun i j p q h => by simp at h, fun k q h => by simp at h⟩
  have hl := lv_entry ([.ref b]) (n := 27) (Nat.le_of_ble_eq_true rfl)
  rw [lg_entry_eq]
  generalize (lg_sl ([.ref b]) ++ List.replicate (27 - (lg_sl ([.ref b])).length) Slot.unset).toArray = ls at hl ⊢
  have hl : lv_has ls 27 [(0, .ref b)] := hl
  refine va_new (ci := 2) (fs := [.null, .null, .int 0, .int 0, .null, .null]) (C := RX2) (T := TX2) (N := 6) hx hb hts0 inX2 tyX2 tyX2_ok hown (hts0 (.classLink RL 27 RX2) (by decide +kernel)) (hts0 (.instantiable RX2 6) (by decide +kernel)) (hts0 (.initialized RX2) (by decide +kernel)) hK hP hD hS hA rfl (by decide +kernel) (Nat.le_of_ble_eq_true rfl) (Nat.le_of_ble_eq_true rfl) dL_law_0 (fun q0 H hP hD hS => ?_)
  have hP : xP γ ([xO q0 2 [.null, .null, .int 0, .int 0, .null, .null]]) H := hP
  have hD : va_D A ([xO q0 2 [.null, .null, .int 0, .int 0, .null, .null]]) := hD
  refine lv_dup hx hb dL_law_3 rfl ?_
  have hEx : ∀ U : State, s.WarmedH U.vm → (va_AO RX0 U ∧ va_Nw (.methodLinkNest RX2 9 yX0_init RX2) U ∧ va_Nw (.methodLinkNest RX2 32 yX1_init RX2) U) := fun U hW => ⟨va_AO.moved hW.alike (hts0 (.arrayOver (.object RX0)) (by decide +kernel)), va_Nw.warmM hW (va_Nw.of rfl (hts0 (.methodLinkNest RX2 9 yX0_init RX2) (by decide +kernel))), va_Nw.warmM hW (va_Nw.of rfl (hts0 (.methodLinkNest RX2 32 yX1_init RX2) (by decide +kernel)))⟩
  refine xIL (wr := []) (rest := [.ref q0]) (isC := [0]) (isR := []) ⟨hx, hb, hml, hown, hts⟩ (c_X2_init γ l q0) (cwI 0 hts gL_law_X2_init rfl rfl rfl (hts0 (.initialized RX2) (by decide +kernel)) (hts0 (.methodLink RL 91 yX2_init) (by decide +kernel)) (hts0 (.instanceMethod yX2_init) (by decide +kernel)) rfl (by decide +kernel) ⟨(Nat.le_of_ble_eq_true rfl), (Nat.le_of_ble_eq_true rfl)⟩) (fun a U g mk h => ⟨va_AO.moved (u := U) (U := U.calling g mk a) (Vm.Alike.refl U.vm) h.1, va_Nw.same (u := U) (U := U.calling g mk a) rfl rfl h.2.1, va_Nw.same (u := U) (U := U.calling g mk a) rfl rfl h.2.2⟩) (fun U _ hW => hEx U hW) hK hP hD hS hA rfl (by decide) rfl (by decide) (by decide) hl.1 rfl (Nat.le_of_ble_eq_true rfl) dL_law_4 ⟨(Nat.le_of_ble_eq_true rfl), (Nat.le_of_ble_eq_true rfl)⟩ (fun w9 H locs hw hP hD hS => ?_)
  obtain ⟨q1, a1, q2, a2, q3, a3, q4, kq, ka, rfl⟩ := hw
  have hP : xP γ ([xO q0 2 [.ref q1, .ref q4, .int (nI 0), .int 0, .ref q2, .ref q3], xO q1 0 [.ref a1, .int (nI 6)], xA γ a1 12 (fun _ => 0), xO q2 0 [.ref a2, .int (nI 6)], xA γ a2 12 (fun _ => 0), xO q3 1 [.ref a3, .int 0], xA γ a3 12 (fun _ => 0), xQ γ q4 6 (fun t9 => some (kq t9))] ++ xKp γ kq ka (fun _ => nI 6) (fun _ _ => 0)) H := hP
  have hD : va_D A ([xO q0 2 [.ref q1, .ref q4, .int (nI 0), .int 0, .ref q2, .ref q3], xO q1 0 [.ref a1, .int (nI 6)], xA γ a1 12 (fun _ => 0), xO q2 0 [.ref a2, .int (nI 6)], xA γ a2 12 (fun _ => 0), xO q3 1 [.ref a3, .int 0], xA γ a3 12 (fun _ => 0), xQ γ q4 6 (fun t9 => some (kq t9))] ++ xKp γ kq ka (fun _ => nI 6) (fun _ _ => 0)) := hD
  refine W.eq (g2 := F0 m 7 ls [.ref q0]) rfl ?_
  refine lv_astore_n (lv' := [(1, .ref q0), (0, .ref b)]) hx hb dL_law_7 rfl hl (by decide) rfl (fun ls hl => ?_)
  refine lv_aload_n hx hb dL_law_8 rfl (lv_at hl 0 rfl) ?_
  refine lv_aload_n hx hb dL_law_9 rfl (lv_at hl 1 rfl) ?_
  refine xSG (As := [.ref q0, .ref b]) (rest := []) ⟨hx, hb, hml, hown, hts⟩ (c_L_build γ l hlt sa q0 q1 a1 q2 a2 q3 a3 q4 kq ka (nI 6) 0 (fun _ => 0) (fun _ => 0) (fun _ => nI 6) (fun _ _ => 0) b L xs hL) (va_cwS 2 hts gL_law_L_build rfl rfl rfl hds_L_build ⟨(Nat.le_of_ble_eq_true rfl), (Nat.le_of_ble_eq_true rfl)⟩) xBE_blind (fun U hU hW => ⟨xLE.at hW hU hEv hEs hEh hAr hD hS hA, va_Nw.warmM hW (va_Nw.of rfl (hts0 (.methodLinkNest RL 82 yX3_init RL) (by decide +kernel))), by rw [hU]; exact Nat.lt_of_lt_of_le hbl hS.1, by rw [hU]; exact (va_X.moved hW.alike hX).kept (hS.2.1 b hbl hbA), fun h => by
    rw [hU] at h
    rcases h with ⟨k, e9, h⟩ | h
    · exact hbA (hD.2 k (b, e9) h)
    · exact absurd h (Nat.not_le.mpr (Nat.lt_of_lt_of_le hbl hS.1))⟩) hK hP hD hS hA rfl hl.1 rfl (Nat.le_of_ble_eq_true rfl) dL_law_10 ⟨(Nat.le_of_ble_eq_true rfl), (Nat.le_of_ble_eq_true rfl)⟩ (fun r9 w9 H locs hw hP hD hS => ?_)
  obtain ⟨s0, rfl, n, kc, td, tn, wn, f, tf, wf, ks, kn, r, tq, ta, hI, hkn, rfl⟩ := hw
  have hP : xP γ (([xO q0 2 [.ref q1, .ref q4, .int (nI kc), .int td, .ref q2, .ref q3], xO q1 0 [.ref a1, .int (nI n)], xA γ a1 12 f, xO q2 0 [.ref a2, .int tn], xA γ a2 12 tf, xO q3 1 [.ref a3, .int wn], xA γ a3 12 wf, xQ γ q4 6 (fun t9 => some (kq t9))] ++ xKp γ kq ka kn ks) ++ ([xO s0 3 [.ref r, .ref tq, .int td], xA γ r n f, xT γ tq kc (fun t9 => some (ta t9))] ++ xTs γ ta n ks kc)) H := hP
  have hD : va_D A (([xO q0 2 [.ref q1, .ref q4, .int (nI kc), .int td, .ref q2, .ref q3], xO q1 0 [.ref a1, .int (nI n)], xA γ a1 12 f, xO q2 0 [.ref a2, .int tn], xA γ a2 12 tf, xO q3 1 [.ref a3, .int wn], xA γ a3 12 wf, xQ γ q4 6 (fun t9 => some (kq t9))] ++ xKp γ kq ka kn ks) ++ ([xO s0 3 [.ref r, .ref tq, .int td], xA γ r n f, xT γ tq kc (fun t9 => some (ta t9))] ++ xTs γ ta n ks kc)) := hD
  refine W.eq (g2 := F0 m 13 ls [.ref s0]) rfl ?_
  refine lv_astore_n (lv' := [(2, .ref s0), (1, .ref q0), (0, .ref b)]) hx hb dL_law_13 rfl hl (by decide) rfl (fun ls hl => ?_)
  refine lv_aload_n hx hb dL_law_14 rfl (lv_at hl 0 rfl) ?_
  refine lv_ifnonnull (tgt := 20) hx hb dL_law_15 (by decide) ?_
  refine lv_iconst (v := 0) hx hb dL_law_20 (by decide) ?_
  refine lv_istore_n (lv' := [(3, .int 0), (2, .ref s0), (1, .ref q0), (0, .ref b)]) hx hb dL_law_21 rfl hl (by decide) rfl (fun ls hl => ?_)
  refine xloop hlt hx hb hml hts hown hK sa hEv hEs hEh hAr hA q0 q1 a1 q2 a2 q3 a3 q4 s0 kq ka hX hbl hbA hL ?_ 7 0 n kc td tn wn f tf wf ks kn r tq ta H _ _ _ ls rfl hI hkn (by decide) (by decide) hP hD hS (lv_sub hl [3, 2, 1, 0] rfl)
  clear hI hkn hP hD hS hl
  intro n kc td tn wn f tf wf ks kn r tq ta H locs ce sl ls hI hkn hc hs hP hD hS hl
  have hn0 := hI.1
  have hn1 := hI.2.1
  have hkc := hI.2.2.1
  refine lv_aload_n hx hb dL_law_1225 rfl (lv_at hl 2 rfl) ?_
  refine lv_aload_n hx hb dL_law_1226 rfl (lv_at hl 1 rfl) ?_
  have hP : xP γ (DWt γ q0 q1 a1 q2 a2 q3 a3 q4 s0 kq ka n kc td tn wn f tf wf ks kn r tq ta) H := hP
  have hD : va_D A (DWt γ q0 q1 a1 q2 a2 q3 a3 q4 s0 kq ka n kc td tn wn f tf wf ks kn r tq ta) := hD
  refine xVGD (d0 := s.drawn) (q0 := 20) (ci := 3) (As := [.ref q0]) (rest := []) (Drawn.sameBut.refl s.drawn lw_cs) ⟨hx, hb, hml, hown, hts⟩ (c_X3_isSame γ l q0 q1 a1 q2 a2 q3 a3 q4 s0 kq ka n kc td tn wn f tf wf ks kn r tq ta hn0 hn1 hkc hkn) (cwV 1 hts gL_law_X3_isSame rfl rfl rfl hdv_X3_isSame ⟨(Nat.le_of_ble_eq_true rfl), (Nat.le_of_ble_eq_true rfl)⟩) hK hP hD hS hA rfl rfl rfl hl.1 rfl (Nat.le_of_ble_eq_true rfl) dL_law_1227 ⟨(by omega : _ ≤ 600172), (by omega : _ ≤ 7300668)⟩ (fun r9 w9 H locs hw hP hD hS d1 hd1 => ?_)
  subst hw
  refine W.eq (g2 := F0 m 1230 ls [.int 1]) rfl ?_
  refine va_forget (fun q hq => hAS _ (hS.2.2 q hq)) ?_
  refine W.widen (k := 600172) (n := 7300668) (by omega) (by omega) ?_
  exact lw_ret hd1 hx hb hr hlocks dL_law_1230

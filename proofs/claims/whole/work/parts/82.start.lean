set_option maxHeartbeats 4000000 in
set_option maxRecDepth 100000 in
theorem whole_start {p : Program} {e : Env} {s : State} {m : MethodId} {below : List Frame} {meth : Method} {c : Code} (l : Launch) (hflags : l.flags = flags0) {b L : Nat} {xs : Nat → Int32} (hL : L ≤ 1536) (C0 : lw_At p s m meth c b L xs) : W p l e room_1 s m #[Value.ref b] below meth c s.heap [] 0 0 (lw_Z below #[Value.ref b] s) (entryFrame m ([Value.ref b] : List Value).toArray 9) := by
  obtain ⟨hx, hb, hr, hml, hown, hts0, hX, hbl, hlocks, hgv⟩ := id C0
  have hlt : l.stackTraces = false := xflags hflags
  have hts : ∀ w ∈ wsL_law, w.before #[Value.ref b] s = true := fun w h => hts0 w (wsL_law_in w h)
  have hflat := flat_of_before _ hgv
  have hown : s.vm.findClass RL = some m.cls := hown
  obtain ⟨A, eA⟩ : ∃ A : Nat → Prop, A = fun q : Nat => s.heap.size ≤ q := ⟨_, rfl⟩
  have hA : ∀ q : Nat, s.heap.size ≤ q → A q := fun q h => by rw [eA]; exact h
  have hAS : ∀ q : Nat, A q → s.heap.size ≤ q := fun q h => by rw [eA] at h; exact h
  have hbA : ¬ A b := fun h => absurd (hAS b h) (Nat.not_le.mpr hbl)
  have hnA : ∀ a : Nat, a < s.heap.size → ¬ A a := fun a h h2 => absurd (hAS a h2) (Nat.not_le.mpr h)
  obtain ⟨c0, iS0, hKn0⟩ := u_known (C := RX0) (T := TX0) (N := 2) (n := 2) hts0 inX0 (hts0 (.instantiable RX0 2) (by decide +kernel))
  obtain ⟨c1, iS1, hKn1⟩ := u_known (C := RX1) (T := TX1) (N := 2) (n := 2) hts0 inX1 (hts0 (.instantiable RX1 2) (by decide +kernel))
  obtain ⟨c2, iS2, hKn2⟩ := u_known (C := RX2) (T := TX2) (N := 6) (n := 6) hts0 inX2 (hts0 (.instantiable RX2 6) (by decide +kernel))
  obtain ⟨c3, iS3, hKn3⟩ := u_known (C := RX3) (T := TX3) (N := 8) (n := 8) hts0 inX3 (hts0 (.instantiable RX3 8) (by decide +kernel))
  obtain ⟨dC, dI, hKc⟩ : ∃ (dC : Nat → ClassId) (dI : Nat → Nat → Nat), ∀ (k : Nat) (q : vw_C), vwCl[k]? = some q → u_Kn s q.1 q.2.1 q.2.2 (dC k) (dI k) := by
    refine ⟨fun k => if k = 0 then c0 else if k = 1 then c1 else if k = 2 then c2 else c3, fun k => if k = 0 then iS0 else if k = 1 then iS1 else if k = 2 then iS2 else iS3, ?_⟩
    intro k q hq
    match k, hq with
    | 0, hq => cases hq; exact hKn0
    | 1, hq => cases hq; exact hKn1
    | 2, hq => cases hq; exact hKn2
    | 3, hq => cases hq; exact hKn3
    | k + 4, hq => simp [vwCl] at hq
  obtain ⟨cI, hcI⟩ := xarr_int (hts0 (.arrayClass .int) (by decide +kernel))
  obtain ⟨cL, hcL⟩ := xarr_long (hts0 (.arrayClass .long) (by decide +kernel))
  obtain ⟨cR, hcR⟩ := xarr_obj (hts0 (.arrayOver (.object RX0)) (by decide +kernel))
  obtain ⟨γ, eγ⟩ : ∃ γ : xG, γ = ((dC, dI), cI, cR, cL) := ⟨_, rfl⟩
  have hK : xK γ s := by
    rw [eγ]
    refine ⟨hKc, fun k q hq => ?_⟩
    match k, hq with
    | 0, hq => cases hq; exact hcI
    | 1, hq => cases hq; exact hcR
    | 2, hq => cases hq; exact hcL
    | k + 3, hq => simp [xTy] at hq
  obtain ⟨t39, ht39⟩ := xstr (hflat (Cond.exactly (Term.string RX2 39) "java/lang/String") (by decide +kernel))
  obtain ⟨t82, ht82⟩ := xstr (hflat (Cond.exactly (Term.string RX2 82) "java/lang/String") (by decide +kernel))
  obtain ⟨t93, ht93⟩ := xstr (hflat (Cond.exactly (Term.string RX2 93) "java/lang/String") (by decide +kernel))
  obtain ⟨t223, ht223⟩ := xstr (hflat (Cond.exactly (Term.string RX2 223) "java/lang/String") (by decide +kernel))
  obtain ⟨t226, ht226⟩ := xstr (hflat (Cond.exactly (Term.string RX2 226) "java/lang/String") (by decide +kernel))
  obtain ⟨t228, ht228⟩ := xstr (hflat (Cond.exactly (Term.string RX2 228) "java/lang/String") (by decide +kernel))
  obtain ⟨t230, ht230⟩ := xstr (hflat (Cond.exactly (Term.string RX2 230) "java/lang/String") (by decide +kernel))
  obtain ⟨t232, ht232⟩ := xstr (hflat (Cond.exactly (Term.string RX2 232) "java/lang/String") (by decide +kernel))
  obtain ⟨sa, hsa⟩ : ∃ sa : Nat → Nat, sa = fun k => if k = 39 then t39 else if k = 82 then t82 else if k = 93 then t93 else if k = 223 then t223 else if k = 226 then t226 else if k = 228 then t228 else if k = 230 then t230 else if k = 232 then t232 else 0 := ⟨_, rfl⟩
  have hEs : xEs sa s := by
    rw [hsa]
    refine ⟨?_, ?_, ?_, ?_, ?_, ?_, ?_, ?_⟩
    · exact vk_R.of (hts0 (.stringRef RX2 39 "places is not 3 to 12") (by decide +kernel)) ht39
    · exact vk_R.of (hts0 (.stringRef RX2 82 "there are 6 targets") (by decide +kernel)) ht82
    · exact vk_R.of (hts0 (.stringRef RX2 93 "steps is not 1 to 200") (by decide +kernel)) ht93
    · exact vk_R.of (hts0 (.stringRef RX2 223 "there is no such place") (by decide +kernel)) ht223
    · exact vk_R.of (hts0 (.stringRef RX2 226 "number is not -999 to 999") (by decide +kernel)) ht226
    · exact vk_R.of (hts0 (.stringRef RX2 228 "times is not -50 to 50") (by decide +kernel)) ht228
    · exact vk_R.of (hts0 (.stringRef RX2 230 "the target cannot be reached") (by decide +kernel)) ht230
    · exact vk_R.of (hts0 (.stringRef RX2 232 "there is no such target") (by decide +kernel)) ht232
  have hEv : xEv s := ⟨va_Nw.of rfl (hts0 (.castable "java/lang/IndexOutOfBoundsException" "java/lang/IndexOutOfBoundsException") (by decide +kernel)), va_Nw.of rfl (hts0 (.castable "java/lang/IllegalArgumentException" "java/lang/IllegalArgumentException") (by decide +kernel)), va_Nw.of rfl (hts0 (.castable "java/lang/IllegalStateException" "java/lang/IllegalStateException") (by decide +kernel)), va_Nw.of rfl (hts0 (.declares ⟨"java/lang/RuntimeException", "<init>", "(Ljava/lang/String;)V"⟩) (by decide +kernel)), va_Nw.of rfl (hts0 (.declares ⟨"java/lang/Exception", "<init>", "(Ljava/lang/String;)V"⟩) (by decide +kernel)), va_Nw.of rfl (hts0 (.declares ⟨"java/lang/Throwable", "<init>", "(Ljava/lang/String;)V"⟩) (by decide +kernel))⟩
  have hEn : xEn s := ⟨va_Nc.of (hflat (.not (.castable "java/lang/IllegalArgumentException" "java/lang/IndexOutOfBoundsException")) (by decide +kernel)), va_Nc.of (hflat (.not (.castable "java/lang/IllegalStateException" "java/lang/IndexOutOfBoundsException")) (by decide +kernel))⟩
  have hEh : xEh A s s.heap := ⟨vx_Zqof (hts0 (.laysStatic Bundle.tN "UNASSIGNED_STACK" Bundle.steD) (by decide +kernel)) (hts0 (.initialized Bundle.tN) (by decide +kernel)) (hflat (.isRef (.static Bundle.tN "UNASSIGNED_STACK" Bundle.steD)) (by decide +kernel)) hnA, vx_Zqof (hts0 (.laysStatic Bundle.tN "SUPPRESSED_SENTINEL" Bundle.listD) (by decide +kernel)) (hts0 (.initialized Bundle.tN) (by decide +kernel)) (hflat (.isRef (.static Bundle.tN "SUPPRESSED_SENTINEL" Bundle.listD)) (by decide +kernel)) hnA⟩
  have hS : va_S A s.heap s.heap [] := va_S.rf
  have hP : xP γ [] s.heap := fun k q h => by simp at h
  have hD : va_D A [] := ⟨fun i j p q h => by simp at h, fun k q h => by simp at h⟩
  have hl := lv_entry ([.ref b]) (n := 9) (Nat.le_of_ble_eq_true rfl)
  rw [lg_entry_eq]
  generalize (lg_sl ([.ref b]) ++ List.replicate (9 - (lg_sl ([.ref b])).length) Slot.unset).toArray = ls at hl ⊢
  have hl : lv_has ls 9 [(0, .ref b)] := hl
  refine va_new (ci := 2) (fs := [.null, .null, .int 0, .int 0, .null, .null]) (C := RX2) (T := TX2) (N := 6) hx hb hts0 inX2 tyX2 tyX2_ok hown (hts0 (.classLink RL 8 RX2) (by decide +kernel)) (hts0 (.instantiable RX2 6) (by decide +kernel)) (hts0 (.initialized RX2) (by decide +kernel)) hK hP hD hS hA rfl (by decide +kernel) (Nat.le_of_ble_eq_true rfl) (Nat.le_of_ble_eq_true rfl) dL_law_0 (fun q0 H hP hD hS => ?_)
  have hP : xP γ ([xO q0 2 [.null, .null, .int 0, .int 0, .null, .null]]) H := hP
  have hD : va_D A ([xO q0 2 [.null, .null, .int 0, .int 0, .null, .null]]) := hD
  refine lv_dup hx hb dL_law_3 rfl ?_
  have hEx : ∀ U : State, s.WarmedH U.vm → (va_AO RX0 U ∧ va_Nw (.methodLinkNest RX2 9 yX0_init RX2) U ∧ va_Nw (.methodLinkNest RX2 32 yX1_init RX2) U) := fun U hW => ⟨va_AO.moved hW.alike (hts0 (.arrayOver (.object RX0)) (by decide +kernel)), va_Nw.warmM hW (va_Nw.of rfl (hts0 (.methodLinkNest RX2 9 yX0_init RX2) (by decide +kernel))), va_Nw.warmM hW (va_Nw.of rfl (hts0 (.methodLinkNest RX2 32 yX1_init RX2) (by decide +kernel)))⟩
  refine xIL (wr := []) (rest := [.ref q0]) (isC := [0]) (isR := []) ⟨hx, hb, hml, hown, hts⟩ (c_X2_init γ l q0) (cwI 0 hts gL_law_X2_init rfl rfl rfl (hts0 (.initialized RX2) (by decide +kernel)) (hts0 (.methodLink RL 67 yX2_init) (by decide +kernel)) (hts0 (.instanceMethod yX2_init) (by decide +kernel)) rfl (by decide +kernel) ⟨(Nat.le_of_ble_eq_true rfl), (Nat.le_of_ble_eq_true rfl)⟩) (fun a U g mk h => ⟨va_AO.moved (u := U) (U := U.calling g mk a) (Vm.Alike.refl U.vm) h.1, va_Nw.same (u := U) (U := U.calling g mk a) rfl rfl h.2.1, va_Nw.same (u := U) (U := U.calling g mk a) rfl rfl h.2.2⟩) (fun U _ hW => hEx U hW) hK hP hD hS hA rfl (by decide) rfl (by decide) (by decide) hl.1 rfl (Nat.le_of_ble_eq_true rfl) dL_law_4 ⟨(Nat.le_of_ble_eq_true rfl), (Nat.le_of_ble_eq_true rfl)⟩ (fun w9 H locs hw hP hD hS => ?_)
  obtain ⟨q1, a1, q2, a2, q3, a3, q4, kq, ka, rfl⟩ := hw
  have hP : xP γ ([xO q0 2 [.ref q1, .ref q4, .int (nI 0), .int 0, .ref q2, .ref q3], xO q1 0 [.ref a1, .int (nI 6)], xA γ a1 12 (fun _ => 0), xO q2 0 [.ref a2, .int (nI 6)], xA γ a2 12 (fun _ => 0), xO q3 1 [.ref a3, .int 0], xA γ a3 12 (fun _ => 0), xQ γ q4 6 (fun t9 => some (kq t9))] ++ xKp γ kq ka (fun _ => nI 6) (fun _ _ => 0)) H := hP
  have hD : va_D A ([xO q0 2 [.ref q1, .ref q4, .int (nI 0), .int 0, .ref q2, .ref q3], xO q1 0 [.ref a1, .int (nI 6)], xA γ a1 12 (fun _ => 0), xO q2 0 [.ref a2, .int (nI 6)], xA γ a2 12 (fun _ => 0), xO q3 1 [.ref a3, .int 0], xA γ a3 12 (fun _ => 0), xQ γ q4 6 (fun t9 => some (kq t9))] ++ xKp γ kq ka (fun _ => nI 6) (fun _ _ => 0)) := hD
  refine W.eq (g2 := F0 m 7 ls [.ref q0]) rfl ?_
  refine lv_astore_n (lv' := [(1, .ref q0), (0, .ref b)]) hx hb dL_law_7 rfl hl (by decide) rfl (fun ls hl => ?_)
  refine va_new (ci := 3) (fs := [.int 0, .int 0, .int 0, .int 0, .null, .null, .null, .null]) (C := RX3) (T := TX3) (N := 8) hx hb hts0 inX3 tyX3 tyX3_ok hown (hts0 (.classLink RL 68 RX3) (by decide +kernel)) (hts0 (.instantiable RX3 8) (by decide +kernel)) (hts0 (.initialized RX3) (by decide +kernel)) hK hP hD hS hA rfl (by decide +kernel) (Nat.le_of_ble_eq_true rfl) (Nat.le_of_ble_eq_true rfl) dL_law_8 (fun m0 H hP hD hS => ?_)
  have hP : xP γ (([xO q0 2 [.ref q1, .ref q4, .int (nI 0), .int 0, .ref q2, .ref q3], xO q1 0 [.ref a1, .int (nI 6)], xA γ a1 12 (fun _ => 0), xO q2 0 [.ref a2, .int (nI 6)], xA γ a2 12 (fun _ => 0), xO q3 1 [.ref a3, .int 0], xA γ a3 12 (fun _ => 0), xQ γ q4 6 (fun t9 => some (kq t9))] ++ xKp γ kq ka (fun _ => nI 6) (fun _ _ => 0)) ++ [xO m0 3 [.int 0, .int 0, .int 0, .int 0, .null, .null, .null, .null]]) H := hP
  have hD : va_D A (([xO q0 2 [.ref q1, .ref q4, .int (nI 0), .int 0, .ref q2, .ref q3], xO q1 0 [.ref a1, .int (nI 6)], xA γ a1 12 (fun _ => 0), xO q2 0 [.ref a2, .int (nI 6)], xA γ a2 12 (fun _ => 0), xO q3 1 [.ref a3, .int 0], xA γ a3 12 (fun _ => 0), xQ γ q4 6 (fun t9 => some (kq t9))] ++ xKp γ kq ka (fun _ => nI 6) (fun _ _ => 0)) ++ [xO m0 3 [.int 0, .int 0, .int 0, .int 0, .null, .null, .null, .null]]) := hD
  refine lv_dup hx hb dL_law_11 rfl ?_
  refine xIL (wr := ([xO q0 2 [.ref q1, .ref q4, .int (nI 0), .int 0, .ref q2, .ref q3], xO q1 0 [.ref a1, .int (nI 6)], xA γ a1 12 (fun _ => 0), xO q2 0 [.ref a2, .int (nI 6)], xA γ a2 12 (fun _ => 0), xO q3 1 [.ref a3, .int 0], xA γ a3 12 (fun _ => 0), xQ γ q4 6 (fun t9 => some (kq t9))] ++ xKp γ kq ka (fun _ => nI 6) (fun _ _ => 0))) (rest := [.ref m0]) (isC := [20]) (isR := [0, 1, 2, 3, 4, 5, 6, 7, 8, 9, 10, 11, 12, 13, 14, 15, 16, 17, 18, 19]) ⟨hx, hb, hml, hown, hts⟩ (c_X3_init γ l m0) (cwI 0 hts gL_law_X3_init rfl rfl rfl (hts0 (.initialized RX3) (by decide +kernel)) (hts0 (.methodLink RL 70 yX3_init) (by decide +kernel)) (hts0 (.instanceMethod yX3_init) (by decide +kernel)) rfl (by decide +kernel) ⟨(Nat.le_of_ble_eq_true rfl), (Nat.le_of_ble_eq_true rfl)⟩) (fun _ _ _ _ h => h) (fun _ _ _ => trivial) hK hP hD hS hA rfl (by decide) rfl (by decide) (by decide) hl.1 rfl (Nat.le_of_ble_eq_true rfl) dL_law_12 ⟨(Nat.le_of_ble_eq_true rfl), (Nat.le_of_ble_eq_true rfl)⟩ (fun w9 H locs hw hP hD hS => ?_)
  obtain ⟨m1, m2, m3, m4, rfl⟩ := hw
  have hP : xP γ (([xO q0 2 [.ref q1, .ref q4, .int (nI 0), .int 0, .ref q2, .ref q3], xO q1 0 [.ref a1, .int (nI 6)], xA γ a1 12 (fun _ => 0), xO q2 0 [.ref a2, .int (nI 6)], xA γ a2 12 (fun _ => 0), xO q3 1 [.ref a3, .int 0], xA γ a3 12 (fun _ => 0), xQ γ q4 6 (fun t9 => some (kq t9))] ++ xKp γ kq ka (fun _ => nI 6) (fun _ _ => 0)) ++ [xO m0 3 [.int 0, .int 6, .int 0, .int 0, .ref m1, .ref m2, .ref m3, .ref m4], xA γ m1 12 (fun _ => 0), xA γ m2 12 (fun _ => 0), xA γ m3 72 (fun _ => 0), xA γ m4 14 (fun _ => 0)]) H := hP
  have hD : va_D A (([xO q0 2 [.ref q1, .ref q4, .int (nI 0), .int 0, .ref q2, .ref q3], xO q1 0 [.ref a1, .int (nI 6)], xA γ a1 12 (fun _ => 0), xO q2 0 [.ref a2, .int (nI 6)], xA γ a2 12 (fun _ => 0), xO q3 1 [.ref a3, .int 0], xA γ a3 12 (fun _ => 0), xQ γ q4 6 (fun t9 => some (kq t9))] ++ xKp γ kq ka (fun _ => nI 6) (fun _ _ => 0)) ++ [xO m0 3 [.int 0, .int 6, .int 0, .int 0, .ref m1, .ref m2, .ref m3, .ref m4], xA γ m1 12 (fun _ => 0), xA γ m2 12 (fun _ => 0), xA γ m3 72 (fun _ => 0), xA γ m4 14 (fun _ => 0)]) := hD
  refine W.eq (g2 := F0 m 15 ls [.ref m0]) rfl ?_
  refine lv_astore_n (lv' := [(2, .ref m0), (1, .ref q0), (0, .ref b)]) hx hb dL_law_15 rfl hl (by decide) rfl (fun ls hl => ?_)
  refine lv_iconst (v := 1) hx hb dL_law_16 (by decide) ?_
  refine x_newL hx hb (hts0 (.arrayClass .long) (by decide +kernel)) hK hP hD hS hA 1 (by decide) (by decide) (by decide) (Nat.le_of_ble_eq_true rfl) (Nat.le_of_ble_eq_true rfl) dL_law_17 (fun o H hP hD hS => ?_)
  refine lv_astore_n (lv' := [(3, .ref o), (2, .ref m0), (1, .ref q0), (0, .ref b)]) hx hb dL_law_19 rfl hl (by decide) rfl (fun ls hl => ?_)
  refine lv_iconst (v := 0) hx hb dL_law_20 (by decide) ?_
  refine lv_istore (lv' := [(4, .int 0), (3, .ref o), (2, .ref m0), (1, .ref q0), (0, .ref b)]) hx hb dL_law_21 hl (by decide) rfl (fun ls hl => ?_)
  have hP := hP.sub (ws' := LW γ q0 q1 a1 q2 a2 q3 a3 q4 o m0 m1 m2 m3 m4 kq ka 6 0 0 0 (nI 6) 0 (fun _ => 0) (fun _ => 0) (fun _ => 0) (fun _ => 0) (fun _ => 0) (fun _ => 0) (fun _ => 0) (fun _ => nI 6)) [0, 1, 2, 3, 4, 5, 6, 7, 25, 20, 21, 22, 23, 24, 8, 9, 10, 11, 12, 13, 14, 15, 16, 17, 18, 19] rfl
  have hD := hD.sub (ws' := LW γ q0 q1 a1 q2 a2 q3 a3 q4 o m0 m1 m2 m3 m4 kq ka 6 0 0 0 (nI 6) 0 (fun _ => 0) (fun _ => 0) (fun _ => 0) (fun _ => 0) (fun _ => 0) (fun _ => 0) (fun _ => 0) (fun _ => nI 6)) [0, 1, 2, 3, 4, 5, 6, 7, 25, 20, 21, 22, 23, 24, 8, 9, 10, 11, 12, 13, 14, 15, 16, 17, 18, 19] (by decide) rfl
  exact xloop l hlt hL C0 hK sa hEv hEs hEn hA hAS hbA hEh q0 q1 a1 q2 a2 q3 a3 q4 o m0 m1 m2 m3 m4 kq ka 512 0 0 rfl rfl 6 0 0 0 (nI 6) 0 (fun _ => 0) (fun _ => 0) (fun _ => 0) (fun _ => 0) (fun _ => 0) (fun _ => 0) (fun _ => 0) (fun _ => nI 6) H _ s.drawn _ _ ls (Drawn.sameBut.refl s.drawn lw_cs) ⟨by decide, by decide, by decide, by decide, xOkR_0 (by decide), fun t ht => absurd ht (Nat.not_lt_zero t)⟩ (fun t ht => absurd ht (Nat.not_lt_zero t)) hP hD hS (by decide) (by decide) (lv_sub hl [4, 3, 2, 1, 0] rfl)

/-! the law's loop (rows laid by wip/whole/spec_start.py) -/
section XIL
variable {p : Program} {l : Launch} {e : Env} {R : Room} {s : State} {m : MethodId} {args : Array Value} {below : List Frame} {meth : Method} {c : Code} {H : Heap} {locs : List Loc} {cells slots : Nat} {Q : State → Prop}
variable {cc : ByteArray} {pc : Nat} {ls : Array Slot} {γ : xG} {A : Nat → Prop} {W0 wc wr : va_W} {Pw : va_W → Prop} {mc ms : Nat} {st0 rest As : List Value} {a : Array Value} {Ex : State → Prop}
theorem xIL {H0 : Heap} {y : MethodName} {bytes : ByteArray} {maxL nL index : Nat} {ws Ts : List Cond} {rm : Room} {own : String} {b : Addr} {isC isR : List Nat}
    (S : CallFix p m c cc nL s args Ts own) (hM : xN γ l y ws rm [.ref b] Ex wc Pw mc ms) (cw : CallB R s args own index y bytes maxL none ws rm mc ms 0 ∧ y.name = "<init>" ∧ (Cond.instanceMethod y).before args s = true) (hEb : ∀ (a : Array Value) (U : State) (g : JFrame) (mk : MethodId), Ex U → Ex (U.calling g mk a)) (hEx : ∀ U : State, U.heap = H → s.WarmedH U.vm → Ex U) (hK : xK γ s) (hP : xP γ W0 H) (hD : va_D A W0) (hS : va_S A H0 H locs) (hA : ∀ q : Nat, H0.size ≤ q → A q)
    (hC : isC.map (fun i => W0[i]?) = wc.map some) (hnc : va_nd isC = true) (hR : isR.map (fun i => W0[i]?) = wr.map some) (hn : va_nd isR = true) (hdis : ∀ i ∈ isR, i ∉ isC) (hl : ls.size = nL) (hst : st0 = .ref b :: rest) (hW : (rest.map fun v => v.category).sum ≤ 8) (hdg : decode cc pc = .ok (.invokespecial index, 3)) (hcs : cells + mc ≤ R.cells ∧ slots + ms ≤ R.slots)
    (kk : ∀ (w1 : va_W) (H1 : Heap) (locs1 : List Loc), Pw w1 → xP γ (wr ++ w1) H1 → va_D A (wr ++ w1) → va_S A H0 H1 locs1 → W p l e R s m args below meth c H1 locs1 (cells + mc) (slots + ms) Q (F0 m (pc + 3) ls rest)) : W p l e R s m args below meth c H locs cells slots Q (F0 m pc ls st0) := by
  subst hst
  have hPc : xP γ wc H := fun k q hq => by
    have h1 : (isC.map (fun i => W0[i]?))[k]? = some (some q) := by rw [hC, List.getElem?_map, hq]; rfl
    rw [List.getElem?_map] at h1
    cases hi : isC[k]? with
    | none => rw [hi] at h1; cases h1
    | some i => rw [hi] at h1; exact hP i q (Option.some.inj h1)
  refine xcN (va_runI (As := []) (rest := rest) S (hM H.size) cw ⟨?_, ?_⟩ rfl rfl hl rfl (lv_room hW) hdg hcs) hP hD hS hA hC hR hn hdis kk
  · exact fun a U g mk q => ⟨q.1, q.2.1, q.2.2.1, va_K.moved (u := U) (U := U.calling g mk a) (Vm.Alike.refl U.vm) q.2.2.2.1, q.2.2.2.2.1, hEb a U g mk q.2.2.2.2.2⟩
  · exact fun U hU hW => ⟨rfl, by rw [hU], by rw [hU]; exact hPc, va_K.moved hW.alike hK, (hD.sub isC hnc hC).weaken (fun _ _ _ _ => trivial), hEx U hU hW⟩
end XIL
set_option maxHeartbeats 4000000 in
set_option maxRecDepth 100000 in
theorem xloop {p : Program} {e : Env} {s : State} {m : MethodId} {below : List Frame} {meth : Method} {c : Code} (l : Launch) (hlt : l.stackTraces = false) {b L : Nat} {xs : Nat → Int32} (hL : L ≤ 1536) (C0 : lw_At p s m meth c b L xs) {γ : xG} (hK : xK γ s) (sa : Nat → Nat) (hEv : xEv s) (hEs : xEs sa s) (hEn : xEn s) {A : Nat → Prop} (hA : ∀ q : Nat, s.heap.size ≤ q → A q) (hAS : ∀ q : Nat, A q → s.heap.size ≤ q) (hbA : ¬ A b) (hEh : xEh A s s.heap) (q0 q1 a1 q2 a2 q3 a3 q4 o m0 m1 m2 m3 m4 : Nat) (kq ka : Nat → Nat) : ∀ (r j i : Nat), j + r = 512 → i = 3 * j → ∀ (n kc : Nat) (td th tn wn : Int32) (f tf wf mt tg tp : xRow) (h : Nat → Int64) (kn : Nat → Int32) (H : Heap) (locs : List Loc) (d0 : Drawn) (cells slots : Nat) (ls : Array Slot), s.drawn.sameBut d0 lw_cs → xInv j n kc f tg → (∀ t, t < kc → kn t = nI n) → xP γ (LW γ q0 q1 a1 q2 a2 q3 a3 q4 o m0 m1 m2 m3 m4 kq ka n kc td th tn wn f tf wf mt tg tp h kn) H → va_D A (LW γ q0 q1 a1 q2 a2 q3 a3 q4 o m0 m1 m2 m3 m4 kq ka n kc td th tn wn f tf wf mt tg tp h kn) → va_S A s.heap H locs → cells ≤ 26 + j → slots ≤ 257 + 17 * j → lv_has ls 9 [(0, .ref b), (1, .ref q0), (2, .ref m0), (3, .ref o), (4, .int (nI i))] → W p l e room_1 (s.setDrawn d0) m #[Value.ref b] below meth c H locs cells slots (lw_Z below #[Value.ref b] s) (F0 m 23 ls []) := by
  intro r
  induction r with
  | zero =>
    intro j i hjr hij n kc td th tn wn f tf wf mt tg tp h kn H locs d0 cells slots ls hd0 hI hkn hP hD hS hc hs hl
    obtain ⟨hx, hb, hr, hml, hown, hts0, hX, hbl, hlocks, hgv⟩ := id C0
    have hX : va_X b L xs (s.setDrawn d0) s.heap := va_X.moved (u := s) (U := s.setDrawn d0) (Vm.Alike.refl s.vm) hX
    refine lv_iload hx hb dL_law_23 (lv_at hl 4 rfl) ?_
    refine lv_aload_n hx hb dL_law_25 rfl (lv_at hl 0 rfl) ?_
    refine va_slen hx hb hX hbl hbA hS dL_law_26 ?_
    refine lv_iconst (v := 3) hx hb dL_law_27 (by decide) ?_
    refine lv_isub hx hb dL_law_28 ?_
    have e9 : (Int32.ofNat L - 3).toInt = (L : Int) - 3 := xsubI (nI_toInt (n := L) (by omega)) (show (3 : Int32).toInt = 3 from rfl) (by omega) (by omega)
    have ei : (nI i).toInt = (i : Int) := nI_toInt (n := i) (by omega)
    refine lv_icmp_gt (tgt := 1432) hx hb dL_law_29 (by decide) (fun c9 => ?_) (fun c9 => ?_)
    · refine lv_iconst (v := 1) hx hb dL_law_1432 (by decide) ?_
      refine va_forget (fun q hq => hAS _ (hS.2.2 q hq)) ?_
      refine W.widen (k := 601024) (n := 7293034) (by omega) (by omega) ?_
      exact lw_ret hd0 hx hb hr hlocks dL_law_1433
    · have hi : i + 2 < L := by
        have c8 := Int32.not_lt.mp c9
        rw [Int32.le_iff_toInt_le, e9, ei] at c8
        omega
      omega
  | succ r ih =>
    intro j i hjr hij n kc td th tn wn f tf wf mt tg tp h kn H locs d0 cells slots ls hd0 hI hkn hP hD hS hc hs hl
    obtain ⟨hx, hb, hr, hml, hown, hts0, hX, hbl, hlocks, hgv⟩ := id C0
    have hX : va_X b L xs (s.setDrawn d0) s.heap := va_X.moved (u := s) (U := s.setDrawn d0) (Vm.Alike.refl s.vm) hX
    refine lv_iload hx hb dL_law_23 (lv_at hl 4 rfl) ?_
    refine lv_aload_n hx hb dL_law_25 rfl (lv_at hl 0 rfl) ?_
    refine va_slen hx hb hX hbl hbA hS dL_law_26 ?_
    refine lv_iconst (v := 3) hx hb dL_law_27 (by decide) ?_
    refine lv_isub hx hb dL_law_28 ?_
    have e9 : (Int32.ofNat L - 3).toInt = (L : Int) - 3 := xsubI (nI_toInt (n := L) (by omega)) (show (3 : Int32).toInt = 3 from rfl) (by omega) (by omega)
    have ei : (nI i).toInt = (i : Int) := nI_toInt (n := i) (by omega)
    refine lv_icmp_gt (tgt := 1432) hx hb dL_law_29 (by decide) (fun c9 => ?_) (fun c9 => ?_)
    · refine lv_iconst (v := 1) hx hb dL_law_1432 (by decide) ?_
      refine va_forget (fun q hq => hAS _ (hS.2.2 q hq)) ?_
      refine W.widen (k := 601024) (n := 7293034) (by omega) (by omega) ?_
      exact lw_ret hd0 hx hb hr hlocks dL_law_1433
    · have hi : i + 2 < L := by
        have c8 := Int32.not_lt.mp c9
        rw [Int32.le_iff_toInt_le, e9, ei] at c8
        omega
      have hj : j < 512 := by omega
      have K : xK9 p l e s m below meth c b γ A q0 q1 a1 q2 a2 q3 a3 q4 o m0 m1 m2 m3 m4 kq ka (j + 1) i := by
        intro n kc td th tn wn f tf wf mt tg tp h kn H locs d0 cells slots ls hd0 hI hkn hP hD hS hc hs hl
        refine lv_iinc (v := nI (i + 3)) (lv' := [(4, .int (nI (i + 3))), (0, .ref b), (1, .ref q0), (2, .ref m0), (3, .ref o)]) hx hb dL_law_1426 hl (k := 4) rfl (nI_add i 3) (by decide) rfl (fun ls hl => ?_)
        refine lv_goto (tgt := 23) hx hb dL_law_1429 (by decide) ?_
        exact ih (j + 1) (i + 3) (by omega) (by omega) n kc td th tn wn f tf wf mt tg tp h kn H locs d0 cells slots ls hd0 hI hkn hP hD hS hc hs (lv_sub hl [1, 2, 3, 4, 0] rfl)
      refine lv_aload_n hx hb dL_law_32 rfl (lv_at hl 0 rfl) ?_
      refine lv_iload hx hb dL_law_33 (lv_at hl 4 rfl) ?_
      refine x_sld hx hb hX hbl hbA hS i rfl (by omega) (by omega) dL_law_35 ?_
      refine lv_bipush (v := 63) hx hb dL_law_36 (by decide) ?_
      refine lv_iand hx hb dL_law_38 ?_
      obtain ⟨v, ev⟩ : ∃ v, v = xs i &&& 63 := ⟨_, rfl⟩
      rw [← ev]
      by_cases h1 : v.toInt < 0 ∨ 34 < v.toInt
      · refine lv_tableOut (tgt := 1426) hx hb dL_law_39 h1 (by decide) ?_
        exact K n kc td th tn wn f tf wf mt tg tp h kn H locs d0 cells slots ls hd0 (hI.same hj) hkn hP hD hS (by omega) (by omega) hl
      · have h2 : ¬ v.toInt < 0 := fun h => h1 (Or.inl h)
        have h3 : ¬ 34 < v.toInt := fun h => h1 (Or.inr h)
        have h4 : v.toInt = 0 ∨ v.toInt = 1 ∨ v.toInt = 2 ∨ v.toInt = 3 ∨ v.toInt = 4 ∨ v.toInt = 5 ∨ v.toInt = 6 ∨ v.toInt = 7 ∨ v.toInt = 8 ∨ v.toInt = 9 ∨ v.toInt = 10 ∨ v.toInt = 11 ∨ v.toInt = 12 ∨ v.toInt = 13 ∨ v.toInt = 14 ∨ v.toInt = 15 ∨ v.toInt = 16 ∨ v.toInt = 17 ∨ v.toInt = 18 ∨ v.toInt = 19 ∨ v.toInt = 20 ∨ v.toInt = 21 ∨ v.toInt = 22 ∨ v.toInt = 23 ∨ v.toInt = 24 ∨ v.toInt = 25 ∨ v.toInt = 26 ∨ v.toInt = 27 ∨ v.toInt = 28 ∨ v.toInt = 29 ∨ v.toInt = 30 ∨ v.toInt = 31 ∨ v.toInt = 32 ∨ v.toInt = 33 ∨ v.toInt = 34 := by omega
        rcases h4 with h4 | h4 | h4 | h4 | h4 | h4 | h4 | h4 | h4 | h4 | h4 | h4 | h4 | h4 | h4 | h4 | h4 | h4 | h4 | h4 | h4 | h4 | h4 | h4 | h4 | h4 | h4 | h4 | h4 | h4 | h4 | h4 | h4 | h4 | h4
        · refine lv_tableIn (off := 153) (tgt := 192) hx hb dL_law_39 h2 h3 (by rw [h4]; rfl) (by decide) ?_
          exact xcase_lay l hlt hL C0 hK sa hEv hEs hEn hA hbA hEh q0 q1 a1 q2 a2 q3 a3 q4 o m0 m1 m2 m3 m4 kq ka j i hj hi K n kc td th tn wn f tf wf mt tg tp h kn H locs d0 cells slots ls hd0 hI hkn hP hD hS hc hs hl
        · refine lv_tableIn (off := 209) (tgt := 248) hx hb dL_law_39 h2 h3 (by rw [h4]; rfl) (by decide) ?_
          exact xcase_put l hlt hL C0 hK sa hEv hEs hEn hA hbA hEh q0 q1 a1 q2 a2 q3 a3 q4 o m0 m1 m2 m3 m4 kq ka j i hj hi K n kc td th tn wn f tf wf mt tg tp h kn H locs d0 cells slots ls hd0 hI hkn hP hD hS hc hs hl
        · refine lv_tableIn (off := 277) (tgt := 316) hx hb dL_law_39 h2 h3 (by rw [h4]; rfl) (by decide) ?_
          exact xcase_tip l hlt hL C0 hK sa hEv hEs hEn hA hbA hEh q0 q1 a1 q2 a2 q3 a3 q4 o m0 m1 m2 m3 m4 kq ka j i hj hi K n kc td th tn wn f tf wf mt tg tp h kn H locs d0 cells slots ls hd0 hI hkn hP hD hS hc hs hl
        · refine lv_tableIn (off := 345) (tgt := 384) hx hb dL_law_39 h2 h3 (by rw [h4]; rfl) (by decide) ?_
          exact xcase_turn l hlt hL C0 hK sa hEv hEs hEn hA hbA hEh q0 q1 a1 q2 a2 q3 a3 q4 o m0 m1 m2 m3 m4 kq ka j i hj hi K n kc td th tn wn f tf wf mt tg tp h kn H locs d0 cells slots ls hd0 hI hkn hP hD hS hc hs hl
        · refine lv_tableIn (off := 358) (tgt := 397) hx hb dL_law_39 h2 h3 (by rw [h4]; rfl) (by decide) ?_
          exact xcase_keep l hlt hL C0 hK sa hEv hEs hEn hA hbA hEh q0 q1 a1 q2 a2 q3 a3 q4 o m0 m1 m2 m3 m4 kq ka j i hj hi K n kc td th tn wn f tf wf mt tg tp h kn H locs d0 cells slots ls hd0 hI hkn hP hD hS hc hs hl
        · refine lv_tableIn (off := 402) (tgt := 441) hx hb dL_law_39 h2 h3 (by rw [h4]; rfl) (by decide) ?_
          exact xcase_settle l hlt hL C0 hK sa hEv hEs hEn hA hbA hEh q0 q1 a1 q2 a2 q3 a3 q4 o m0 m1 m2 m3 m4 kq ka j i hj hi K n kc td th tn wn f tf wf mt tg tp h kn H locs d0 cells slots ls hd0 hI hkn hP hD hS hc hs hl
        · refine lv_tableIn (off := 458) (tgt := 497) hx hb dL_law_39 h2 h3 (by rw [h4]; rfl) (by decide) ?_
          exact xcase_reach l hlt hL C0 hK sa hEv hEs hEn hA hbA hEh q0 q1 a1 q2 a2 q3 a3 q4 o m0 m1 m2 m3 m4 kq ka j i hj hi K n kc td th tn wn f tf wf mt tg tp h kn H locs d0 cells slots ls hd0 hI hkn hP hD hS hc hs hl
        · refine lv_tableIn (off := 514) (tgt := 553) hx hb dL_law_39 h2 h3 (by rw [h4]; rfl) (by decide) ?_
          exact xcase_places l hlt hL C0 hK sa hEv hEs hEn hA hbA hEh q0 q1 a1 q2 a2 q3 a3 q4 o m0 m1 m2 m3 m4 kq ka j i hj hi K n kc td th tn wn f tf wf mt tg tp h kn H locs d0 cells slots ls hd0 hI hkn hP hD hS hc hs hl
        · refine lv_tableIn (off := 527) (tgt := 566) hx hb dL_law_39 h2 h3 (by rw [h4]; rfl) (by decide) ?_
          exact xcase_numberAt l hlt hL C0 hK sa hEv hEs hEn hA hbA hEh q0 q1 a1 q2 a2 q3 a3 q4 o m0 m1 m2 m3 m4 kq ka j i hj hi K n kc td th tn wn f tf wf mt tg tp h kn H locs d0 cells slots ls hd0 hI hkn hP hD hS hc hs hl
        · refine lv_tableIn (off := 583) (tgt := 622) hx hb dL_law_39 h2 h3 (by rw [h4]; rfl) (by decide) ?_
          exact xcase_targets l hlt hL C0 hK sa hEv hEs hEn hA hbA hEh q0 q1 a1 q2 a2 q3 a3 q4 o m0 m1 m2 m3 m4 kq ka j i hj hi K n kc td th tn wn f tf wf mt tg tp h kn H locs d0 cells slots ls hd0 hI hkn hP hD hS hc hs hl
        · refine lv_tableIn (off := 596) (tgt := 635) hx hb dL_law_39 h2 h3 (by rw [h4]; rfl) (by decide) ?_
          exact xcase_tips l hlt hL C0 hK sa hEv hEs hEn hA hbA hEh q0 q1 a1 q2 a2 q3 a3 q4 o m0 m1 m2 m3 m4 kq ka j i hj hi K n kc td th tn wn f tf wf mt tg tp h kn H locs d0 cells slots ls hd0 hI hkn hP hD hS hc hs hl
        · refine lv_tableIn (off := 609) (tgt := 648) hx hb dL_law_39 h2 h3 (by rw [h4]; rfl) (by decide) ?_
          exact xcase_sum l hlt hL C0 hK sa hEv hEs hEn hA hbA hEh q0 q1 a1 q2 a2 q3 a3 q4 o m0 m1 m2 m3 m4 kq ka j i hj hi K n kc td th tn wn f tf wf mt tg tp h kn H locs d0 cells slots ls hd0 hI hkn hP hD hS hc hs hl
        · refine lv_tableIn (off := 622) (tgt := 661) hx hb dL_law_39 h2 h3 (by rw [h4]; rfl) (by decide) ?_
          exact xcase_moment l hlt hL C0 hK sa hEv hEs hEn hA hbA hEh q0 q1 a1 q2 a2 q3 a3 q4 o m0 m1 m2 m3 m4 kq ka j i hj hi K n kc td th tn wn f tf wf mt tg tp h kn H locs d0 cells slots ls hd0 hI hkn hP hD hS hc hs hl
        · refine lv_tableIn (off := 635) (tgt := 674) hx hb dL_law_39 h2 h3 (by rw [h4]; rfl) (by decide) ?_
          exact xcase_spread l hlt hL C0 hK sa hEv hEs hEn hA hbA hEh q0 q1 a1 q2 a2 q3 a3 q4 o m0 m1 m2 m3 m4 kq ka j i hj hi K n kc td th tn wn f tf wf mt tg tp h kn H locs d0 cells slots ls hd0 hI hkn hP hD hS hc hs hl
        · refine lv_tableIn (off := 648) (tgt := 687) hx hb dL_law_39 h2 h3 (by rw [h4]; rfl) (by decide) ?_
          exact xcase_highest l hlt hL C0 hK sa hEv hEs hEn hA hbA hEh q0 q1 a1 q2 a2 q3 a3 q4 o m0 m1 m2 m3 m4 kq ka j i hj hi K n kc td th tn wn f tf wf mt tg tp h kn H locs d0 cells slots ls hd0 hI hkn hP hD hS hc hs hl
        · refine lv_tableIn (off := 661) (tgt := 700) hx hb dL_law_39 h2 h3 (by rw [h4]; rfl) (by decide) ?_
          exact xcase_isSteep l hlt hL C0 hK sa hEv hEs hEn hA hbA hEh q0 q1 a1 q2 a2 q3 a3 q4 o m0 m1 m2 m3 m4 kq ka j i hj hi K n kc td th tn wn f tf wf mt tg tp h kn H locs d0 cells slots ls hd0 hI hkn hP hD hS hc hs hl
        · refine lv_tableIn (off := 724) (tgt := 763) hx hb dL_law_39 h2 h3 (by rw [h4]; rfl) (by decide) ?_
          exact xcase_steepPlaces l hlt hL C0 hK sa hEv hEs hEn hA hbA hEh q0 q1 a1 q2 a2 q3 a3 q4 o m0 m1 m2 m3 m4 kq ka j i hj hi K n kc td th tn wn f tf wf mt tg tp h kn H locs d0 cells slots ls hd0 hI hkn hP hD hS hc hs hl
        · refine lv_tableIn (off := 737) (tgt := 776) hx hb dL_law_39 h2 h3 (by rw [h4]; rfl) (by decide) ?_
          exact xcase_nextToTip l hlt hL C0 hK sa hEv hEs hEn hA hbA hEh q0 q1 a1 q2 a2 q3 a3 q4 o m0 m1 m2 m3 m4 kq ka j i hj hi K n kc td th tn wn f tf wf mt tg tp h kn H locs d0 cells slots ls hd0 hI hkn hP hD hS hc hs hl
        · refine lv_tableIn (off := 750) (tgt := 789) hx hb dL_law_39 h2 h3 (by rw [h4]; rfl) (by decide) ?_
          exact xcase_tilt l hlt hL C0 hK sa hEv hEs hEn hA hbA hEh q0 q1 a1 q2 a2 q3 a3 q4 o m0 m1 m2 m3 m4 kq ka j i hj hi K n kc td th tn wn f tf wf mt tg tp h kn H locs d0 cells slots ls hd0 hI hkn hP hD hS hc hs hl
        · refine lv_tableIn (off := 806) (tgt := 845) hx hb dL_law_39 h2 h3 (by rw [h4]; rfl) (by decide) ?_
          exact xcase_levelAxes l hlt hL C0 hK sa hEv hEs hEn hA hbA hEh q0 q1 a1 q2 a2 q3 a3 q4 o m0 m1 m2 m3 m4 kq ka j i hj hi K n kc td th tn wn f tf wf mt tg tp h kn H locs d0 cells slots ls hd0 hI hkn hP hD hS hc hs hl
        · refine lv_tableIn (off := 819) (tgt := 858) hx hb dL_law_39 h2 h3 (by rw [h4]; rfl) (by decide) ?_
          exact xcase_bestAxis l hlt hL C0 hK sa hEv hEs hEn hA hbA hEh q0 q1 a1 q2 a2 q3 a3 q4 o m0 m1 m2 m3 m4 kq ka j i hj hi K n kc td th tn wn f tf wf mt tg tp h kn H locs d0 cells slots ls hd0 hI hkn hP hD hS hc hs hl
        · refine lv_tableIn (off := 832) (tgt := 871) hx hb dL_law_39 h2 h3 (by rw [h4]; rfl) (by decide) ?_
          exact xcase_numberIn l hlt hL C0 hK sa hEv hEs hEn hA hbA hEh q0 q1 a1 q2 a2 q3 a3 q4 o m0 m1 m2 m3 m4 kq ka j i hj hi K n kc td th tn wn f tf wf mt tg tp h kn H locs d0 cells slots ls hd0 hI hkn hP hD hS hc hs hl
        · refine lv_tableIn (off := 900) (tgt := 939) hx hb dL_law_39 h2 h3 (by rw [h4]; rfl) (by decide) ?_
          exact xcase_differences l hlt hL C0 hK sa hEv hEs hEn hA hbA hEh q0 q1 a1 q2 a2 q3 a3 q4 o m0 m1 m2 m3 m4 kq ka j i hj hi K n kc td th tn wn f tf wf mt tg tp h kn H locs d0 cells slots ls hd0 hI hkn hP hD hS hc hs hl
        · refine lv_tableIn (off := 956) (tgt := 995) hx hb dL_law_39 h2 h3 (by rw [h4]; rfl) (by decide) ?_
          exact xcase_canReach l hlt hL C0 hK sa hEv hEs hEn hA hbA hEh q0 q1 a1 q2 a2 q3 a3 q4 o m0 m1 m2 m3 m4 kq ka j i hj hi K n kc td th tn wn f tf wf mt tg tp h kn H locs d0 cells slots ls hd0 hI hkn hP hD hS hc hs hl
        · refine lv_tableIn (off := 1019) (tgt := 1058) hx hb dL_law_39 h2 h3 (by rw [h4]; rfl) (by decide) ?_
          exact xcase_reachable l hlt hL C0 hK sa hEv hEs hEn hA hbA hEh q0 q1 a1 q2 a2 q3 a3 q4 o m0 m1 m2 m3 m4 kq ka j i hj hi K n kc td th tn wn f tf wf mt tg tp h kn H locs d0 cells slots ls hd0 hI hkn hP hD hS hc hs hl
        · refine lv_tableIn (off := 1032) (tgt := 1071) hx hb dL_law_39 h2 h3 (by rw [h4]; rfl) (by decide) ?_
          exact xcase_tipsTo l hlt hL C0 hK sa hEv hEs hEn hA hbA hEh q0 q1 a1 q2 a2 q3 a3 q4 o m0 m1 m2 m3 m4 kq ka j i hj hi K n kc td th tn wn f tf wf mt tg tp h kn H locs d0 cells slots ls hd0 hI hkn hP hD hS hc hs hl
        · refine lv_tableIn (off := 1100) (tgt := 1139) hx hb dL_law_39 h2 h3 (by rw [h4]; rfl) (by decide) ?_
          exact xcase_fewestTips l hlt hL C0 hK sa hEv hEs hEn hA hbA hEh q0 q1 a1 q2 a2 q3 a3 q4 o m0 m1 m2 m3 m4 kq ka j i hj hi K n kc td th tn wn f tf wf mt tg tp h kn H locs d0 cells slots ls hd0 hI hkn hP hD hS hc hs hl
        · refine lv_tableIn (off := 1156) (tgt := 1195) hx hb dL_law_39 h2 h3 (by rw [h4]; rfl) (by decide) ?_
          exact xcase_nearestTarget l hlt hL C0 hK sa hEv hEs hEn hA hbA hEh q0 q1 a1 q2 a2 q3 a3 q4 o m0 m1 m2 m3 m4 kq ka j i hj hi K n kc td th tn wn f tf wf mt tg tp h kn H locs d0 cells slots ls hd0 hI hkn hP hD hS hc hs hl
        · refine lv_tableIn (off := 1169) (tgt := 1208) hx hb dL_law_39 h2 h3 (by rw [h4]; rfl) (by decide) ?_
          exact xcase_stepsToRest l hlt hL C0 hK sa hEv hEs hEn hA hbA hEh q0 q1 a1 q2 a2 q3 a3 q4 o m0 m1 m2 m3 m4 kq ka j i hj hi K n kc td th tn wn f tf wf mt tg tp h kn H locs d0 cells slots ls hd0 hI hkn hP hD hS hc hs hl
        · refine lv_tableIn (off := 1182) (tgt := 1221) hx hb dL_law_39 h2 h3 (by rw [h4]; rfl) (by decide) ?_
          exact xcase_spreadAtRest l hlt hL C0 hK sa hEv hEs hEn hA hbA hEh q0 q1 a1 q2 a2 q3 a3 q4 o m0 m1 m2 m3 m4 kq ka j i hj hi K n kc td th tn wn f tf wf mt tg tp h kn H locs d0 cells slots ls hd0 hI hkn hP hD hS hc hs hl
        · refine lv_tableIn (off := 1195) (tgt := 1234) hx hb dL_law_39 h2 h3 (by rw [h4]; rfl) (by decide) ?_
          exact xcase_spreadWith l hlt hL C0 hK sa hEv hEs hEn hA hbA hEh q0 q1 a1 q2 a2 q3 a3 q4 o m0 m1 m2 m3 m4 kq ka j i hj hi K n kc td th tn wn f tf wf mt tg tp h kn H locs d0 cells slots ls hd0 hI hkn hP hD hS hc hs hl
        · refine lv_tableIn (off := 1263) (tgt := 1302) hx hb dL_law_39 h2 h3 (by rw [h4]; rfl) (by decide) ?_
          exact xcase_bestPlace l hlt hL C0 hK sa hEv hEs hEn hA hbA hEh q0 q1 a1 q2 a2 q3 a3 q4 o m0 m1 m2 m3 m4 kq ka j i hj hi K n kc td th tn wn f tf wf mt tg tp h kn H locs d0 cells slots ls hd0 hI hkn hP hD hS hc hs hl
        · refine lv_tableIn (off := 1276) (tgt := 1315) hx hb dL_law_39 h2 h3 (by rw [h4]; rfl) (by decide) ?_
          exact xcase_placeFor l hlt hL C0 hK sa hEv hEs hEn hA hbA hEh q0 q1 a1 q2 a2 q3 a3 q4 o m0 m1 m2 m3 m4 kq ka j i hj hi K n kc td th tn wn f tf wf mt tg tp h kn H locs d0 cells slots ls hd0 hI hkn hP hD hS hc hs hl
        · refine lv_tableIn (off := 1332) (tgt := 1371) hx hb dL_law_39 h2 h3 (by rw [h4]; rfl) (by decide) ?_
          exact xcase_meanNumber l hlt hL C0 hK sa hEv hEs hEn hA hbA hEh q0 q1 a1 q2 a2 q3 a3 q4 o m0 m1 m2 m3 m4 kq ka j i hj hi K n kc td th tn wn f tf wf mt tg tp h kn H locs d0 cells slots ls hd0 hI hkn hP hD hS hc hs hl
        · refine lv_tableIn (off := 1373) (tgt := 1412) hx hb dL_law_39 h2 h3 (by rw [h4]; rfl) (by decide) ?_
          exact xcase_digest l hlt hL C0 hK sa hEv hEs hEn hA hbA hEh q0 q1 a1 q2 a2 q3 a3 q4 o m0 m1 m2 m3 m4 kq ka j i hj hi K n kc td th tn wn f tf wf mt tg tp h kn H locs d0 cells slots ls hd0 hI hkn hP hD hS hc hs hl

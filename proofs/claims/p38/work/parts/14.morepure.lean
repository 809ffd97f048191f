theorem xKp_set2 {γ : xG} {kq ka : Nat → Nat} {kn : Nat → Int32} {ks : Nat → xRow} {base : va_W} {nb t : Nat} {v : Int32} {f : xRow} (hb : base.length = nb) (ht : t < 6) :
    ((base ++ xKp γ kq ka kn ks).set (nb + 2 * t) (xO (kq t) 0 [.ref (ka t), .int v])).set (nb + 2 * t + 1) (xA γ (ka t) 12 f) = base ++ xKp γ kq ka (fun i => if i = t then v else kn i) (fun i => if i = t then f else ks i) := by
  subst hb
  rw [List.set_append_right _ _ (by omega), List.set_append_right _ _ (by omega), Nat.add_sub_cancel_left, show base.length + 2 * t + 1 - base.length = 2 * t + 1 by omega]
  refine congrArg (fun w => base ++ w) ?_
  exact x6 (P := fun t => ((xKp γ kq ka kn ks).set (2 * t) (xO (kq t) 0 [.ref (ka t), .int v])).set (2 * t + 1) (xA γ (ka t) 12 f) = xKp γ kq ka (fun i => if i = t then v else kn i) (fun i => if i = t then f else ks i)) ht rfl rfl rfl rfl rfl rfl
section NEWS
variable {p : Program} {l : Launch} {e : Env} {R : Room} {s : State} {m : MethodId} {args : Array Value} {below : List Frame} {meth : Method} {c : Code} {H : Heap} {locs : List Loc} {cells slots : Nat} {Q : State → Prop} {cc : ByteArray} {pc : Nat} {ls : Array Slot} {γ : xG} {W0 : va_W} {A : Nat → Prop} {H0 : Heap} {rest : List Value}
theorem x_newI (hx : p.tables.exec = Jvm.exec) (hb : c.code = cc) (harr : (Cond.arrayClass .int).before args s = true) (hK : xK γ s) (hP : xP γ W0 H) (hD : va_D A W0) (hS : va_S A H0 H locs) (hA : ∀ q : Nat, H0.size ≤ q → A q) {n : Int32} (N : Nat) (hn : ¬ n < 0) (hN : n.toNatClampNeg = N) (hbytes : N * componentBytes .int ≤ 536870912) (hcells : cells + 1 ≤ R.cells) (hslots : slots + N ≤ R.slots) (hdg : decode cc pc = .ok (.newarray .int, 2))
    (kk : ∀ (q : Nat) (H1 : Heap), xP γ (W0 ++ [xA γ q N (fun _ => 0)]) H1 → va_D A (W0 ++ [xA γ q N (fun _ => 0)]) → va_S A H0 H1 locs → W p l e R s m args below meth c H1 locs (cells + 1) (slots + N) Q (F0 m (pc + 2) ls (.ref q :: rest))) : W p l e R s m args below meth c H locs cells slots Q (F0 m pc ls (.int n :: rest)) := by
  refine va_newa (atype := .int) hx hb harr rfl hK hP hD hS hA (a0 := (N, .inl (fun _ => 0))) (fun cA => rfl) hn hN hbytes hcells hslots hdg (fun q cA H1 hK1 hP1 hD1 hS1 => ?_)
  have e1 : va_RA s cA .int := (hK1.2 4 (cA, .int) rfl).2
  have e2 : va_RA s γ.2.1 .int := (hK.2 0 (γ.2.1, .int) rfl).2
  have e3 : cA = γ.2.1 := Option.some.inj (e1.symm.trans e2)
  subst e3
  exact kk q H1 hP1 hD1 hS1
theorem x_newQ (hx : p.tables.exec = Jvm.exec) (hb : c.code = cc) {own : String} {index : Nat} (hown : s.vm.findClass own = some m.cls) (hclink : (Cond.classLink own index RX0).before args s = true) (hover : va_AO RX0 s) (hK : xK γ s) (hP : xP γ W0 H) (hD : va_D A W0) (hS : va_S A H0 H locs) (hA : ∀ q : Nat, H0.size ≤ q → A q) {n : Int32} (N : Nat) (hn : ¬ n < 0) (hN : n.toNatClampNeg = N) (hbytes : N * 4 ≤ 536870912) (hcells : cells + 1 ≤ R.cells) (hslots : slots + N ≤ R.slots) (hdg : decode cc pc = .ok (.anewarray index, 3))
    (kk : ∀ (q : Nat) (H1 : Heap), xP γ (W0 ++ [xQ γ q N (fun _ => none)]) H1 → va_D A (W0 ++ [xQ γ q N (fun _ => none)]) → va_S A H0 H1 locs → W p l e R s m args below meth c H1 locs (cells + 1) (slots + N) Q (F0 m (pc + 3) ls (.ref q :: rest))) : W p l e R s m args below meth c H locs cells slots Q (F0 m pc ls (.int n :: rest)) := by
  refine va_newq hx hb hown hclink hover hK hP hD hS hA hn hN hbytes hcells hslots hdg (fun q cA H1 hK1 hP1 hD1 hS1 => ?_)
  have e1 : va_RA s cA (.object RX0) := (hK1.2 4 (cA, .object RX0) rfl).2
  have e2 : va_RA s γ.2.2.1 (.object RX0) := (hK.2 1 (γ.2.2.1, .object RX0) rfl).2
  obtain ⟨kA, comp, a1, a2, a3, a4⟩ := e1
  obtain ⟨kB, comp2, b1, b2, b3, b4⟩ := e2
  have e3 : cA = γ.2.2.1 := Option.some.inj (a4.symm.trans b4)
  obtain ⟨D, cI, cR, cT, cB⟩ := γ
  dsimp only at e3
  subst e3
  exact kk q H1 hP1 hD1 hS1
end NEWS
theorem xFold_17 (v0 v1 v2 v3 v4 v5 v6 v7 v8 v9 va vb vc vd ve vf vg : Int32) (d : Int64) : xFold (upd (upd (upd (upd (upd (upd (upd (upd (upd (upd (upd (upd (upd (upd (upd (upd (upd (fun _ => 0) 0 v0) 1 v1) 2 v2) 3 v3) 4 v4) 5 v5) 6 v6) 7 v7) 8 v8) 9 v9) 10 va) 11 vb) 12 vc) 13 vd) 14 ve) 15 vf) 16 vg) d 17 =
    xMx (xMx (xMx (xMx (xMx (xMx (xMx (xMx (xMx (xMx (xMx (xMx (xMx (xMx (xMx (xMx (xMx d v0.toInt64) v1.toInt64) v2.toInt64) v3.toInt64) v4.toInt64) v5.toInt64) v6.toInt64) v7.toInt64) v8.toInt64) v9.toInt64) va.toInt64) vb.toInt64) vc.toInt64) vd.toInt64) ve.toInt64) vf.toInt64) vg.toInt64 := rfl
theorem xPl_0 {n kc : Nat} {f : xRow} {ks : Nat → xRow} {x : Int32} (h : kc = 0) : xPl n kc f ks x = -1 := if_pos h
theorem xPl_p {n kc : Nat} {f : xRow} {ks : Nat → xRow} {x : Int32} (h : 0 < kc) : xPl n kc f ks x = xFi (xPf n f (ks 0) x) n := if_neg (by omega)
theorem xkc_p {kc : Nat} (h : ¬ nI kc = 0) : 0 < kc := by
  rcases Nat.eq_zero_or_pos kc with e | e
  · exact absurd (by rw [e]; rfl) h
  · exact e
theorem xkc_0 {kc : Nat} (hk : kc ≤ 6) (h : nI kc = 0) : kc = 0 := (nI_eq (a := kc) (b := 0) (by omega) (by omega)).mp h
/-! a stretch of the world behind all that a call cuts out or changes -/
theorem xfm {base K : va_W} : ∀ is1 : List Nat, (∀ i ∈ is1, i < base.length) → is1.filterMap (fun i => (base ++ K)[i]?) = is1.filterMap (fun i => base[i]?)
  | [], _ => rfl
  | i :: is, h => by
    rw [List.filterMap_cons, List.filterMap_cons, List.getElem?_append_left (h i List.mem_cons_self), xfm is (fun j hj => h j (List.mem_cons_of_mem _ hj))]
theorem xsuf_R {base K w1 : va_W} {nb : Nat} {is1 : List Nat} (hb : base.length = nb) (hK : K.length = 12) (h : is1.filterMap (fun i => base[i]?) = w1) (hlt : ∀ i ∈ is1, i < nb) : (is1 ++ List.range' nb 12).filterMap (fun i => (base ++ K)[i]?) = w1 ++ K := by
  subst hb
  rw [List.filterMap_append]
  congr 1
  · rw [← h]
    exact xfm is1 hlt
  · rw [← hK]
    apply List.ext_getElem?
    intro k
    have e : (List.range' base.length K.length).filterMap (fun i => (base ++ K)[i]?) = K := by
      have e1 : ∀ (B K : va_W), (List.range' B.length K.length).filterMap (fun i => (B ++ K)[i]?) = K := by
        intro B K
        induction K generalizing B with
        | nil => rfl
        | cons a K ih =>
          have h1 := ih (B ++ [a])
          rw [List.length_append, List.length_singleton, List.append_assoc, List.singleton_append] at h1
          rw [List.length_cons, List.range'_succ, List.filterMap_cons, List.getElem?_append_right (Nat.le_refl _), Nat.sub_self, List.getElem?_cons_zero, h1]
      exact e1 base K
    rw [e]
theorem xsuf_M {base K w1 : va_W} {nb : Nat} {is1 : List Nat} (hb : base.length = nb) (hK : K.length = 12) (h : is1.map (fun i => base[i]?) = w1.map some) (hlt : ∀ i ∈ is1, i < nb) : (is1 ++ List.range' nb 12).map (fun i => (base ++ K)[i]?) = (w1 ++ K).map some := by
  subst hb
  rw [List.map_append, List.map_append]
  congr 1
  · rw [← h]
    refine List.map_congr_left (fun i hi => ?_)
    rw [List.getElem?_append_left (hlt i hi)]
  · rw [← hK]
    have e1 : ∀ (B K : va_W), (List.range' B.length K.length).map (fun i => (B ++ K)[i]?) = K.map some := by
      intro B K
      induction K generalizing B with
      | nil => rfl
      | cons a K ih =>
        have h1 := ih (B ++ [a])
        rw [List.length_append, List.length_singleton, List.append_assoc, List.singleton_append] at h1
        rw [List.length_cons, List.range'_succ, List.map_cons, List.getElem?_append_right (Nat.le_refl _), Nat.sub_self, List.getElem?_cons_zero, h1, List.map_cons]
    exact e1 base K
theorem xup_len : ∀ (is : List Nat) (w B : va_W), (xup B is w).length = B.length
  | [], w, _ => by cases w <;> rfl
  | _ :: _, [], _ => rfl
  | i :: is, e :: w, B => by
    show (xup (B.set i e) is w).length = _
    rw [xup_len is w (B.set i e), List.length_set]
theorem xup_app : ∀ (is : List Nat) (w : va_W) (is2 : List Nat) (w2 B : va_W), is.length = w.length → xup B (is ++ is2) (w ++ w2) = xup (xup B is w) is2 w2
  | [], [], _, _, _, _ => rfl
  | [], _ :: _, _, _, _, h => by simp at h
  | _ :: _, [], _, _, _, h => by simp at h
  | i :: is, e :: w, is2, w2, B, h => xup_app is w is2 w2 (B.set i e) (by simpa using h)
theorem xup_left : ∀ (is : List Nat) (w B K : va_W), (∀ i ∈ is, i < B.length) → xup (B ++ K) is w = xup B is w ++ K
  | [], w, _, _, _ => by cases w <;> rfl
  | _ :: _, [], _, _, _ => rfl
  | i :: is, e :: w, B, K, h => by
    show xup ((B ++ K).set i e) is w = xup (B.set i e) is w ++ K
    rw [List.set_append_left _ _ (h i List.mem_cons_self)]
    exact xup_left is w (B.set i e) K (fun j hj => by rw [List.length_set]; exact h j (List.mem_cons_of_mem _ hj))
theorem xup_self : ∀ (K B : va_W), xup (B ++ K) (List.range' B.length K.length) K = B ++ K
  | [], _ => rfl
  | a :: K, B => by
    rw [List.length_cons, List.range'_succ]
    show xup ((B ++ a :: K).set B.length a) (List.range' (B.length + 1) K.length) K = _
    rw [List.set_append_right _ _ (Nat.le_refl _), Nat.sub_self, List.set_cons_zero]
    have h1 := xup_self K (B ++ [a])
    rw [List.length_append, List.length_singleton, List.append_assoc, List.singleton_append] at h1
    exact h1
theorem xup_suf {base K w1 : va_W} {nb : Nat} {is1 : List Nat} (hb : base.length = nb) (hK : K.length = 12) (hl : is1.length = w1.length) (hlt : ∀ i ∈ is1, i < nb) : xup (base ++ K) (is1 ++ List.range' nb 12) (w1 ++ K) = xup base is1 w1 ++ K := by
  subst hb
  rw [xup_app is1 w1 _ _ _ hl, xup_left is1 w1 base K hlt]
  have h := xup_self K (xup base is1 w1)
  rw [xup_len, hK] at h
  exact h

/-! the law's own ring in words of its own -/
theorem xRe {n : Nat} {x : Int32} {z : Int} (hz : x.toInt = z) (h0 : 3 ≤ n) (hn : n ≤ 12) (h1 : 0 ≤ z) (h2 : z < 2 * (n : Int)) : x - x / nI n * nI n = nI (xWr n z) := by
  apply xI_ext
  rw [xremI hz (nI_toInt (n := n) (by omega)) (by omega), Int.tdiv_eq_ediv_of_nonneg (by omega), nI_toInt (by have := xWr_lt (n := n) (z := z) (by omega) (by omega) h2; omega)]
  unfold xWr
  revert h2
  refine xn_cases (P := fun n : Nat => z < 2 * (n : Int) → z - z / (n : Int) * (n : Int) = ((if z < 0 then (z + (n : Int)).toNat else if z < (n : Int) then z.toNat else (z - (n : Int)).toNat : Nat) : Int)) h0 hn ?_ ?_ ?_ ?_ ?_ ?_ ?_ ?_ ?_ ?_ <;> intro h2 <;> (split; omega; split <;> omega)
theorem xAt {n : Nat} {x : Int32} {z : Int} (hz : x.toInt = z) (h0 : 3 ≤ n) (hn : n ≤ 12) (h1 : -(n : Int) ≤ z) (h2 : z < 2 * (n : Int)) : (x - x / nI n * nI n + nI n) - (x - x / nI n * nI n + nI n) / nI n * nI n = nI (xWr n z) := by
  have e1 := xremI hz (nI_toInt (n := n) (by omega)) (by omega)
  have hb : -(n : Int) < z - z.tdiv n * n ∧ z - z.tdiv n * n < n ∧ ((z - z.tdiv n * n = z ∧ -(n : Int) < z ∧ z < n) ∨ (z - z.tdiv n * n = 0 ∧ z = -(n : Int)) ∨ (z - z.tdiv n * n = z - n ∧ (n : Int) ≤ z)) := by
    rw [xtdiv_n h0 hn]
    revert h1 h2
    refine xn_cases (P := fun n : Nat => -(n : Int) ≤ z → z < 2 * (n : Int) → -(n : Int) < z - (if 0 ≤ z then z / (n : Int) else -(-z / (n : Int))) * n ∧ z - (if 0 ≤ z then z / (n : Int) else -(-z / (n : Int))) * n < n ∧ ((z - (if 0 ≤ z then z / (n : Int) else -(-z / (n : Int))) * n = z ∧ -(n : Int) < z ∧ z < n) ∨ (z - (if 0 ≤ z then z / (n : Int) else -(-z / (n : Int))) * n = 0 ∧ z = -(n : Int)) ∨ (z - (if 0 ≤ z then z / (n : Int) else -(-z / (n : Int))) * n = z - n ∧ (n : Int) ≤ z))) h0 hn ?_ ?_ ?_ ?_ ?_ ?_ ?_ ?_ ?_ ?_ <;> intro h1 h2 <;> split <;> omega
  obtain ⟨b1, b2, b3⟩ := hb
  have e3 := xOn (n := n) e1 h0 hn (by omega) (by omega)
  rw [e3]
  congr 1
  unfold xWr
  rcases b3 with ⟨h, h3, h4⟩ | ⟨h, h3⟩ | ⟨h, h3⟩
  · rw [h]
  · rw [h, h3, if_neg (by omega), if_pos (by omega), if_pos (by omega)]
    omega
  · rw [h, if_neg (by omega), if_pos (by omega), if_neg (by omega), if_neg (by omega)]
theorem xFm_at {n : Nat} {x : Int32} (h0 : 3 ≤ n) (hn : n ≤ 12) : (x - x / nI n * nI n + nI n) - (x - x / nI n * nI n + nI n) / nI n * nI n = xFm x n := by
  obtain ⟨z, hz⟩ : ∃ z : Int, x.toInt = z := ⟨_, rfl⟩
  have e1 := xremI hz (nI_toInt (n := n) (by omega)) (by omega)
  obtain ⟨w, ew⟩ : ∃ w : Int, w = z - z.tdiv n * n := ⟨_, rfl⟩
  have hb : -(n : Int) < w ∧ w < n ∧ w % (n : Int) = z % (n : Int) := by
    rw [ew, xtdiv_n h0 hn]
    refine xn_cases (P := fun n : Nat => -(n : Int) < z - (if 0 ≤ z then z / (n : Int) else -(-z / (n : Int))) * n ∧ z - (if 0 ≤ z then z / (n : Int) else -(-z / (n : Int))) * n < n ∧ (z - (if 0 ≤ z then z / (n : Int) else -(-z / (n : Int))) * n) % (n : Int) = z % (n : Int)) h0 hn ?_ ?_ ?_ ?_ ?_ ?_ ?_ ?_ ?_ ?_ <;> split <;> omega
  rw [← ew] at e1
  obtain ⟨b1, b2, b3⟩ := hb
  apply xI_ext
  have e2 := xaddI e1 (nI_toInt (n := n) (by omega)) (by omega) (by omega)
  rw [xremI e2 (nI_toInt (n := n) (by omega)) (by omega), xFm_toInt h0 hn, hz, ← b3, Int.tdiv_eq_ediv_of_nonneg (by omega)]
  clear e1 e2 ew b3 hz
  revert b1 b2
  refine xn_cases (P := fun n : Nat => -(n : Int) < w → w < n → w + (n : Int) - (w + n) / n * n = w % (n : Int)) h0 hn ?_ ?_ ?_ ?_ ?_ ?_ ?_ ?_ ?_ ?_ <;> intro b1 b2 <;> omega
theorem xMm_at {n : Nat} {f : xRow} {k : Nat} (hk : k = n) (h0 : 3 ≤ n) (hn : n ≤ 12) : (xMom f k - xMom f k / nI n * nI n + nI n) - (xMom f k - xMom f k / nI n * nI n + nI n) / nI n * nI n = xMm n f := by
  subst hk
  exact xFm_at h0 hn
theorem xMom_s {f : xRow} {k : Nat} : xMom f k + nI k * f k = xMom f (k + 1) := by
  show _ = xMom f k + f k * nI k
  rw [Int32.mul_comm]
/-- the greatest of the first k, from the smallest number up -/
def xHf (G : Nat → Int32) : Nat → Int32
  | 0 => -2147483648
  | k + 1 => if xHf G k < G k then G k else xHf G k
theorem xHf_hi (G : Nat → Int32) : ∀ k, xHf G (k + 1) = xHi G k
  | 0 => by
    show (if (-2147483648 : Int32) < G 0 then G 0 else -2147483648) = G 0
    by_cases h : (-2147483648 : Int32) < G 0
    · exact if_pos h
    · rw [if_neg h]
      apply xI_ext
      rw [Int32.lt_iff_toInt_lt] at h
      have h1 := fb_rng (G 0)
      have h2 : (-2147483648 : Int32).toInt = -2147483648 := by decide
      omega
  | k + 1 => by
    show (if xHf G (k + 1) < G (k + 1) then G (k + 1) else xHf G (k + 1)) = if xHi G k < G (k + 1) then G (k + 1) else xHi G k
    rw [xHf_hi G k]
theorem xSpn_at {n k : Nat} {f : xRow} (hk : k = n) (h0 : 3 ≤ n) : xHf f k - xMf f k = xSpn n f := by
  subst hk
  obtain ⟨m, rfl⟩ : ∃ m, k = m + 1 := ⟨k - 1, by omega⟩
  unfold xSpn
  rw [xHf_hi, xMf_lo, Nat.add_sub_cancel, xTop_hi]
/-! tips to a target, by differences of neighbours -/
def xLs (f g : xRow) : Nat → Int32
  | 0 => 0
  | p + 1 => xLs f g p + f (p + 1) - g (p + 1)
def xAl (f g : xRow) : Nat → Int32
  | 0 => 0
  | k + 1 => xAl f g k + xLs f g (k + 1)
def xMd (n : Nat) (f g : xRow) : Nat → Int32
  | 0 => 0
  | p + 1 => xMd n f g p + xAl f g (n - 1) / nI n - xLs f g p
theorem xOth_al {f g : xRow} : ∀ k : Nat, ∀ n : Nat, k < n → -(xOth n f g k) = xAl f g k + xLs f g k * nI (n - 1 - k)
  | 0, n, _ => by
    show -(0 : Int32) = 0 + 0 * nI (n - 1 - 0)
    rw [Int32.zero_mul]; rfl
  | k + 1, n, h => by
    have ih := xOth_al (f := f) (g := g) k n (by omega)
    have e1 : nI (n - 1 - k) = nI (n - 1 - (k + 1)) + 1 := by
      rw [show n - 1 - k = (n - 1 - (k + 1)) + 1 by omega]
      exact (nI_add _ 1).symm
    have e2 : nI (n - (k + 1)) = nI (n - 1 - (k + 1)) + 1 := by
      rw [show n - (k + 1) = (n - 1 - (k + 1)) + 1 by omega]
      exact (nI_add _ 1).symm
    rw [e1] at ih
    show -(xOth n f g k + (g (k + 1) - f (k + 1)) * nI (n - (k + 1))) = xAl f g k + (xLs f g k + f (k + 1) - g (k + 1)) + (xLs f g k + f (k + 1) - g (k + 1)) * nI (n - 1 - (k + 1))
    rw [e2]
    grind
theorem xFC_al {n : Nat} {f g : xRow} (h0 : 3 ≤ n) : xFC n f g = xAl f g (n - 1) / nI n := by
  have h := xOth_al (f := f) (g := g) (n - 1) n (by omega)
  rw [show n - 1 - (n - 1) = 0 by omega, show nI 0 = (0 : Int32) from rfl, Int32.mul_zero, Int32.add_zero] at h
  unfold xFC
  rw [h]
theorem xCl_ls {n : Nat} {f g : xRow} : ∀ p : Nat, xCl n f g (p + 1) = xFC n f g - xLs f g p
  | 0 => by
    show xFC n f g + (if 0 = 0 then (0 : Int32) else _) = xFC n f g - 0
    rw [if_pos rfl, Int32.add_zero, Int32.sub_zero]
  | p + 1 => by
    have h := xCl_ls (n := n) (f := f) (g := g) p
    show xCl n f g (p + 1) + (if p + 1 = 0 then (0 : Int32) else g (p + 1) - f (p + 1)) = xFC n f g - (xLs f g p + f (p + 1) - g (p + 1))
    rw [if_neg (by omega), h]
    grind
theorem xMd_ht {n : Nat} {f g : xRow} (h0 : 3 ≤ n) : ∀ p : Nat, xMd n f g p = xHt n f g p
  | 0 => rfl
  | p + 1 => by
    show xMd n f g p + xAl f g (n - 1) / nI n - xLs f g p = xHt n f g p + xCl n f g (p + 1)
    rw [xMd_ht h0 p, xCl_ls, ← xFC_al h0]
    grind
/-! the rows of targets as a stretch of the world -/
def xTs (γ : xG) (ta : Nat → Nat) (n : Nat) (ks : Nat → xRow) (kc : Nat) : va_W := (List.range kc).map (fun t => xA γ (ta t) n (ks t))
theorem xTs_at {γ : xG} {ta : Nat → Nat} {n : Nat} {ks : Nat → xRow} {kc t : Nat} (h : t < kc) : (xTs γ ta n ks kc)[t]? = some (xA γ (ta t) n (ks t)) := by
  unfold xTs
  rw [List.getElem?_map, List.getElem?_range h]
  rfl
theorem xTs_len {γ : xG} {ta : Nat → Nat} {n : Nat} {ks : Nat → xRow} {kc : Nat} : (xTs γ ta n ks kc).length = kc := by
  unfold xTs
  rw [List.length_map, List.length_range]
theorem xTs_r {γ : xG} {base : va_W} {ta : Nat → Nat} {n : Nat} {ks : Nat → xRow} {kc t nb : Nat} (hb : base.length = nb) (h : t < kc) : (base ++ xTs γ ta n ks kc)[nb + t]? = some (xA γ (ta t) n (ks t)) := by
  subst hb
  rw [List.getElem?_append_right (by omega), Nat.add_sub_cancel_left]
  exact xTs_at h
theorem xTs_r2 {γ : xG} {C base : va_W} {ta : Nat → Nat} {n : Nat} {ks : Nat → xRow} {kc t nb nc : Nat} (hc : C.length = nc) (hb : nc + base.length = nb) (h : t < kc) : (C ++ (base ++ xTs γ ta n ks kc))[nb + t]? = some (xA γ (ta t) n (ks t)) := by
  subst hc; subst hb
  rw [List.getElem?_append_right (by omega), show C.length + base.length + t - C.length = base.length + t by omega]
  exact xTs_r rfl h
theorem xTs_new {γ : xG} {ta : Nat → Nat} {n : Nat} {ks : Nat → xRow} {kc a : Nat} {f : xRow} : xTs γ ta n ks kc ++ [xA γ a n f] = xTs γ (fun t => if t = kc then a else ta t) n (fun t => if t = kc then f else ks t) (kc + 1) := by
  unfold xTs
  rw [List.range_succ, List.map_append]
  congr 1
  · refine List.map_congr_left (fun t ht => ?_)
    have h : t < kc := List.mem_range.mp ht
    rw [if_neg (by omega), if_neg (by omega)]
  · show [xA γ a n f] = [xA γ (if kc = kc then a else ta kc) n (if kc = kc then f else ks kc)]
    rw [if_pos rfl, if_pos rfl]
theorem xKp_o2 {γ : xG} {kq ka : Nat → Nat} {kn : Nat → Int32} {ks : Nat → xRow} {base R9 : va_W} {nb t : Nat} {v : Int32} (hb : base.length = nb) (ht : t < 6) (hv : kn t = v) : ((base ++ xKp γ kq ka kn ks) ++ R9)[nb + 2 * t]? = some (xO (kq t) 0 [.ref (ka t), .int v]) := by
  rw [List.getElem?_append_left (by rw [List.length_append, hb]; show nb + 2 * t < nb + 12; omega)]
  exact xKp_o hb ht hv
theorem xKp_r2 {γ : xG} {kq ka : Nat → Nat} {kn : Nat → Int32} {ks : Nat → xRow} {base R9 : va_W} {nb t : Nat} (hb : base.length = nb) (ht : t < 6) : ((base ++ xKp γ kq ka kn ks) ++ R9)[nb + 2 * t + 1]? = some (xA γ (ka t) 12 (ks t)) := by
  rw [List.getElem?_append_left (by rw [List.length_append, hb]; show nb + 2 * t + 1 < nb + 12; omega)]
  exact xKp_r hb ht
theorem xup_1 {W0 : va_W} {i : Nat} {a : Nat × va_E} {is : List Nat} {w : va_W} (h1 : W0[i]? = some a) : xup W0 (i :: is) (a :: w) = xup W0 is w := by
  show xup (W0.set i a) is w = xup W0 is w
  rw [xset_same h1]
/-! a world in another order -/
theorem xP_of {γ : xG} {W1 W2 : va_W} {H : Heap} (h : ∀ q ∈ W2, q ∈ W1) (hP : xP γ W1 H) : xP γ W2 H := fun k q hq => by
  obtain ⟨i, hi⟩ := List.getElem?_of_mem (h q (List.mem_of_getElem? hq))
  exact hP i q hi
theorem xD_nd {A : Nat → Prop} {ws : va_W} : va_D A ws ↔ (ws.map Prod.fst).Nodup ∧ ∀ q ∈ ws, A q.1 := by
  constructor
  · intro h
    refine ⟨?_, fun q hq => ?_⟩
    · rw [List.nodup_iff_getElem?_ne_getElem?]
      intro i j hij hj heq
      rw [List.getElem?_map, List.getElem?_map] at heq
      have hj' : j < ws.length := by simpa using hj
      have hi' : i < ws.length := by omega
      rw [List.getElem?_eq_getElem hi', List.getElem?_eq_getElem hj'] at heq
      have := h.1 i j _ _ (List.getElem?_eq_getElem hi') (List.getElem?_eq_getElem hj') (Option.some.inj heq)
      omega
    · obtain ⟨i, hi⟩ := List.getElem?_of_mem hq
      exact h.2 i q hi
  · intro h
    refine ⟨fun i j p q hp hq hpq => ?_, fun k q hq => h.2 q (List.mem_of_getElem? hq)⟩
    have hi : i < ws.length := (List.getElem?_eq_some_iff.mp hp).1
    have hj : j < ws.length := (List.getElem?_eq_some_iff.mp hq).1
    have h1 := h.1
    rw [List.nodup_iff_getElem?_ne_getElem?] at h1
    have e : (ws.map Prod.fst)[i]? = (ws.map Prod.fst)[j]? := by rw [List.getElem?_map, List.getElem?_map, hp, hq]; show some p.1 = some q.1; rw [hpq]
    rcases Nat.lt_trichotomy i j with h2 | h2 | h2
    · exact absurd e (h1 i j h2 (by simpa using hj))
    · exact h2
    · exact absurd e.symm (h1 j i h2 (by simpa using hi))
theorem xD_perm {A : Nat → Prop} {W1 W2 : va_W} (h : W1.Perm W2) (hD : va_D A W1) : va_D A W2 := by
  rw [xD_nd] at hD ⊢
  exact ⟨(h.map Prod.fst).nodup_iff.mp hD.1, fun q hq => hD.2 q (h.mem_iff.mpr hq)⟩
theorem xP_perm {γ : xG} {W1 W2 : va_W} {H : Heap} (h : W1.Perm W2) (hP : xP γ W1 H) : xP γ W2 H := xP_of (fun _ hq => h.mem_iff.mpr hq) hP
theorem xmv_perm (E T N : va_W) : ((E ++ T) ++ N).Perm ((E ++ N) ++ T) := by
  rw [List.append_assoc, List.append_assoc]
  exact List.Perm.append_left E List.perm_append_comm
theorem xmvP {γ : xG} {E T N : va_W} {H : Heap} (hP : xP γ ((E ++ T) ++ N) H) : xP γ ((E ++ N) ++ T) H := xP_perm (xmv_perm E T N) hP
theorem xmvD {A : Nat → Prop} {E T N : va_W} (hD : va_D A ((E ++ T) ++ N)) : va_D A ((E ++ N) ++ T) := xD_perm (xmv_perm E T N) hD
theorem xmv_perm2 (C E T N : va_W) : ((C ++ (E ++ T)) ++ N).Perm (C ++ ((E ++ N) ++ T)) := by
  rw [List.append_assoc]
  exact List.Perm.append_left C (xmv_perm E T N)
theorem xmvP2 {γ : xG} {C E T N : va_W} {H : Heap} (hP : xP γ ((C ++ (E ++ T)) ++ N) H) : xP γ (C ++ ((E ++ N) ++ T)) H := xP_perm (xmv_perm2 C E T N) hP
theorem xmvD2 {A : Nat → Prop} {C E T N : va_W} (hD : va_D A ((C ++ (E ++ T)) ++ N)) : va_D A (C ++ ((E ++ N) ++ T)) := xD_perm (xmv_perm2 C E T N) hD
/-- the law's cells by some of them, in another order -/
theorem xre {A : Nat → Prop} {γ : xG} {C E E2 T : va_W} {H : Heap} (is : List Nat) (hnd : va_nd is = true) (h : is.map (fun i => E[i]?) = E2.map some) (hP : xP γ (C ++ (E ++ T)) H) (hD : va_D A (C ++ (E ++ T))) : xP γ (C ++ (E2 ++ T)) H ∧ va_D A (C ++ (E2 ++ T)) := by
  have hm : ∀ q ∈ E2, q ∈ E := fun q hq => by
    obtain ⟨j, hj⟩ := List.getElem?_of_mem hq
    have h1 : (is.map (fun i => E[i]?))[j]? = some (some q) := by rw [h, List.getElem?_map, hj]; rfl
    rw [List.getElem?_map] at h1
    cases hi : is[j]? with
    | none => rw [hi] at h1; cases h1
    | some i => rw [hi] at h1; exact List.mem_of_getElem? (Option.some.inj h1)
  have hm2 : ∀ q ∈ C ++ (E2 ++ T), q ∈ C ++ (E ++ T) := fun q hq => by
    rw [List.mem_append, List.mem_append] at hq ⊢
    rcases hq with h9 | h9 | h9
    · exact Or.inl h9
    · exact Or.inr (Or.inl (hm q h9))
    · exact Or.inr (Or.inr h9)
  refine ⟨xP_of hm2 hP, ?_⟩
  have hE : va_D (fun _ => True) E2 := by
    have h0 : va_D (fun _ => True) E := by
      rw [xD_nd] at hD ⊢
      refine ⟨?_, fun _ _ => trivial⟩
      have h2 := hD.1
      rw [List.map_append, List.map_append] at h2
      exact (List.nodup_append.mp (List.nodup_append.mp h2).2.1).1
    exact h0.sub is hnd h
  rw [xD_nd] at hD hE ⊢
  refine ⟨?_, fun q hq => hD.2 q (hm2 q hq)⟩
  have h2 := hD.1
  rw [List.map_append, List.map_append, List.nodup_append, List.nodup_append] at h2 ⊢
  obtain ⟨c1, ⟨c2, c3, c4⟩, c5⟩ := h2
  have hmf : ∀ a ∈ E2.map Prod.fst, a ∈ E.map Prod.fst := fun a ha => by
    obtain ⟨q, h1, h3⟩ := List.mem_map.mp ha
    exact List.mem_map.mpr ⟨q, hm q h1, h3⟩
  refine ⟨c1, ⟨hE.1, c3, fun a ha b hb => c4 a (hmf a ha) b hb⟩, fun a ha b hb => c5 a ha b ?_⟩
  rw [List.mem_append] at hb ⊢
  rcases hb with h9 | h9
  · exact Or.inl (hmf b h9)
  · exact Or.inr h9
theorem xreT {A : Nat → Prop} {γ : xG} {E E2 T : va_W} {H : Heap} (is : List Nat) (hnd : va_nd is = true) (h : is.map (fun i => E[i]?) = E2.map some) (hP : xP γ (E ++ T) H) (hD : va_D A (E ++ T)) : xP γ (E2 ++ T) H ∧ va_D A (E2 ++ T) := xre (C := []) is hnd h hP hD

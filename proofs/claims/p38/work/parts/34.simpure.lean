/-! the law's own ring in words of its own -/
theorem xRe {n : Nat} {x : Int32} {z : Int} (hz : x.toInt = z) (h0 : 3 ≤ n) (hn : n ≤ 12) (h1 : 0 ≤ z) (h2 : z < 2 * (n : Int)) : x - x / nI n * nI n = nI (xWr n z) := by
  apply xI_ext
  rw [xremI hz (nI_toInt (n := n) (by omega)) (by omega), Int.tdiv_eq_ediv_of_nonneg (by omega), nI_toInt (by have := xWr_lt (n := n) (z := z) (by omega) (by omega) h2; omega)]
  unfold xWr
  revert h2
  refine xn_cases (P := fun n : Nat => z < 2 * (n : Int) → z - z / (n : Int) * (n : Int) = ((if z < 0 then (z + (n : Int)).toNat else if z < (n : Int) then z.toNat else (z - (n : Int)).toNat : Nat) : Int)) h0 hn ?_ ?_ ?_ ?_ ?_ ?_ ?_ ?_ ?_ ?_ <;> intro h2 <;> (split; omega; split <;> omega)
theorem xAt {n : Nat} {x : Int32} {z : Int} (hz : x.toInt = z) (h0 : 3 ≤ n) (hn : n ≤ 12) (h1 : -(n : Int) ≤ z) (h2 : z < 2 * (n : Int)) : (x - x / nI n * nI n + nI n) - (x - x / nI n * nI n + nI n) / nI n * nI n = nI (xWr n z) := by
  have e1 := xremI hz (nI_toInt (n := n) (by omega)) (by omega)
  have hb : -(n : Int) < z - z.tdiv n * n ∧ z - z.tdiv n * n < n ∧ ((z - z.tdiv n * n = z ∧ -(n : Int) < z ∧ z < n) ∨ (z - z.tdiv n * n = 0 ∧ z = -(n : Int)) ∨ (z - z.tdiv n * n = z - n ∧ (n : Int) ≤ z)) := by
    rw [xtdiv_n h0 hn]
    revert h1 h2
    refine xn_cases (P := fun n : Nat => -(n : Int) ≤ z → z < 2 * (n : Int) → -(n : Int) < z - (if 0 ≤ z then z / (n : Int) else -(-z / (n : Int))) * n ∧ z - (if 0 ≤ z then z / (n : Int) else -(-z / (n : Int))) * n < n ∧ ((z - (if 0 ≤ z then z / (n : Int) else -(-z / (n : Int))) * n = z ∧ -(n : Int) < z ∧ z < n) ∨ (z - (if 0 ≤ z then z / (n : Int) else -(-z / (n : Int))) * n = 0 ∧ z = -(n : Int)) ∨ (z - (if 0 ≤ z then z / (n : Int) else -(-z / (n : Int))) * n = z - n ∧ (n : Int) ≤ z))) h0 hn ?_ ?_ ?_ ?_ ?_ ?_ ?_ ?_ ?_ ?_ <;> intro h1 h2 <;> split <;> omega
  obtain ⟨b1, b2, b3⟩ := hb
  have e3 := xOn (n := n) e1 h0 hn (by omega) (by omega)
  rw [e3]
  congr 1
  unfold xWr
  rcases b3 with ⟨h, h3, h4⟩ | ⟨h, h3⟩ | ⟨h, h3⟩
  · rw [h]
  · rw [h, h3, if_neg (by omega), if_pos (by omega), if_pos (by omega)]
    omega
  · rw [h, if_neg (by omega), if_pos (by omega), if_neg (by omega), if_neg (by omega)]
theorem xFm_at {n : Nat} {x : Int32} (h0 : 3 ≤ n) (hn : n ≤ 12) : (x - x / nI n * nI n + nI n) - (x - x / nI n * nI n + nI n) / nI n * nI n = xFm x n := by
  obtain ⟨z, hz⟩ : ∃ z : Int, x.toInt = z := ⟨_, rfl⟩
  have e1 := xremI hz (nI_toInt (n := n) (by omega)) (by omega)
  obtain ⟨w, ew⟩ : ∃ w : Int, w = z - z.tdiv n * n := ⟨_, rfl⟩
  have hb : -(n : Int) < w ∧ w < n ∧ w % (n : Int) = z % (n : Int) := by
    rw [ew, xtdiv_n h0 hn]
    refine xn_cases (P := fun n : Nat => -(n : Int) < z - (if 0 ≤ z then z / (n : Int) else -(-z / (n : Int))) * n ∧ z - (if 0 ≤ z then z / (n : Int) else -(-z / (n : Int))) * n < n ∧ (z - (if 0 ≤ z then z / (n : Int) else -(-z / (n : Int))) * n) % (n : Int) = z % (n : Int)) h0 hn ?_ ?_ ?_ ?_ ?_ ?_ ?_ ?_ ?_ ?_ <;> split <;> omega
  rw [← ew] at e1
  obtain ⟨b1, b2, b3⟩ := hb
  apply xI_ext
  have e2 := xaddI e1 (nI_toInt (n := n) (by omega)) (by omega) (by omega)
  rw [xremI e2 (nI_toInt (n := n) (by omega)) (by omega), xFm_toInt h0 hn, hz, ← b3, Int.tdiv_eq_ediv_of_nonneg (by omega)]
  clear e1 e2 ew b3 hz
  revert b1 b2
  refine xn_cases (P := fun n : Nat => -(n : Int) < w → w < n → w + (n : Int) - (w + n) / n * n = w % (n : Int)) h0 hn ?_ ?_ ?_ ?_ ?_ ?_ ?_ ?_ ?_ ?_ <;> intro b1 b2 <;> omega
theorem xMm_at {n : Nat} {f : xRow} {k : Nat} (hk : k = n) (h0 : 3 ≤ n) (hn : n ≤ 12) : (xMom f k - xMom f k / nI n * nI n + nI n) - (xMom f k - xMom f k / nI n * nI n + nI n) / nI n * nI n = xMm n f := by
  subst hk
  exact xFm_at h0 hn
theorem xMom_s {f : xRow} {k : Nat} : xMom f k + nI k * f k = xMom f (k + 1) := by
  show _ = xMom f k + f k * nI k
  rw [Int32.mul_comm]
/-- the greatest of the first k, from the smallest number up -/
def xHf (G : Nat → Int32) : Nat → Int32
  | 0 => -2147483648
  | k + 1 => if xHf G k < G k then G k else xHf G k
theorem xHf_hi (G : Nat → Int32) : ∀ k, xHf G (k + 1) = xHi G k
  | 0 => by
    show (if (-2147483648 : Int32) < G 0 then G 0 else -2147483648) = G 0
    by_cases h : (-2147483648 : Int32) < G 0
    · exact if_pos h
    · rw [if_neg h]
      apply xI_ext
      rw [Int32.lt_iff_toInt_lt] at h
      have h1 := fb_rng (G 0)
      have h2 : (-2147483648 : Int32).toInt = -2147483648 := by decide
      omega
  | k + 1 => by
    show (if xHf G (k + 1) < G (k + 1) then G (k + 1) else xHf G (k + 1)) = if xHi G k < G (k + 1) then G (k + 1) else xHi G k
    rw [xHf_hi G k]
theorem xSpn_at {n k : Nat} {f : xRow} (hk : k = n) (h0 : 3 ≤ n) : xHf f k - xMf f k = xSpn n f := by
  subst hk
  obtain ⟨m, rfl⟩ : ∃ m, k = m + 1 := ⟨k - 1, by omega⟩
  unfold xSpn
  rw [xHf_hi, xMf_lo, Nat.add_sub_cancel, xTop_hi f m]
/-! tips to a target, by differences of neighbours -/
def xLs (f g : xRow) : Nat → Int32
  | 0 => 0
  | p + 1 => xLs f g p + f (p + 1) - g (p + 1)
def xAl (f g : xRow) : Nat → Int32
  | 0 => 0
  | k + 1 => xAl f g k + xLs f g (k + 1)
def xMd (n : Nat) (f g : xRow) : Nat → Int32
  | 0 => 0
  | p + 1 => xMd n f g p + xAl f g (n - 1) / nI n - xLs f g p
theorem xOth_al {f g : xRow} : ∀ k : Nat, ∀ n : Nat, k < n → -(xOth n f g k) = xAl f g k + xLs f g k * nI (n - 1 - k)
  | 0, n, _ => by
    show -(0 : Int32) = 0 + 0 * nI (n - 1 - 0)
    rw [Int32.zero_mul]; rfl
  | k + 1, n, h => by
    have ih := xOth_al (f := f) (g := g) k n (by omega)
    have e1 : nI (n - 1 - k) = nI (n - 1 - (k + 1)) + 1 := by
      rw [show n - 1 - k = (n - 1 - (k + 1)) + 1 by omega]
      exact (nI_add _ 1).symm
    have e2 : nI (n - (k + 1)) = nI (n - 1 - (k + 1)) + 1 := by
      rw [show n - (k + 1) = (n - 1 - (k + 1)) + 1 by omega]
      exact (nI_add _ 1).symm
    rw [e1] at ih
    show -(xOth n f g k + (g (k + 1) - f (k + 1)) * nI (n - (k + 1))) = xAl f g k + (xLs f g k + f (k + 1) - g (k + 1)) + (xLs f g k + f (k + 1) - g (k + 1)) * nI (n - 1 - (k + 1))
    rw [e2]
    grind
theorem xFC_al {n : Nat} {f g : xRow} (h0 : 3 ≤ n) : xFC n f g = xAl f g (n - 1) / nI n := by
  have h := xOth_al (f := f) (g := g) (n - 1) n (by omega)
  rw [show n - 1 - (n - 1) = 0 by omega, show nI 0 = (0 : Int32) from rfl, Int32.mul_zero, Int32.add_zero] at h
  unfold xFC
  rw [h]
theorem xCl_ls {n : Nat} {f g : xRow} : ∀ p : Nat, xCl n f g (p + 1) = xFC n f g - xLs f g p
  | 0 => by
    show xFC n f g + (if 0 = 0 then (0 : Int32) else _) = xFC n f g - 0
    rw [if_pos rfl, Int32.add_zero, Int32.sub_zero]
  | p + 1 => by
    have h := xCl_ls (n := n) (f := f) (g := g) p
    show xCl n f g (p + 1) + (if p + 1 = 0 then (0 : Int32) else g (p + 1) - f (p + 1)) = xFC n f g - (xLs f g p + f (p + 1) - g (p + 1))
    rw [if_neg (by omega), h]
    grind
theorem xMd_ht {n : Nat} {f g : xRow} (h0 : 3 ≤ n) : ∀ p : Nat, xMd n f g p = xHt n f g p
  | 0 => rfl
  | p + 1 => by
    show xMd n f g p + xAl f g (n - 1) / nI n - xLs f g p = xHt n f g p + xCl n f g (p + 1)
    rw [xMd_ht h0 p, xCl_ls, ← xFC_al h0]
    grind
/-! the rows of targets as a stretch of the world -/
def xTs (γ : xG) (ta : Nat → Nat) (n : Nat) (ks : Nat → xRow) (kc : Nat) : va_W := (List.range kc).map (fun t => xA γ (ta t) n (ks t))
theorem xTs_at {γ : xG} {ta : Nat → Nat} {n : Nat} {ks : Nat → xRow} {kc t : Nat} (h : t < kc) : (xTs γ ta n ks kc)[t]? = some (xA γ (ta t) n (ks t)) := by
  unfold xTs
  rw [List.getElem?_map, List.getElem?_range h]
  rfl
theorem xTs_len {γ : xG} {ta : Nat → Nat} {n : Nat} {ks : Nat → xRow} {kc : Nat} : (xTs γ ta n ks kc).length = kc := by
  unfold xTs
  rw [List.length_map, List.length_range]
theorem xTs_r {γ : xG} {base : va_W} {ta : Nat → Nat} {n : Nat} {ks : Nat → xRow} {kc t nb : Nat} (hb : base.length = nb) (h : t < kc) : (base ++ xTs γ ta n ks kc)[nb + t]? = some (xA γ (ta t) n (ks t)) := by
  subst hb
  rw [List.getElem?_append_right (by omega), Nat.add_sub_cancel_left]
  exact xTs_at h
theorem xTs_r2 {γ : xG} {C base : va_W} {ta : Nat → Nat} {n : Nat} {ks : Nat → xRow} {kc t nb nc : Nat} (hc : C.length = nc) (hb : nc + base.length = nb) (h : t < kc) : (C ++ (base ++ xTs γ ta n ks kc))[nb + t]? = some (xA γ (ta t) n (ks t)) := by
  subst hc; subst hb
  rw [List.getElem?_append_right (by omega), show C.length + base.length + t - C.length = base.length + t by omega]
  exact xTs_r rfl h
theorem xTs_new {γ : xG} {ta : Nat → Nat} {n : Nat} {ks : Nat → xRow} {kc a : Nat} {f : xRow} : xTs γ ta n ks kc ++ [xA γ a n f] = xTs γ (fun t => if t = kc then a else ta t) n (fun t => if t = kc then f else ks t) (kc + 1) := by
  unfold xTs
  rw [List.range_succ, List.map_append]
  congr 1
  · refine List.map_congr_left (fun t ht => ?_)
    have h : t < kc := List.mem_range.mp ht
    show xA γ (ta t) n (ks t) = xA γ (if t = kc then a else ta t) n (if t = kc then f else ks t)
    rw [if_neg (show ¬ t = kc by omega), if_neg (show ¬ t = kc by omega)]
  · show [xA γ a n f] = [xA γ (if kc = kc then a else ta kc) n (if kc = kc then f else ks kc)]
    rw [if_pos rfl, if_pos rfl]
theorem xKp_o2 {γ : xG} {kq ka : Nat → Nat} {kn : Nat → Int32} {ks : Nat → xRow} {base R9 : va_W} {nb t : Nat} {v : Int32} (hb : base.length = nb) (ht : t < 6) (hv : kn t = v) : ((base ++ xKp γ kq ka kn ks) ++ R9)[nb + 2 * t]? = some (xO (kq t) 0 [.ref (ka t), .int v]) := by
  rw [List.getElem?_append_left (by rw [List.length_append, hb]; show nb + 2 * t < nb + 12; omega)]
  exact xKp_o hb ht hv
theorem xKp_r2 {γ : xG} {kq ka : Nat → Nat} {kn : Nat → Int32} {ks : Nat → xRow} {base R9 : va_W} {nb t : Nat} (hb : base.length = nb) (ht : t < 6) : ((base ++ xKp γ kq ka kn ks) ++ R9)[nb + 2 * t + 1]? = some (xA γ (ka t) 12 (ks t)) := by
  rw [List.getElem?_append_left (by rw [List.length_append, hb]; show nb + 2 * t + 1 < nb + 12; omega)]
  exact xKp_r hb ht
theorem xup_1 {W0 : va_W} {i : Nat} {a : Nat × va_E} {is : List Nat} {w : va_W} (h1 : W0[i]? = some a) : xup W0 (i :: is) (a :: w) = xup W0 is w := by
  show xup (W0.set i a) is w = xup W0 is w
  rw [xset_same h1]
/-! a world in another order -/
theorem xP_of {γ : xG} {W1 W2 : va_W} {H : Heap} (h : ∀ q ∈ W2, q ∈ W1) (hP : xP γ W1 H) : xP γ W2 H := fun k q hq => by
  obtain ⟨i, hi⟩ := List.getElem?_of_mem (h q (List.mem_of_getElem? hq))
  exact hP i q hi
theorem xD_nd {A : Nat → Prop} {ws : va_W} : va_D A ws ↔ (ws.map Prod.fst).Nodup ∧ ∀ q ∈ ws, A q.1 := by
  constructor
  · intro h
    refine ⟨?_, fun q hq => ?_⟩
    · show List.Pairwise (· ≠ ·) (ws.map Prod.fst)
      rw [List.pairwise_iff_getElem]
      intro i j hi hj hij heq
      have hi' : i < ws.length := by simpa using hi
      have hj' : j < ws.length := by simpa using hj
      rw [List.getElem_map, List.getElem_map] at heq
      have := h.1 i j _ _ (List.getElem?_eq_getElem hi') (List.getElem?_eq_getElem hj') heq
      omega
    · obtain ⟨i, hi⟩ := List.getElem?_of_mem hq
      exact h.2 i q hi
  · intro h
    refine ⟨fun i j p q hp hq hpq => ?_, fun k q hq => h.2 q (List.mem_of_getElem? hq)⟩
    have hi : i < ws.length := (List.getElem?_eq_some_iff.mp hp).1
    have hj : j < ws.length := (List.getElem?_eq_some_iff.mp hq).1
    have h1 : List.Pairwise (· ≠ ·) (ws.map Prod.fst) := h.1
    rw [List.pairwise_iff_getElem] at h1
    have hi2 : i < (ws.map Prod.fst).length := by simpa using hi
    have hj2 : j < (ws.map Prod.fst).length := by simpa using hj
    have e : (ws.map Prod.fst)[i] = (ws.map Prod.fst)[j] := by
      rw [List.getElem_map, List.getElem_map, (List.getElem?_eq_some_iff.mp hp).2, (List.getElem?_eq_some_iff.mp hq).2]
      exact hpq
    rcases Nat.lt_trichotomy i j with h2 | h2 | h2
    · exact absurd e (h1 i j hi2 hj2 h2)
    · exact h2
    · exact absurd e.symm (h1 j i hj2 hi2 h2)
theorem xD_perm {A : Nat → Prop} {W1 W2 : va_W} (h : W1.Perm W2) (hD : va_D A W1) : va_D A W2 := by
  rw [xD_nd] at hD ⊢
  exact ⟨(h.map Prod.fst).nodup_iff.mp hD.1, fun q hq => hD.2 q (h.mem_iff.mpr hq)⟩
theorem xP_perm {γ : xG} {W1 W2 : va_W} {H : Heap} (h : W1.Perm W2) (hP : xP γ W1 H) : xP γ W2 H := xP_of (fun _ hq => h.mem_iff.mpr hq) hP
theorem xmv_perm (E T N : va_W) : ((E ++ T) ++ N).Perm ((E ++ N) ++ T) := by
  rw [List.append_assoc, List.append_assoc]
  exact List.Perm.append_left E List.perm_append_comm
theorem xmvP {γ : xG} {E T N : va_W} {H : Heap} (hP : xP γ ((E ++ T) ++ N) H) : xP γ ((E ++ N) ++ T) H := xP_perm (xmv_perm E T N) hP
theorem xmvD {A : Nat → Prop} {E T N : va_W} (hD : va_D A ((E ++ T) ++ N)) : va_D A ((E ++ N) ++ T) := xD_perm (xmv_perm E T N) hD
theorem xmv_perm2 (C E T N : va_W) : ((C ++ (E ++ T)) ++ N).Perm (C ++ ((E ++ N) ++ T)) := by
  rw [List.append_assoc]
  exact List.Perm.append_left C (xmv_perm E T N)
theorem xmvP2 {γ : xG} {C E T N : va_W} {H : Heap} (hP : xP γ ((C ++ (E ++ T)) ++ N) H) : xP γ (C ++ ((E ++ N) ++ T)) H := xP_perm (xmv_perm2 C E T N) hP
theorem xmvD2 {A : Nat → Prop} {C E T N : va_W} (hD : va_D A ((C ++ (E ++ T)) ++ N)) : va_D A (C ++ ((E ++ N) ++ T)) := xD_perm (xmv_perm2 C E T N) hD
/-- the law's cells by some of them, in another order -/
theorem xre {A : Nat → Prop} {γ : xG} {C E E2 T : va_W} {H : Heap} (is : List Nat) (hnd : va_nd is = true) (h : is.map (fun i => E[i]?) = E2.map some) (hP : xP γ (C ++ (E ++ T)) H) (hD : va_D A (C ++ (E ++ T))) : xP γ (C ++ (E2 ++ T)) H ∧ va_D A (C ++ (E2 ++ T)) := by
  have hm : ∀ q ∈ E2, q ∈ E := fun q hq => by
    obtain ⟨j, hj⟩ := List.getElem?_of_mem hq
    have h1 : (is.map (fun i => E[i]?))[j]? = some (some q) := by rw [h, List.getElem?_map, hj]; rfl
    rw [List.getElem?_map] at h1
    cases hi : is[j]? with
    | none => rw [hi] at h1; cases h1
    | some i => rw [hi] at h1; exact List.mem_of_getElem? (Option.some.inj h1)
  have hm2 : ∀ q ∈ C ++ (E2 ++ T), q ∈ C ++ (E ++ T) := fun q hq => by
    rw [List.mem_append, List.mem_append] at hq ⊢
    rcases hq with h9 | h9 | h9
    · exact Or.inl h9
    · exact Or.inr (Or.inl (hm q h9))
    · exact Or.inr (Or.inr h9)
  refine ⟨xP_of hm2 hP, ?_⟩
  have hE : va_D (fun _ => True) E2 := by
    have h0 : va_D (fun _ => True) E := by
      rw [xD_nd] at hD ⊢
      refine ⟨?_, fun _ _ => trivial⟩
      have h2 := hD.1
      rw [List.map_append, List.map_append] at h2
      exact (List.nodup_append.mp (List.nodup_append.mp h2).2.1).1
    exact h0.sub is hnd h
  rw [xD_nd] at hD hE ⊢
  refine ⟨?_, fun q hq => hD.2 q (hm2 q hq)⟩
  have h2 := hD.1
  rw [List.map_append, List.map_append, List.nodup_append, List.nodup_append] at h2 ⊢
  obtain ⟨c1, ⟨c2, c3, c4⟩, c5⟩ := h2
  have hmf : ∀ a ∈ E2.map Prod.fst, a ∈ E.map Prod.fst := fun a ha => by
    obtain ⟨q, h1, h3⟩ := List.mem_map.mp ha
    exact List.mem_map.mpr ⟨q, hm q h1, h3⟩
  refine ⟨c1, ⟨hE.1, c3, fun a ha b hb => c4 a (hmf a ha) b hb⟩, fun a ha b hb => c5 a ha b ?_⟩
  rw [List.mem_append] at hb ⊢
  rcases hb with h9 | h9
  · exact Or.inl (hmf b h9)
  · exact Or.inr h9
theorem xreT {A : Nat → Prop} {γ : xG} {E E2 T : va_W} {H : Heap} (is : List Nat) (hnd : va_nd is = true) (h : is.map (fun i => E[i]?) = E2.map some) (hP : xP γ (E ++ T) H) (hD : va_D A (E ++ T)) : xP γ (E2 ++ T) H ∧ va_D A (E2 ++ T) := xre (C := []) is hnd h hP hD
abbrev xBn (n : Nat) (f : xRow) (p : Nat) : Int32 := 2 * f p - f (xWr n ((p : Int) + 1)) - f (xWr n ((p : Int) - 1))
theorem xT_row {γ : xG} {W0 : va_W} {H : Heap} (hP : xP γ W0 H) (i : Nat) {q n : Nat} {f : Nat → Option Nat} (hi : W0[i]? = some (xT γ q n f)) (g : Nat → Option Nat) (h : ∀ j, j < n → f j = g j) : xP γ (W0.set i (xT γ q n g)) H := by
  intro k z hz
  by_cases e : i = k
  · subst e
    have hlt : i < W0.length := (List.getElem?_eq_some_iff.mp hi).1
    rw [List.getElem?_set_self hlt] at hz
    cases hz
    have h1 : H[q]? = some (vp_cell γ.2.2.2.1 (n, .inr (.inr (.inr (.inr f))))) := hP i _ hi
    show H[q]? = some (vp_cell γ.2.2.2.1 (n, .inr (.inr (.inr (.inr g)))))
    have e2 : (fun j : Fin n => va_rf (f j.val)) = fun j : Fin n => va_rf (g j.val) := by
      funext j
      rw [h j.val j.isLt]
    rw [h1]
    show some (arrV _ n (fun j => va_rf (f j))) = some (arrV _ n (fun j => va_rf (g j)))
    unfold arrV
    rw [e2]
  · rw [List.getElem?_set_ne e] at hz
    exact hP k z hz
/-! a row that is sorted in place, and its middle -/
def iS (φ : Int32 → Nat) (u : xRow) : Nat → Nat
  | 0 => 0
  | k + 1 => iS φ u k + φ (u k)
theorem iS_congr {φ : Int32 → Nat} {u v : xRow} : ∀ {n : Nat}, (∀ i, i < n → u i = v i) → iS φ u n = iS φ v n
  | 0, _ => rfl
  | k + 1, h => by
    show iS φ u k + φ (u k) = iS φ v k + φ (v k)
    rw [iS_congr (fun i hi => h i (by omega)), h k (by omega)]
theorem iS_upd {φ : Int32 → Nat} {u : xRow} {a : Nat} {x : Int32} : ∀ {n : Nat}, a < n → iS φ (upd u a x) n + φ (u a) = iS φ u n + φ x
  | 0, h => absurd h (Nat.not_lt_zero a)
  | k + 1, h => by
    show iS φ (upd u a x) k + φ (upd u a x k) + φ (u a) = iS φ u k + φ (u k) + φ x
    by_cases e : k = a
    · subst e
      have e1 : iS φ (upd u k x) k = iS φ u k := iS_congr (fun i hi => by unfold upd; rw [if_neg (by omega)])
      have e2 : upd u k x k = x := by unfold upd; rw [if_pos rfl]
      rw [e1, e2]
      omega
    · have ih := iS_upd (φ := φ) (u := u) (a := a) (x := x) (n := k) (by omega)
      have e2 : upd u a x k = u k := by unfold upd; rw [if_neg e]
      rw [e2]
      omega
def xPm (n : Nat) (u h : xRow) : Prop := ∀ φ : Int32 → Nat, iS φ u n = iS φ h n
def xSrt (u : xRow) (k : Nat) : Prop := ∀ i j, i < j → j < k → (u i).toInt ≤ (u j).toInt
theorem xSrt_1 {u : xRow} : xSrt u (0 + 1) := fun i j h1 h2 => by omega
/-- while a number is moved down to its place: the place a is free -/
def xIn (n : Nat) (v h : xRow) (k a : Nat) (x : Int32) : Prop := xPm n (upd v a x) h ∧ (∀ i j, i < j → j ≤ k → i ≠ a → j ≠ a → (v i).toInt ≤ (v j).toInt) ∧ (∀ j, a < j → j ≤ k → x.toInt ≤ (v j).toInt) ∧ a ≤ k
def xEx (v : xRow) (a : Nat) (x : Int32) : Prop := ∀ i, i + 1 = a → (v i).toInt ≤ x.toInt
theorem xEx_0 {v : xRow} {x : Int32} : xEx v 0 x := fun i h => by omega
theorem xEx_s {v : xRow} {j : Nat} {x : Int32} (h : v j ≤ x) : xEx v (j + 1) x := fun i hi => by
  rw [show i = j by omega]
  exact Int32.le_iff_toInt_le.mp h
theorem xIn_pm {n k a : Nat} {v h : xRow} {x : Int32} (H : xIn n v h k a x) : xPm n (upd v a x) h := H.1
theorem xIn_0 {n k : Nat} {u h : xRow} (h1 : xPm n u h) (h2 : xSrt u k) (hk : k < n) : xIn n u h k k (u k) := by
  refine ⟨?_, fun i j hij hj hi hjk => h2 i j hij (by omega), fun j h3 h4 => by omega, Nat.le_refl k⟩
  have e : upd u k (u k) = u := by
    funext i
    unfold upd
    split
    · rename_i e; rw [e]
    · rfl
  rw [e]
  exact h1
theorem xIn_s {n k j : Nat} {v h : xRow} {x : Int32} (H : xIn n v h k (j + 1) x) (c : ¬ v j ≤ x) (hn : j + 1 < n) : xIn n (upd v (j + 1) (v j)) h k j x := by
  obtain ⟨h1, h2, h3, h4⟩ := H
  have hc : x.toInt < (v j).toInt := by
    rw [Int32.le_iff_toInt_le] at c
    omega
  have e1 : upd v (j + 1) (v j) (j + 1) = v j := by unfold upd; rw [if_pos rfl]
  have e0 : ∀ i, i ≠ j + 1 → upd v (j + 1) (v j) i = v i := fun i hi => by unfold upd; rw [if_neg hi]
  refine ⟨fun φ => ?_, fun p q hpq hq hp hqj => ?_, fun q hq hqk => ?_, by omega⟩
  · have a1 := h1 φ
    have a2 := iS_upd (φ := φ) (u := upd v (j + 1) (v j)) (a := j) (x := x) (n := n) (by omega)
    have a3 := iS_upd (φ := φ) (u := v) (a := j + 1) (x := v j) (n := n) (by omega)
    have a4 := iS_upd (φ := φ) (u := v) (a := j + 1) (x := x) (n := n) (by omega)
    rw [e0 j (by omega)] at a2
    omega
  · by_cases c1 : p = j + 1
    · rw [c1, e1, e0 q (by omega)]
      exact h2 j q (by omega) hq (by omega) (by omega)
    · rw [e0 p c1]
      by_cases c2 : q = j + 1
      · rw [c2, e1]
        exact h2 p j (by omega) (by omega) (by omega) (by omega)
      · rw [e0 q c2]
        exact h2 p q hpq hq c1 c2
  · by_cases c2 : q = j + 1
    · rw [c2, e1]
      omega
    · rw [e0 q c2]
      exact h3 q (by omega) hqk
theorem xIn_srt {n k a : Nat} {v h : xRow} {x : Int32} (H : xIn n v h k a x) (hx : xEx v a x) : xSrt (upd v a x) (k + 1) := by
  obtain ⟨h1, h2, h3, h4⟩ := H
  have e1 : upd v a x a = x := by unfold upd; rw [if_pos rfl]
  have e0 : ∀ i, i ≠ a → upd v a x i = v i := fun i hi => by unfold upd; rw [if_neg hi]
  intro i j hij hj
  by_cases c1 : i = a
  · rw [c1, e1, e0 j (by omega)]
    exact h3 j (by omega) (by omega)
  · rw [e0 i c1]
    by_cases c2 : j = a
    · rw [c2, e1]
      by_cases c3 : i + 1 = a
      · exact hx i c3
      · have b1 := hx (a - 1) (by omega)
        have b2 := h2 i (a - 1) (by omega) (by omega) c1 (by omega)
        omega
    · rw [e0 j c2]
      exact h2 i j hij (by omega) c1 c2
/-- how far a row's numbers are from x, in all -/
def iD (u : xRow) (x : Int) : Nat → Int
  | 0 => 0
  | k + 1 => iD u x k + (((u k).toInt - x).natAbs : Int)
theorem iD_iS {u : xRow} {x : Int} : ∀ k : Nat, iD u x k = (iS (fun y => (y.toInt - x).natAbs) u k : Int)
  | 0 => rfl
  | k + 1 => by
    show iD u x k + _ = ((iS _ u k + _ : Nat) : Int)
    rw [iD_iS k, Int.natCast_add]
theorem iD_pm {n : Nat} {u h : xRow} (H : xPm n u h) (x : Int) : iD u x n = iD h x n := by
  rw [iD_iS, iD_iS, H]
theorem xAbs_nat {y : Int32} (h : -2147483648 < y.toInt) : (xAbs y).toInt = (y.toInt.natAbs : Int) := by
  unfold xAbs
  have := fb_rng y
  by_cases h0 : 0 ≤ y
  · rw [if_pos h0]
    rw [Int32.le_iff_toInt_le, Int32.toInt_zero] at h0
    omega
  · rw [if_neg h0]
    rw [Int32.le_iff_toInt_le, Int32.toInt_zero] at h0
    rw [xsubI (x := 0) (y := y) Int32.toInt_zero rfl (by omega) (by omega)]
    omega
theorem xAw_D {h : xRow} {x : Int32} {n : Nat} (hn : n ≤ 12) (hb : ∀ i, i < n → -80000000 ≤ (h i).toInt ∧ (h i).toInt ≤ 80000000) (hx : -80000000 ≤ x.toInt ∧ x.toInt ≤ 80000000) : ∀ k, k ≤ n → (xAw h x k).toInt = iD h x.toInt k ∧ 0 ≤ iD h x.toInt k ∧ iD h x.toInt k ≤ 160000000 * (k : Int)
  | 0, _ => ⟨rfl, by show (0 : Int) ≤ 0; decide, by show (0 : Int) ≤ 160000000 * ((0 : Nat) : Int); decide⟩
  | k + 1, hk => by
    obtain ⟨h1, h2, h3⟩ := xAw_D hn hb hx k (by omega)
    have h4 := hb k (by omega)
    have e1 : (h k - x).toInt = (h k).toInt - x.toInt := xsubI rfl rfl (by omega) (by omega)
    have e2 : (xAbs (h k - x)).toInt = (((h k).toInt - x.toInt).natAbs : Int) := by rw [xAbs_nat (by omega), e1]
    have e3 : iD h x.toInt (k + 1) = iD h x.toInt k + (((h k).toInt - x.toInt).natAbs : Int) := rfl
    have e4 : xAw h x (k + 1) = xAw h x k + xAbs (h k - x) := rfl
    rw [e3, e4]
    refine ⟨xaddI h1 e2 (by omega) (by omega), by omega, by omega⟩
/-- of a sorted row, no number is nearer to all than the middle one -/
def iWt (m : Nat) : Nat → Int
  | 0 => 0
  | k + 1 => iWt m k + if k ≤ m then 1 else -1
def iWu (m : Nat) : Nat → Int
  | 0 => 0
  | k + 1 => iWu m k + if m ≤ k then 1 else -1
theorem iWt_v (m : Nat) : ∀ k : Nat, iWt m k = if k ≤ m + 1 then (k : Int) else 2 * ((m : Int) + 1) - k
  | 0 => by show (0 : Int) = _; rw [if_pos (by omega)]; rfl
  | k + 1 => by
    show iWt m k + (if k ≤ m then 1 else -1) = _
    rw [iWt_v m k]
    split <;> split <;> split <;> omega
theorem iWu_v (m : Nat) : ∀ k : Nat, iWu m k = if k ≤ m then -(k : Int) else (k : Int) - 2 * (m : Int)
  | 0 => by show (0 : Int) = _; rw [if_pos (by omega)]; rfl
  | k + 1 => by
    show iWu m k + (if m ≤ k then 1 else -1) = _
    rw [iWu_v m k]
    split <;> split <;> split <;> omega
theorem iD_t {u : xRow} {n m : Nat} (hs : xSrt u n) (hm : m < n) {x d : Int} (hd : 0 ≤ d) (hx : x = (u m).toInt + d) : ∀ k, k ≤ n → iD u (u m).toInt k + d * iWt m k ≤ iD u x k
  | 0, _ => by show (0 : Int) + d * 0 ≤ 0; omega
  | k + 1, hk => by
    have ih := iD_t hs hm hd hx k (by omega)
    show iD u (u m).toInt k + (((u k).toInt - (u m).toInt).natAbs : Int) + d * (iWt m k + if k ≤ m then 1 else -1) ≤ iD u x k + (((u k).toInt - x).natAbs : Int)
    rw [Int.mul_add]
    by_cases c : k ≤ m
    · rw [if_pos c, Int.mul_one]
      have hkm : (u k).toInt ≤ (u m).toInt := by
        rcases Nat.lt_or_eq_of_le c with h | h
        · exact hs k m h hm
        · rw [h]; exact Int.le_refl _
      omega
    · rw [if_neg c, Int.mul_neg, Int.mul_one]
      omega
theorem iD_u {u : xRow} {n m : Nat} (hs : xSrt u n) (hm : m < n) {x d : Int} (hd : 0 ≤ d) (hx : x = (u m).toInt - d) : ∀ k, k ≤ n → iD u (u m).toInt k + d * iWu m k ≤ iD u x k
  | 0, _ => by show (0 : Int) + d * 0 ≤ 0; omega
  | k + 1, hk => by
    have ih := iD_u hs hm hd hx k (by omega)
    show iD u (u m).toInt k + (((u k).toInt - (u m).toInt).natAbs : Int) + d * (iWu m k + if m ≤ k then 1 else -1) ≤ iD u x k + (((u k).toInt - x).natAbs : Int)
    rw [Int.mul_add]
    by_cases c : m ≤ k
    · rw [if_pos c, Int.mul_one]
      have hkm : (u m).toInt ≤ (u k).toInt := by
        rcases Nat.lt_or_eq_of_le c with h | h
        · exact hs m k h (by omega)
        · rw [h]; exact Int.le_refl _
      omega
    · rw [if_neg c, Int.mul_neg, Int.mul_one]
      omega
theorem iD_med {u : xRow} {n : Nat} (h0 : 0 < n) (hs : xSrt u n) (x : Int) : iD u (u (n / 2)).toInt n ≤ iD u x n := by
  have hm : n / 2 < n := by omega
  rcases Int.le_total (u (n / 2)).toInt x with h | h
  · have h1 := iD_t hs hm (x := x) (d := x - (u (n / 2)).toInt) (by omega) (by omega) n (Nat.le_refl n)
    have h2 : 0 ≤ (x - (u (n / 2)).toInt) * iWt (n / 2) n := Int.mul_nonneg (by omega) (by rw [iWt_v]; split <;> omega)
    omega
  · have h1 := iD_u hs hm (x := x) (d := (u (n / 2)).toInt - x) (by omega) (by omega) n (Nat.le_refl n)
    have h2 : 0 ≤ ((u (n / 2)).toInt - x) * iWu (n / 2) n := Int.mul_nonneg (by omega) (by rw [iWu_v]; split <;> omega)
    omega
theorem xPm_in {n : Nat} {u h : xRow} (H : xPm n u h) {i : Nat} (hi : i < n) : ∃ p, p < n ∧ h p = u i := by
  have key : ∀ (w : xRow) (k : Nat) (y : Int32), iS (fun z => if z = y then 1 else 0) w k = 0 → ∀ p, p < k → w p ≠ y := by
    intro w k y
    induction k with
    | zero => exact fun _ p hp => absurd hp (Nat.not_lt_zero p)
    | succ k ih =>
      intro h9 p hp
      have h8 : iS (fun z => if z = y then 1 else 0) w k + (if w k = y then 1 else 0) = 0 := h9
      by_cases e : p = k
      · subst e
        intro e2
        rw [if_pos e2] at h8
        omega
      · exact ih (by omega) p (by omega)
  apply Classical.byContradiction
  intro hno
  have h0 : ∀ (k : Nat), k ≤ n → iS (fun z => if z = u i then 1 else 0) h k = 0 := by
    intro k
    induction k with
    | zero => exact fun _ => rfl
    | succ k ih =>
      intro hk
      show iS _ h k + (if h k = u i then 1 else 0) = 0
      rw [ih (by omega), if_neg (fun e => hno ⟨k, by omega, e⟩)]
  have h1 := H (fun z => if z = u i then 1 else 0)
  rw [h0 n (Nat.le_refl n)] at h1
  exact key u n (u i) h1 i hi rfl
theorem xLo_le (G : Nat → Int32) : ∀ k i, i ≤ k → (xLo G k).toInt ≤ (G i).toInt
  | 0, i, h => by rw [show i = 0 by omega]; exact Int.le_refl _
  | k + 1, i, h => by
    show (if G (k + 1) < xLo G k then G (k + 1) else xLo G k).toInt ≤ _
    by_cases c : G (k + 1) < xLo G k
    · rw [if_pos c]
      rw [Int32.lt_iff_toInt_lt] at c
      by_cases e : i = k + 1
      · rw [e]; exact Int.le_refl _
      · have := xLo_le G k i (by omega)
        omega
    · rw [if_neg c]
      rw [Int32.lt_iff_toInt_lt] at c
      by_cases e : i = k + 1
      · rw [e]; omega
      · exact xLo_le G k i (by omega)
theorem xMed {n : Nat} {u h : xRow} (h0 : 3 ≤ n) (hn : n ≤ 12) (hp : xPm n u h) (hs : xSrt u n) (hb : ∀ i, i < n → -80000000 ≤ (h i).toInt ∧ (h i).toInt ≤ 80000000) : xAw u (u (n / 2)) n = xFw n h := by
  have hbu : ∀ i, i < n → -80000000 ≤ (u i).toInt ∧ (u i).toInt ≤ 80000000 := fun i hi => by
    obtain ⟨p, hp1, hp2⟩ := xPm_in hp hi
    rw [← hp2]
    exact hb p hp1
  obtain ⟨p, hp1, hp2⟩ := xPm_in hp (i := n / 2) (by omega)
  have e1 := (xAw_D hn hbu (hbu (n / 2) (by omega)) n (Nat.le_refl n)).1
  unfold xFw
  obtain ⟨i, hi, e⟩ := xLo_is (fun p => xAw h (h p) n) (n - 1)
  have e2 := (xAw_D hn hb (hb i (by omega)) n (Nat.le_refl n)).1
  have e3 := (xAw_D hn hb (hb p hp1) n (Nat.le_refl n)).1
  have h1 := xLo_le (fun p => xAw h (h p) n) (n - 1) p (by omega)
  rw [e] at h1 ⊢
  apply xI_ext
  have h2 := iD_med (by omega) hs (h i).toInt
  have h3 := iD_pm hp (u (n / 2)).toInt
  have h4 := iD_pm hp (h i).toInt
  have h5 : (xAw h (h i) n).toInt ≤ (xAw h (h p) n).toInt := h1
  show (xAw u (u (n / 2)) n).toInt = (xAw h (h i) n).toInt
  rw [hp2] at e3 h5
  omega
theorem xHt_bd {n : Nat} {f g : xRow} (h0 : 3 ≤ n) (hn : n ≤ 12) (hf : xBd f) (hg : xBd g) (hcb : xCB n f g = true) : ∀ i, i < n → -80000000 ≤ (xHt n f g i).toInt ∧ (xHt n f g i).toInt ≤ 80000000 := by
  obtain ⟨hT, ho⟩ := (xCB_iff h0 hn hf hg).mp hcb
  obtain ⟨t1, t2⟩ := itm h0 hn (iO n (xZ f) (xZ g) (n - 1))
  have hc := t2 ho
  have hc0 := xFC_I h0 hn hf hg
  obtain ⟨c, ec⟩ : ∃ c, c = (-(iO n (xZ f) (xZ g) (n - 1))).tdiv n := ⟨_, rfl⟩
  rw [← ec] at hc hc0
  have hcb2 := iBd h0 hn (xZ f) (xZ g) c hc (xD_bd hf hg)
  intro i hi
  have := xHt_J hf hg hc0 hcb2 i (by omega)
  omega
theorem xMed_way {n : Nat} {f g u h : xRow} (h0 : 3 ≤ n) (hn : n ≤ 12) (hf : xBd f) (hg : xBd g) (hcb : xCB n f g = true) (he : ∀ i, i < n → h i = xHt n f g i) (hp : xPm n u h) (hs : xSrt u (n - 1 + 1)) : xAw u (u (n / 2)) n = xWay n f g := by
  rw [show n - 1 + 1 = n by omega] at hs
  have hb := xHt_bd h0 hn hf hg hcb
  rw [xMed h0 hn hp hs (fun i hi => by rw [he i hi]; exact hb i hi)]
  unfold xWay
  exact xFw_congr (by omega) he

/-! the class's answers and the twin's are the same, for rings of numbers that are not too great -/
def xSd (f g : xRow) : Nat → Int32
  | 0 => 0
  | k + 1 => xSd f g k + (g (k + 1) - f (k + 1))
theorem xAr_0 {n : Nat} {f g : xRow} : ∀ {m : Nat}, m + 1 ≤ n → xAr n f g 0 (m + 1) = xAr n f g 0 m + xSd f g m
  | 0, _ => by
    show (0 : Int32) = 0 + 0
    decide
  | m + 1, h => by
    have h1 := xAr_0 (n := n) (f := f) (g := g) (m := m) (by omega)
    show 2 * xAr n f g 0 (m + 1) - xAr n f g 0 m - (f ((m + 1) % n) - g ((m + 1) % n)) = xAr n f g 0 (m + 1) + (xSd f g m + (g (m + 1) - f (m + 1)))
    rw [Nat.mod_eq_of_lt (show m + 1 < n by omega)]
    grind
theorem xOth_s {f g : xRow} {m : Nat} : ∀ {k : Nat}, k ≤ m → xOth (m + 1) f g k = xOth m f g k + xSd f g k
  | 0, _ => by
    show (0 : Int32) = 0 + 0
    decide
  | k + 1, h => by
    have h1 := xOth_s (f := f) (g := g) (m := m) (k := k) (by omega)
    show xOth (m + 1) f g k + (g (k + 1) - f (k + 1)) * nI (m + 1 - (k + 1)) = xOth m f g k + (g (k + 1) - f (k + 1)) * nI (m - (k + 1)) + (xSd f g k + (g (k + 1) - f (k + 1)))
    have h2 : nI (m + 1 - (k + 1)) = nI (m - (k + 1)) + 1 := by
      rw [show m + 1 - (k + 1) = (m - (k + 1)) + 1 by omega]
      exact (nI_add _ 1).symm
    rw [h1, h2]
    grind
theorem xOff_oth {n : Nat} {f g : xRow} : ∀ {m : Nat}, 1 ≤ m → m ≤ n → xAr n f g 0 m = xOth m f g (m - 1)
  | 0, h, _ => absurd h (by decide)
  | 1, _, _ => rfl
  | m + 2, _, h => by
    have h1 := xOff_oth (n := n) (f := f) (g := g) (m := m + 1) (by omega) (by omega)
    rw [xAr_0 (m := m + 1) (by omega), h1]
    show xOth (m + 1) f g m + (xSd f g m + (g (m + 1) - f (m + 1))) = xOth (m + 2) f g m + (g (m + 1) - f (m + 1)) * nI (m + 2 - (m + 1))
    rw [xOth_s (m := m + 1) (k := m) (by omega), show m + 2 - (m + 1) = 1 by omega, show nI 1 = (1 : Int32) from rfl]
    grind
theorem xOff_eq {n : Nat} {f g : xRow} (hn0 : 3 ≤ n) : xOff n f g = xOth n f g (n - 1) := xOff_oth (m := n) (by omega) (Nat.le_refl n)
theorem xFst1_eq {n : Nat} {f g : xRow} (hn0 : 3 ≤ n) : xFst1 n f g = xFC n f g := by
  unfold xFst1 xFC
  rw [xOff_eq hn0]
theorem xAr_ht {n : Nat} {f g : xRow} (hn0 : 3 ≤ n) : ∀ {i : Nat}, i ≤ n → xAr n f g (xFst1 n f g) i = xHt n f g i
  | 0, _ => rfl
  | 1, _ => by
    show xFst1 n f g = 0 + (xFC n f g + 0)
    rw [xFst1_eq hn0]
    grind
  | i + 2, h => by
    have h1 := xAr_ht (n := n) (f := f) (g := g) hn0 (i := i + 1) (by omega)
    have h0 := xAr_ht (n := n) (f := f) (g := g) hn0 (i := i) (by omega)
    show 2 * xAr n f g (xFst1 n f g) (i + 1) - xAr n f g (xFst1 n f g) i - (f ((i + 1) % n) - g ((i + 1) % n)) = xHt n f g (i + 1) + (xCl n f g (i + 1) + (if i + 1 = 0 then 0 else g (i + 1) - f (i + 1)))
    rw [Nat.mod_eq_of_lt (show i + 1 < n by omega), h1, h0, if_neg (by omega)]
    have h2 : xHt n f g (i + 1) = xHt n f g i + xCl n f g (i + 1) := rfl
    rw [h2]
    grind
theorem xAr_last {n : Nat} {f g : xRow} (hn0 : 3 ≤ n) : xAr n f g (xFst1 n f g) (n + 1) = 2 * xHt n f g n - xHt n f g (n - 1) - (f 0 - g 0) := by
  obtain ⟨k, rfl⟩ : ∃ k, n = k + 1 := ⟨n - 1, by omega⟩
  show 2 * xAr (k + 1) f g (xFst1 (k + 1) f g) (k + 1) - xAr (k + 1) f g (xFst1 (k + 1) f g) k - (f ((k + 1) % (k + 1)) - g ((k + 1) % (k + 1))) = _
  rw [xAr_ht hn0 (Nat.le_refl _), xAr_ht hn0 (Nat.le_succ k), Nat.mod_self]
  rfl
/-! in whole numbers -/
def iT (F : Nat → Int) : Nat → Int
  | 0 => 0
  | k + 1 => iT F k + F k
def iM (F : Nat → Int) : Nat → Int
  | 0 => 0
  | k + 1 => iM F k + F k * k
def iO (n : Nat) (F G : Nat → Int) : Nat → Int
  | 0 => 0
  | k + 1 => iO n F G k + (G (k + 1) - F (k + 1)) * ((n - (k + 1) : Nat) : Int)
def iC (c : Int) (F G : Nat → Int) : Nat → Int
  | 0 => c
  | p + 1 => iC c F G p + if p = 0 then 0 else G p - F p
def iH (c : Int) (F G : Nat → Int) : Nat → Int
  | 0 => 0
  | p + 1 => iH c F G p + iC c F G (p + 1)
def xBd (f : xRow) : Prop := ∀ i, i < 12 → -210000 ≤ (f i).toInt ∧ (f i).toInt ≤ 210000
abbrev xZ (f : xRow) : Nat → Int := fun i => (f i).toInt
theorem xmulB {a b M N : Int} (ha : -M ≤ a ∧ a ≤ M) (hb : 0 ≤ b ∧ b ≤ N) (hM : 0 ≤ M) : -(M * N) ≤ a * b ∧ a * b ≤ M * N := by
  have h1 : M * b ≤ M * N := Int.mul_le_mul_of_nonneg_left hb.2 hM
  have h2 : a * b ≤ M * b := Int.mul_le_mul_of_nonneg_right ha.2 hb.1
  have h3 : -M * b ≤ a * b := Int.mul_le_mul_of_nonneg_right ha.1 hb.1
  rw [Int.neg_mul] at h3
  omega
theorem xTot_I {f : xRow} (hf : xBd f) : ∀ k, k ≤ 12 → (xTot f k).toInt = iT (xZ f) k ∧ -(210000 * (k : Int)) ≤ iT (xZ f) k ∧ iT (xZ f) k ≤ 210000 * (k : Int)
  | 0, _ => ⟨rfl, by simp [iT], by simp [iT]⟩
  | k + 1, h => by
    obtain ⟨h1, h2, h3⟩ := xTot_I hf k (by omega)
    have h4 := hf k (by omega)
    show (xTot f k + f k).toInt = iT (xZ f) k + (f k).toInt ∧ -(210000 * ((k + 1 : Nat) : Int)) ≤ iT (xZ f) k + (f k).toInt ∧ iT (xZ f) k + (f k).toInt ≤ 210000 * ((k + 1 : Nat) : Int)
    refine ⟨xaddI h1 rfl (by omega) (by omega), by omega, by omega⟩
theorem xMom_I {f : xRow} (hf : xBd f) : ∀ k, k ≤ 12 → (xMom f k).toInt = iM (xZ f) k ∧ -(2520000 * (k : Int)) ≤ iM (xZ f) k ∧ iM (xZ f) k ≤ 2520000 * (k : Int)
  | 0, _ => ⟨rfl, by simp [iM], by simp [iM]⟩
  | k + 1, h => by
    obtain ⟨h1, h2, h3⟩ := xMom_I hf k (by omega)
    have h4 := hf k (by omega)
    have h5 := xmulB (a := (f k).toInt) (b := (k : Int)) (M := 210000) (N := 12) h4 (by omega) (by decide)
    have e1 : (f k * nI k).toInt = (f k).toInt * (k : Int) := xmulI rfl (nI_toInt (n := k) (by omega)) (by omega) (by omega)
    show (xMom f k + f k * nI k).toInt = iM (xZ f) k + (f k).toInt * (k : Int) ∧ -(2520000 * ((k + 1 : Nat) : Int)) ≤ iM (xZ f) k + (f k).toInt * (k : Int) ∧ iM (xZ f) k + (f k).toInt * (k : Int) ≤ 2520000 * ((k + 1 : Nat) : Int)
    refine ⟨xaddI h1 e1 (by omega) (by omega), by omega, by omega⟩
theorem xSub_I {f g : xRow} (hf : xBd f) (hg : xBd g) {i : Nat} (hi : i < 12) : (g i - f i).toInt = xZ g i - xZ f i ∧ -420000 ≤ xZ g i - xZ f i ∧ xZ g i - xZ f i ≤ 420000 := by
  have h1 := hf i hi
  have h2 := hg i hi
  show (g i - f i).toInt = (g i).toInt - (f i).toInt ∧ -420000 ≤ (g i).toInt - (f i).toInt ∧ (g i).toInt - (f i).toInt ≤ 420000
  exact ⟨xsubI rfl rfl (by omega) (by omega), by omega, by omega⟩
theorem xOth_I {n : Nat} {f g : xRow} (hn1 : n ≤ 12) (hf : xBd f) (hg : xBd g) : ∀ k, k < n → (xOth n f g k).toInt = iO n (xZ f) (xZ g) k ∧ -(5040000 * (k : Int)) ≤ iO n (xZ f) (xZ g) k ∧ iO n (xZ f) (xZ g) k ≤ 5040000 * (k : Int)
  | 0, _ => ⟨rfl, by simp [iO], by simp [iO]⟩
  | k + 1, h => by
    obtain ⟨h1, h2, h3⟩ := xOth_I hn1 hf hg k (by omega)
    obtain ⟨e0, h4⟩ := xSub_I hf hg (i := k + 1) (by omega)
    have h5 := xmulB (a := xZ g (k + 1) - xZ f (k + 1)) (b := ((n - (k + 1) : Nat) : Int)) (M := 420000) (N := 12) h4 (by omega) (by decide)
    have e1 : ((g (k + 1) - f (k + 1)) * nI (n - (k + 1))).toInt = (xZ g (k + 1) - xZ f (k + 1)) * ((n - (k + 1) : Nat) : Int) := xmulI e0 (nI_toInt (n := n - (k + 1)) (by omega)) (by omega) (by omega)
    have e2 : iO n (xZ f) (xZ g) (k + 1) = iO n (xZ f) (xZ g) k + (xZ g (k + 1) - xZ f (k + 1)) * ((n - (k + 1) : Nat) : Int) := rfl
    have e3 : xOth n f g (k + 1) = xOth n f g k + (g (k + 1) - f (k + 1)) * nI (n - (k + 1)) := rfl
    rw [e2, e3]
    refine ⟨xaddI h1 e1 (by omega) (by omega), by omega, by omega⟩
theorem xCl_I {n : Nat} {f g : xRow} {c : Int} (hf : xBd f) (hg : xBd g) (hc : (xFC n f g).toInt = c) (hc1 : -20000000 ≤ c ∧ c ≤ 20000000) : ∀ k, k ≤ 12 → (xCl n f g k).toInt = iC c (xZ f) (xZ g) k ∧ c - 420000 * (k : Int) ≤ iC c (xZ f) (xZ g) k ∧ iC c (xZ f) (xZ g) k ≤ c + 420000 * (k : Int)
  | 0, _ => ⟨hc, by show c - 420000 * ((0 : Nat) : Int) ≤ c; omega, by show c ≤ c + 420000 * ((0 : Nat) : Int); omega⟩
  | k + 1, h => by
    obtain ⟨h1, h2, h3⟩ := xCl_I hf hg hc hc1 k (by omega)
    have e2 : iC c (xZ f) (xZ g) (k + 1) = iC c (xZ f) (xZ g) k + if k = 0 then 0 else xZ g k - xZ f k := rfl
    have e3 : xCl n f g (k + 1) = xCl n f g k + if k = 0 then 0 else g k - f k := rfl
    rw [e2, e3]
    by_cases hk : k = 0
    · rw [if_pos hk, if_pos hk]
      refine ⟨xaddI h1 Int32.toInt_zero (by omega) (by omega), by omega, by omega⟩
    · rw [if_neg hk, if_neg hk]
      obtain ⟨e0, h4⟩ := xSub_I hf hg (i := k) (by omega)
      refine ⟨xaddI h1 e0 (by omega) (by omega), by omega, by omega⟩
theorem xHt_I {n : Nat} {f g : xRow} {c C : Int} (hf : xBd f) (hg : xBd g) (hc : (xFC n f g).toInt = c) (hc1 : -C ≤ c ∧ c ≤ C) (hC : C ≤ 20000000) : ∀ k, k ≤ 12 → (xHt n f g k).toInt = iH c (xZ f) (xZ g) k ∧ -((C + 5040000) * (k : Int)) ≤ iH c (xZ f) (xZ g) k ∧ iH c (xZ f) (xZ g) k ≤ (C + 5040000) * (k : Int)
  | 0, _ => ⟨rfl, by show -((C + 5040000) * ((0 : Nat) : Int)) ≤ 0; simp, by show 0 ≤ (C + 5040000) * ((0 : Nat) : Int); simp⟩
  | k + 1, h => by
    obtain ⟨h1, h2, h3⟩ := xHt_I hf hg hc hc1 hC k (by omega)
    obtain ⟨e1, h4, h5⟩ := xCl_I hf hg hc (by omega) (k + 1) h
    have e2 : iH c (xZ f) (xZ g) (k + 1) = iH c (xZ f) (xZ g) k + iC c (xZ f) (xZ g) (k + 1) := rfl
    have e3 : xHt n f g (k + 1) = xHt n f g k + xCl n f g (k + 1) := rfl
    have e4 : (C + 5040000) * ((k + 1 : Nat) : Int) = (C + 5040000) * (k : Int) + (C + 5040000) := by
      rw [Int.natCast_add, Int.mul_add]; simp
    have h6 : (C + 5040000) * (k : Int) ≤ 25040000 * 12 := by
      have := (xmulB (a := (C + 5040000)) (b := (k : Int)) (M := 25040000) (N := 12) (by omega) (by omega) (by decide)).2
      omega
    rw [e2, e3, e4]
    refine ⟨xaddI h1 e1 (by omega) (by omega), by omega, by omega⟩
set_option maxHeartbeats 4000000 in
theorem iKey {n : Nat} (hn0 : 3 ≤ n) (hn1 : n ≤ 12) (F G : Nat → Int) (c : Int) (hc : c * (n : Int) = -(iO n F G (n - 1))) : iH c F G n = 0 ∧ (0 - iH c F G (n - 1) - (F 0 - G 0) = c ↔ iT F n = iT G n) := by
  revert hc
  refine xn_cases (P := fun n : Nat => c * (n : Int) = -(iO n F G (n - 1)) → iH c F G n = 0 ∧ (0 - iH c F G (n - 1) - (F 0 - G 0) = c ↔ iT F n = iT G n)) hn0 hn1 ?_ ?_ ?_ ?_ ?_ ?_ ?_ ?_ ?_ ?_ <;> intro hc <;> simp [iH, iC, iT, iO] at hc ⊢ <;> omega
set_option maxHeartbeats 4000000 in
theorem iMod {n : Nat} (hn0 : 3 ≤ n) (hn1 : n ≤ 12) (F G : Nat → Int) : iO n F G (n - 1) % (n : Int) = 0 ↔ iM F n % (n : Int) = iM G n % (n : Int) := by
  refine xn_cases (P := fun n : Nat => iO n F G (n - 1) % (n : Int) = 0 ↔ iM F n % (n : Int) = iM G n % (n : Int)) hn0 hn1 ?_ ?_ ?_ ?_ ?_ ?_ ?_ ?_ ?_ ?_ <;> simp [iM, iO] <;> omega
set_option maxHeartbeats 4000000 in
theorem iBd {n : Nat} (hn0 : 3 ≤ n) (hn1 : n ≤ 12) (F G : Nat → Int) (c : Int) (hc : c * (n : Int) = -(iO n F G (n - 1))) (hb : ∀ i, i < 12 → -420000 ≤ G i - F i ∧ G i - F i ≤ 420000) : -2310000 ≤ c ∧ c ≤ 2310000 := by
  have b1 := hb 1 (by decide); have b2 := hb 2 (by decide); have b3 := hb 3 (by decide); have b4 := hb 4 (by decide); have b5 := hb 5 (by decide); have b6 := hb 6 (by decide)
  have b7 := hb 7 (by decide); have b8 := hb 8 (by decide); have b9 := hb 9 (by decide); have b10 := hb 10 (by decide); have b11 := hb 11 (by decide)
  clear hb
  revert hc
  refine xn_cases (P := fun n : Nat => c * (n : Int) = -(iO n F G (n - 1)) → -2310000 ≤ c ∧ c ≤ 2310000) hn0 hn1 ?_ ?_ ?_ ?_ ?_ ?_ ?_ ?_ ?_ ?_ <;> intro hc <;> simp [iO] at hc <;> omega

/-! the twin's digest (rows laid by wip/whole/spec_dig.py) -/
set_option maxHeartbeats 4000000 in
set_option maxRecDepth 100000 in
theorem c_X3_fitsA (γ : xG) (l : Launch) (m0 m1 m2 m3 m4 n kc : Nat) (th td : Int32) (f tg tp : xRow) (x : Int32) (hn0 : 3 ≤ n) (hn1 : n ≤ 12) (hkc : kc ≤ 6) : xM γ l yX3_fits wsX3_fits ({ frames := 3, cells := 0, slots := 0, locals := 68 } : Room) [.ref m0, .int x] ([xO m0 3 [.int th, .int (nI n), .int (nI kc), .int td, .ref m1, .ref m2, .ref m3, .ref m4], xA γ m1 12 f, xA γ m3 72 tg, xA γ m4 14 tp]) (fun r9 w9 => r9 = some (.int (xPlM n kc f tg x)) ∧ ∃ h9 : xRow, w9 = [xO m0 3 [.int th, .int (nI n), .int (nI kc), .int td, .ref m1, .ref m2, .ref m3, .ref m4], xA γ m1 12 f, xA γ m3 72 tg, xA γ m4 14 h9]) 0 0 := by
  refine xM.of (cc := cX3_fits) (maxL := 5) (ret := (some .int)) (by decide +kernel) rfl (Nat.le_of_ble_eq_true rfl) ?_
  intro p e s m below meth c hx hb hr hml hts hown hlocks hin hP hK A hA hD ls hl
  have hS : va_S A s.heap s.heap [] := va_S.rf
  generalize hargs : ([.ref m0, .int x] : List Value).toArray = args at hts ⊢
  obtain ⟨Q, hQ⟩ : ∃ Q9, Q9 = MQ below (xMQ γ (List.map Prod.fst ([xO m0 3 [.int th, .int (nI n), .int (nI kc), .int td, .ref m1, .ref m2, .ref m3, .ref m4], xA γ m1 12 f, xA γ m3 72 tg, xA γ m4 14 tp])) A (fun r9 w9 => r9 = some (.int (xPlM n kc f tg x)) ∧ ∃ h9 : xRow, w9 = [xO m0 3 [.int th, .int (nI n), .int (nI kc), .int td, .ref m1, .ref m2, .ref m3, .ref m4], xA γ m1 12 f, xA γ m3 72 tg, xA γ m4 14 h9])) args s 0 0 A := ⟨_, rfl⟩
  rw [← hQ]
  have hown : s.vm.findClass RX3 = some m.cls := hown
  have hl : lv_has ls 5 [(0, .ref m0), (1, .int x)] := hl
  refine lv_iconst (v := (-1)) hx hb dX3_fits_0 (by decide) ?_
  refine lv_istore_n (lv' := [(2, .int (-1)), (0, .ref m0), (1, .int x)]) hx hb dX3_fits_1 rfl hl (by decide) rfl (fun ls hl => ?_)
  refine lv_iconst (v := 0) hx hb dX3_fits_2 (by decide) ?_
  refine lv_istore_n (lv' := [(3, .int 0), (2, .int (-1)), (0, .ref m0), (1, .int x)]) hx hb dX3_fits_3 rfl hl (by decide) rfl (fun ls hl => ?_)
  have loop4 : ∀ j : Nat, ∀ (k : Nat) (tp : xRow), k + j = n → (kc = 0 → k = 0) → ∀ (H : Heap) (locs : List Loc), xP γ ([xO m0 3 [.int th, .int (nI n), .int (nI kc), .int td, .ref m1, .ref m2, .ref m3, .ref m4], xA γ m1 12 f, xA γ m3 72 tg, xA γ m4 14 tp]) H → va_D A ([xO m0 3 [.int th, .int (nI n), .int (nI kc), .int td, .ref m1, .ref m2, .ref m3, .ref m4], xA γ m1 12 f, xA γ m3 72 tg, xA γ m4 14 tp]) → va_S A s.heap H locs → ∀ ls : Array Slot, lv_has ls 5 [(0, .ref m0), (1, .int x), (2, .int (if xFirst (xPfM n f (xGt tg 0) x) k < k then nI (xFirst (xPfM n f (xGt tg 0) x) k) else -1)), (3, .int (nI k))] → W p l e ({ frames := 3, cells := 0, slots := 0, locals := 68 } : Room) s m args below meth c H locs 0 0 Q (F0 m 4 ls []) := by
    intro j
    induction j with
    | zero =>
      intro k tp hj hk9 H locs hP hD hS ls hl
      refine lv_iload_n hx hb dX3_fits_4 rfl (lv_at hl 3 rfl) ?_
      refine lv_aload_n hx hb dX3_fits_5 rfl (lv_at hl 0 rfl) ?_
      refine va_get (D := γ.1) (ci := 3) (v := .int (nI n)) (C := RX3) (T := TX3) (N := 8) hx hb hts iwX3_fits_3 hown hK hP 0 rfl rfl 1 (by decide) (hts _ flX3_fits_7) (fun _ h9 => h9) rfl dX3_fits_6 ?_
      refine lv_icmp_ge (tgt := 63) hx hb dX3_fits_9 (by decide) (fun _ => ?_) (fun c => absurd (nI_le (a := n) (b := k) (by omega) (by omega)) c)
      have hk0 : 0 < kc := Nat.pos_of_ne_zero (fun h => absurd (hk9 h) (by omega))
      refine lv_iload_n hx hb dX3_fits_63 rfl (lv_at hl 2 rfl) ?_
      subst hQ
      exact xM_i hx hb hr hlocks dX3_fits_64 hP rfl hS (Nat.le_of_ble_eq_true rfl) (Nat.le_of_ble_eq_true rfl) (⟨by rw [xPlM_p hk0, show k = n by omega], _, rfl⟩)
    | succ j ih4 =>
      intro k tp hj hk9 H locs hP hD hS ls hl
      refine lv_iload_n hx hb dX3_fits_4 rfl (lv_at hl 3 rfl) ?_
      refine lv_aload_n hx hb dX3_fits_5 rfl (lv_at hl 0 rfl) ?_
      refine va_get (D := γ.1) (ci := 3) (v := .int (nI n)) (C := RX3) (T := TX3) (N := 8) hx hb hts iwX3_fits_3 hown hK hP 0 rfl rfl 1 (by decide) (hts _ flX3_fits_7) (fun _ h9 => h9) rfl dX3_fits_6 ?_
      refine lv_icmp_ge (tgt := 63) hx hb dX3_fits_9 (by decide) (fun c => absurd c (nI_ge (a := k) (b := n) (by omega) (by omega))) (fun _ => ?_)
      refine lv_aload_n hx hb dX3_fits_12 rfl (lv_at hl 0 rfl) ?_
      refine va_get (D := γ.1) (ci := 3) (v := .int (nI kc)) (C := RX3) (T := TX3) (N := 8) hx hb hts iwX3_fits_3 hown hK hP 0 rfl rfl 2 (by decide) (hts _ flX3_fits_33) (fun _ h9 => h9) rfl dX3_fits_13 ?_
      refine lv_if_le (tgt := 63) hx hb dX3_fits_16 (by decide) (fun c16 => ?_) (fun c16 => ?_)
      · have hk0 : kc = 0 := xkc_le hkc c16
        refine lv_iload_n hx hb dX3_fits_63 rfl (lv_at hl 2 rfl) ?_
        subst hQ
        exact xM_i hx hb hr hlocks dX3_fits_64 hP rfl hS (Nat.le_of_ble_eq_true rfl) (Nat.le_of_ble_eq_true rfl) (⟨by rw [hk9 hk0]; unfold xPlM; rw [if_pos hk0]; rfl, _, rfl⟩)
      · have hk0 : 0 < kc := xkc_nle c16
        refine lv_iload_n hx hb dX3_fits_19 rfl (lv_at hl 2 rfl) ?_
        refine lv_iconst (v := (-1)) hx hb dX3_fits_20 (by decide) ?_
        refine lv_icmp_ne (tgt := 63) hx hb dX3_fits_21 (by decide) (fun c21 => ?_) (fun c21 => ?_)
        · refine lv_iload_n hx hb dX3_fits_63 rfl (lv_at hl 2 rfl) ?_
          subst hQ
          exact xM_i hx hb hr hlocks dX3_fits_64 hP rfl hS (Nat.le_of_ble_eq_true rfl) (Nat.le_of_ble_eq_true rfl) (⟨by rw [xPlM_p hk0, xFit_e (xPfM n f (xGt tg 0) x) (k := k) (n := n) (by omega) c21], _, rfl⟩)
        · refine lv_aload_n hx hb dX3_fits_24 rfl (lv_at hl 0 rfl) ?_
          refine va_get (D := γ.1) (ci := 3) (v := .ref m1) (C := RX3) (T := TX3) (N := 8) hx hb hts iwX3_fits_3 hown hK hP 0 rfl rfl 4 (by decide) (hts _ flX3_fits_13) (fun _ h9 => h9) rfl dX3_fits_25 ?_
          refine lv_iload_n hx hb dX3_fits_28 rfl (lv_at hl 3 rfl) ?_
          refine x_iald (f := f) hx hb hK hP 1 rfl k rfl (by omega) (by omega) dX3_fits_29 ?_
          refine lv_istore (lv' := [(4, .int (f k)), (0, .ref m0), (1, .int x), (2, .int (if xFirst (xPfM n f (xGt tg 0) x) k < k then nI (xFirst (xPfM n f (xGt tg 0) x) k) else -1)), (3, .int (nI k))]) hx hb dX3_fits_30 hl (by decide) rfl (fun ls hl => ?_)
          refine lv_aload_n hx hb dX3_fits_32 rfl (lv_at hl 1 rfl) ?_
          refine va_get (D := γ.1) (ci := 3) (v := .ref m1) (C := RX3) (T := TX3) (N := 8) hx hb hts iwX3_fits_3 hown hK hP 0 rfl rfl 4 (by decide) (hts _ flX3_fits_13) (fun _ h9 => h9) rfl dX3_fits_33 ?_
          refine lv_iload_n hx hb dX3_fits_36 rfl (lv_at hl 4 rfl) ?_
          refine lv_iload_n hx hb dX3_fits_37 rfl (lv_at hl 2 rfl) ?_
          refine x_iast (f := f) hx hb hK hP hD hS 1 rfl k rfl (by omega) (by omega) dX3_fits_38 (fun H locs hP hD hS => ?_)
          have hP : xP γ ([xO m0 3 [.int th, .int (nI n), .int (nI kc), .int td, .ref m1, .ref m2, .ref m3, .ref m4], xA γ m1 12 (upd f k x), xA γ m3 72 tg, xA γ m4 14 tp]) H := hP
          have hD : va_D A ([xO m0 3 [.int th, .int (nI n), .int (nI kc), .int td, .ref m1, .ref m2, .ref m3, .ref m4], xA γ m1 12 (upd f k x), xA γ m3 72 tg, xA γ m4 14 tp]) := hD
          refine lv_aload_n hx hb dX3_fits_39 rfl (lv_at hl 1 rfl) ?_
          refine lv_iconst (v := 0) hx hb dX3_fits_40 (by decide) ?_
          refine xVM (q0 := 0) (ci := 3) (As := [.int 0]) (rest := []) ⟨hx, hb, hml, hown, hts⟩ (c_X3_solves γ l m0 m1 m2 m3 m4 n kc th td (upd f k x) tg tp 0 (by omega) (by omega) (by omega)) (cwV 1 hts gX3_fits_X3_solves rfl rfl rfl hdv_X3_solves ⟨(Nat.le_of_ble_eq_true rfl), (Nat.le_of_ble_eq_true rfl)⟩) hK hP hD hS hA [0, 1, 2, 3] rfl rfl rfl rfl rfl hl.1 rfl (Nat.le_of_ble_eq_true rfl) dX3_fits_41 ⟨(Nat.le_of_ble_eq_true rfl), (Nat.le_of_ble_eq_true rfl)⟩ (fun r9 w9 H locs hw hP hD hS => ?_)
          obtain ⟨rfl, h122x, eh122x, rfl⟩ := hw
          have hP : xP γ ([xO m0 3 [.int th, .int (nI n), .int (nI kc), .int td, .ref m1, .ref m2, .ref m3, .ref m4], xA γ m1 12 (upd f k x), xA γ m3 72 tg, xA γ m4 14 h122x]) H := hP
          have hD : va_D A ([xO m0 3 [.int th, .int (nI n), .int (nI kc), .int td, .ref m1, .ref m2, .ref m3, .ref m4], xA γ m1 12 (upd f k x), xA γ m3 72 tg, xA γ m4 14 h122x]) := hD
          refine W.eq (g2 := F0 m 44 ls [.int (if xSv n (upd f k x) (xGt tg 0) = true then 1 else 0)]) rfl ?_
          refine lv_if_eq (tgt := 49) hx hb dX3_fits_44 (by decide) (fun c44 => ?_) (fun c44 => ?_)
          · refine lv_aload_n hx hb dX3_fits_49 rfl (lv_at hl 1 rfl) ?_
            refine va_get (D := γ.1) (ci := 3) (v := .ref m1) (C := RX3) (T := TX3) (N := 8) hx hb hts iwX3_fits_3 hown hK hP 0 rfl rfl 4 (by decide) (hts _ flX3_fits_13) (fun _ h9 => h9) rfl dX3_fits_50 ?_
            refine lv_iload_n hx hb dX3_fits_53 rfl (lv_at hl 4 rfl) ?_
            refine lv_iload hx hb dX3_fits_54 (lv_at hl 0 rfl) ?_
            refine x_iast (f := upd f k x) hx hb hK hP hD hS 1 rfl k rfl (by omega) (by omega) dX3_fits_56 (fun H locs hP hD hS => ?_)
            rw [xupd_back] at hP hD
            have hP : xP γ ([xO m0 3 [.int th, .int (nI n), .int (nI kc), .int td, .ref m1, .ref m2, .ref m3, .ref m4], xA γ m1 12 f, xA γ m3 72 tg, xA γ m4 14 h122x]) H := hP
            have hD : va_D A ([xO m0 3 [.int th, .int (nI n), .int (nI kc), .int td, .ref m1, .ref m2, .ref m3, .ref m4], xA γ m1 12 f, xA γ m3 72 tg, xA γ m4 14 h122x]) := hD
            have e9 := xFit_n (xPfM n f (xGt tg 0) x) (k := k) (by omega) c21 (xB_f c44)
            rw [← e9] at hl
            refine lv_iinc (v := nI (k + 1)) (lv' := [(3, .int (nI (k + 1))), (4, .int (f k)), (0, .ref m0), (1, .int x), (2, .int (if xFirst (xPfM n f (xGt tg 0) x) (k + 1) < k + 1 then nI (xFirst (xPfM n f (xGt tg 0) x) (k + 1)) else -1))]) hx hb dX3_fits_57 hl (k := 4) rfl (nI_add k 1) (by decide) rfl (fun ls hl => ?_)
            refine lv_goto (tgt := 4) hx hb dX3_fits_60 (by decide) ?_
            exact ih4 (k + 1) h122x (by omega) (fun h => absurd h (by omega)) _ _ hP hD hS ls (lv_sub hl [2, 3, 4, 0] rfl)
          · refine lv_iload_n hx hb dX3_fits_47 rfl (lv_at hl 4 rfl) ?_
            refine x_top (y := if xFirst (xPfM n f (xGt tg 0) x) (k + 1) < k + 1 then nI (xFirst (xPfM n f (xGt tg 0) x) (k + 1)) else -1) (xFit_y (xPfM n f (xGt tg 0) x) (k := k) (by omega) c21 (xB_t c44)) ?_
            refine lv_istore_n (lv' := [(2, .int (if xFirst (xPfM n f (xGt tg 0) x) (k + 1) < k + 1 then nI (xFirst (xPfM n f (xGt tg 0) x) (k + 1)) else -1)), (4, .int (f k)), (0, .ref m0), (1, .int x), (3, .int (nI k))]) hx hb dX3_fits_48 rfl hl (by decide) rfl (fun ls hl => ?_)
            refine lv_aload_n hx hb dX3_fits_49 rfl (lv_at hl 2 rfl) ?_
            refine va_get (D := γ.1) (ci := 3) (v := .ref m1) (C := RX3) (T := TX3) (N := 8) hx hb hts iwX3_fits_3 hown hK hP 0 rfl rfl 4 (by decide) (hts _ flX3_fits_13) (fun _ h9 => h9) rfl dX3_fits_50 ?_
            refine lv_iload_n hx hb dX3_fits_53 rfl (lv_at hl 4 rfl) ?_
            refine lv_iload hx hb dX3_fits_54 (lv_at hl 1 rfl) ?_
            refine x_iast (f := upd f k x) hx hb hK hP hD hS 1 rfl k rfl (by omega) (by omega) dX3_fits_56 (fun H locs hP hD hS => ?_)
            rw [xupd_back] at hP hD
            have hP : xP γ ([xO m0 3 [.int th, .int (nI n), .int (nI kc), .int td, .ref m1, .ref m2, .ref m3, .ref m4], xA γ m1 12 f, xA γ m3 72 tg, xA γ m4 14 h122x]) H := hP
            have hD : va_D A ([xO m0 3 [.int th, .int (nI n), .int (nI kc), .int td, .ref m1, .ref m2, .ref m3, .ref m4], xA γ m1 12 f, xA γ m3 72 tg, xA γ m4 14 h122x]) := hD
            refine lv_iinc (v := nI (k + 1)) (lv' := [(3, .int (nI (k + 1))), (2, .int (if xFirst (xPfM n f (xGt tg 0) x) (k + 1) < k + 1 then nI (xFirst (xPfM n f (xGt tg 0) x) (k + 1)) else -1)), (4, .int (f k)), (0, .ref m0), (1, .int x)]) hx hb dX3_fits_57 hl (k := 4) rfl (nI_add k 1) (by decide) rfl (fun ls hl => ?_)
            refine lv_goto (tgt := 4) hx hb dX3_fits_60 (by decide) ?_
            exact ih4 (k + 1) h122x (by omega) (fun h => absurd h (by omega)) _ _ hP hD hS ls (lv_sub hl [3, 4, 1, 0] rfl)
  exact loop4 n 0 tp (by omega) (fun _ => rfl) _ _ hP hD hS ls (lv_sub hl [2, 3, 1, 0] rfl)

theorem flX3_digest_26 : Cond.fieldLink RX3 26 "RingSeesawModel" "thrown" "I" ∈ wsX3_digest := by decide +kernel
theorem iwX3_digest_3 : ∀ w ∈ wsX30, w ∈ wsX3_digest := by decide +kernel
theorem wdX3_digest_naint : Cond.arrayClass .int ∈ wsX3_digest := by decide +kernel
theorem flX3_digest_7 : Cond.fieldLink RX3 7 "RingSeesawModel" "n" "I" ∈ wsX3_digest := by decide +kernel
theorem flX3_digest_33 : Cond.fieldLink RX3 33 "RingSeesawModel" "targets" "I" ∈ wsX3_digest := by decide +kernel
theorem flX3_digest_74 : Cond.fieldLink RX3 74 "RingSeesawModel" "tips" "I" ∈ wsX3_digest := by decide +kernel
theorem flX3_digest_13 : Cond.fieldLink RX3 13 "RingSeesawModel" "x" "[I" ∈ wsX3_digest := by decide +kernel
theorem wdX3_digest_c163 : Cond.constantLong RX3 163 (2333) ∈ wsX3_digest := by decide +kernel
theorem wdX3_digest_c165 : Cond.constantLong RX3 165 (31) ∈ wsX3_digest := by decide +kernel
set_option maxHeartbeats 4000000 in
set_option maxRecDepth 100000 in
theorem c_X3_digest (γ : xG) (l : Launch) (m0 m1 m2 m3 m4 n kc : Nat) (th td : Int32) (f tf tg tp : xRow) (hn0 : 3 ≤ n) (hn1 : n ≤ 12) (hkc : kc ≤ 6) : xM γ l yX3_digest wsX3_digest ({ frames := 6, cells := 1, slots := 17, locals := 131 } : Room) [.ref m0] ([xO m0 3 [.int th, .int (nI n), .int (nI kc), .int td, .ref m1, .ref m2, .ref m3, .ref m4], xA γ m1 12 f, xA γ m2 12 tf, xA γ m3 72 tg, xA γ m4 14 tp]) (fun r9 w9 => r9 = some (.long (xDgM n kc f tg td)) ∧ ∃ (h9 g9 : xRow), w9 = [xO m0 3 [.int 0, .int (nI n), .int (nI kc), .int td, .ref m1, .ref m2, .ref m3, .ref m4], xA γ m1 12 f, xA γ m2 12 h9, xA γ m3 72 tg, xA γ m4 14 g9]) 1 17 := by
  refine xM.of (cc := cX3_digest) (maxL := 8) (ret := (some .long)) (by decide +kernel) rfl (Nat.le_of_ble_eq_true rfl) ?_
  intro p e s m below meth c hx hb hr hml hts hown hlocks hin hP hK A hA hD ls hl
  have hS : va_S A s.heap s.heap [] := va_S.rf
  generalize hargs : ([.ref m0] : List Value).toArray = args at hts ⊢
  obtain ⟨Q, hQ⟩ : ∃ Q9, Q9 = MQ below (xMQ γ (List.map Prod.fst ([xO m0 3 [.int th, .int (nI n), .int (nI kc), .int td, .ref m1, .ref m2, .ref m3, .ref m4], xA γ m1 12 f, xA γ m2 12 tf, xA γ m3 72 tg, xA γ m4 14 tp])) A (fun r9 w9 => r9 = some (.long (xDgM n kc f tg td)) ∧ ∃ (h9 g9 : xRow), w9 = [xO m0 3 [.int 0, .int (nI n), .int (nI kc), .int td, .ref m1, .ref m2, .ref m3, .ref m4], xA γ m1 12 f, xA γ m2 12 h9, xA γ m3 72 tg, xA γ m4 14 g9])) args s 1 17 A := ⟨_, rfl⟩
  rw [← hQ]
  have hown : s.vm.findClass RX3 = some m.cls := hown
  have hl : lv_has ls 8 [(0, .ref m0)] := hl
  refine lv_aload_n hx hb dX3_digest_0 rfl (lv_at hl 0 rfl) ?_
  refine lv_iconst (v := 0) hx hb dX3_digest_1 (by decide) ?_
  refine va_put (D := γ.1) (ci := 3) (v := .int 0) (ty := .int) (C := RX3) (T := TX3) (N := 8) hx hb hts iwX3_digest_3 tyX3 tyX3_ok nmX3 hown hK hP hD hS 0 rfl rfl 0 (by decide) (hts _ flX3_digest_26) (fun _ h9 => h9) rfl (by decide +kernel) rfl rfl (Nat.le_of_ble_eq_true rfl) dX3_digest_2 (fun H locs hP hD hS => ?_)
  have hP : xP γ ([xO m0 3 [.int 0, .int (nI n), .int (nI kc), .int td, .ref m1, .ref m2, .ref m3, .ref m4], xA γ m1 12 f, xA γ m2 12 tf, xA γ m3 72 tg, xA γ m4 14 tp]) H := hP
  have hD : va_D A ([xO m0 3 [.int 0, .int (nI n), .int (nI kc), .int td, .ref m1, .ref m2, .ref m3, .ref m4], xA γ m1 12 f, xA γ m2 12 tf, xA γ m3 72 tg, xA γ m4 14 tp]) := hD
  refine lv_bipush (v := 17) hx hb dX3_digest_5 (by decide) ?_
  refine x_newI hx hb (hts _ wdX3_digest_naint) hK hP hD hS hA 17 (by decide) (by decide) (by decide) (Nat.le_of_ble_eq_true rfl) (Nat.le_of_ble_eq_true rfl) dX3_digest_7 (fun q7x H hP hD hS => ?_)
  have hP : xP γ ([xO m0 3 [.int 0, .int (nI n), .int (nI kc), .int td, .ref m1, .ref m2, .ref m3, .ref m4], xA γ m1 12 f, xA γ m2 12 tf, xA γ m3 72 tg, xA γ m4 14 tp, xA γ q7x 17 (fun _ => 0)]) H := hP
  have hD : va_D A ([xO m0 3 [.int 0, .int (nI n), .int (nI kc), .int td, .ref m1, .ref m2, .ref m3, .ref m4], xA γ m1 12 f, xA γ m2 12 tf, xA γ m3 72 tg, xA γ m4 14 tp, xA γ q7x 17 (fun _ => 0)]) := hD
  refine lv_dup hx hb dX3_digest_9 rfl ?_
  refine lv_iconst (v := 0) hx hb dX3_digest_10 (by decide) ?_
  refine lv_aload_n hx hb dX3_digest_11 rfl (lv_at hl 0 rfl) ?_
  refine va_get (D := γ.1) (ci := 3) (v := .int (nI n)) (C := RX3) (T := TX3) (N := 8) hx hb hts iwX3_digest_3 hown hK hP 0 rfl rfl 1 (by decide) (hts _ flX3_digest_7) (fun _ h9 => h9) rfl dX3_digest_12 ?_
  refine x_iast (f := fun _ => 0) hx hb hK hP hD hS 5 rfl 0 rfl (by omega) (by omega) dX3_digest_15 (fun H locs hP hD hS => ?_)
  have hP : xP γ ([xO m0 3 [.int 0, .int (nI n), .int (nI kc), .int td, .ref m1, .ref m2, .ref m3, .ref m4], xA γ m1 12 f, xA γ m2 12 tf, xA γ m3 72 tg, xA γ m4 14 tp, xA γ q7x 17 (upd (fun _ => 0) 0 (nI n))]) H := hP
  have hD : va_D A ([xO m0 3 [.int 0, .int (nI n), .int (nI kc), .int td, .ref m1, .ref m2, .ref m3, .ref m4], xA γ m1 12 f, xA γ m2 12 tf, xA γ m3 72 tg, xA γ m4 14 tp, xA γ q7x 17 (upd (fun _ => 0) 0 (nI n))]) := hD
  refine lv_dup hx hb dX3_digest_16 rfl ?_
  refine lv_iconst (v := 1) hx hb dX3_digest_17 (by decide) ?_
  refine lv_aload_n hx hb dX3_digest_18 rfl (lv_at hl 0 rfl) ?_
  refine va_get (D := γ.1) (ci := 3) (v := .int (nI kc)) (C := RX3) (T := TX3) (N := 8) hx hb hts iwX3_digest_3 hown hK hP 0 rfl rfl 2 (by decide) (hts _ flX3_digest_33) (fun _ h9 => h9) rfl dX3_digest_19 ?_
  refine x_iast (f := upd (fun _ => 0) 0 (nI n)) hx hb hK hP hD hS 5 rfl 1 rfl (by omega) (by omega) dX3_digest_22 (fun H locs hP hD hS => ?_)
  have hP : xP γ ([xO m0 3 [.int 0, .int (nI n), .int (nI kc), .int td, .ref m1, .ref m2, .ref m3, .ref m4], xA γ m1 12 f, xA γ m2 12 tf, xA γ m3 72 tg, xA γ m4 14 tp, xA γ q7x 17 (upd (upd (fun _ => 0) 0 (nI n)) 1 (nI kc))]) H := hP
  have hD : va_D A ([xO m0 3 [.int 0, .int (nI n), .int (nI kc), .int td, .ref m1, .ref m2, .ref m3, .ref m4], xA γ m1 12 f, xA γ m2 12 tf, xA γ m3 72 tg, xA γ m4 14 tp, xA γ q7x 17 (upd (upd (fun _ => 0) 0 (nI n)) 1 (nI kc))]) := hD
  refine lv_dup hx hb dX3_digest_23 rfl ?_
  refine lv_iconst (v := 2) hx hb dX3_digest_24 (by decide) ?_
  refine lv_aload_n hx hb dX3_digest_25 rfl (lv_at hl 0 rfl) ?_
  refine va_get (D := γ.1) (ci := 3) (v := .int td) (C := RX3) (T := TX3) (N := 8) hx hb hts iwX3_digest_3 hown hK hP 0 rfl rfl 3 (by decide) (hts _ flX3_digest_74) (fun _ h9 => h9) rfl dX3_digest_26 ?_
  refine x_iast (f := upd (upd (fun _ => 0) 0 (nI n)) 1 (nI kc)) hx hb hK hP hD hS 5 rfl 2 rfl (by omega) (by omega) dX3_digest_29 (fun H locs hP hD hS => ?_)
  have hP : xP γ ([xO m0 3 [.int 0, .int (nI n), .int (nI kc), .int td, .ref m1, .ref m2, .ref m3, .ref m4], xA γ m1 12 f, xA γ m2 12 tf, xA γ m3 72 tg, xA γ m4 14 tp, xA γ q7x 17 (upd (upd (upd (fun _ => 0) 0 (nI n)) 1 (nI kc)) 2 td)]) H := hP
  have hD : va_D A ([xO m0 3 [.int 0, .int (nI n), .int (nI kc), .int td, .ref m1, .ref m2, .ref m3, .ref m4], xA γ m1 12 f, xA γ m2 12 tf, xA γ m3 72 tg, xA γ m4 14 tp, xA γ q7x 17 (upd (upd (upd (fun _ => 0) 0 (nI n)) 1 (nI kc)) 2 td)]) := hD
  refine lv_dup hx hb dX3_digest_30 rfl ?_
  refine lv_iconst (v := 3) hx hb dX3_digest_31 (by decide) ?_
  refine lv_aload_n hx hb dX3_digest_32 rfl (lv_at hl 0 rfl) ?_
  refine xVR (q0 := 0) (ci := 3) (As := []) (rest := [.int 3, .ref q7x, .ref q7x]) (stk := [.int (xTot f n), .int 3, .ref q7x, .ref q7x]) ⟨hx, hb, hml, hown, hts⟩ (c_X3_sumOf γ l m0 m1 m2 m3 m4 n kc 0 td f (by omega) (by omega)) (cwV 0 hts gX3_digest_X3_sumOf rfl rfl rfl hdv_X3_sumOf ⟨(Nat.le_of_ble_eq_true rfl), (Nat.le_of_ble_eq_true rfl)⟩) hK hP [0, 1] rfl rfl rfl rfl hl.1 rfl (Nat.le_of_ble_eq_true rfl) dX3_digest_33 ⟨(Nat.le_of_ble_eq_true rfl), (Nat.le_of_ble_eq_true rfl)⟩ rfl ?_
  refine x_iast (f := upd (upd (upd (fun _ => 0) 0 (nI n)) 1 (nI kc)) 2 td) hx hb hK hP hD hS 5 rfl 3 rfl (by omega) (by omega) dX3_digest_36 (fun H locs hP hD hS => ?_)
  have hP : xP γ ([xO m0 3 [.int 0, .int (nI n), .int (nI kc), .int td, .ref m1, .ref m2, .ref m3, .ref m4], xA γ m1 12 f, xA γ m2 12 tf, xA γ m3 72 tg, xA γ m4 14 tp, xA γ q7x 17 (upd (upd (upd (upd (fun _ => 0) 0 (nI n)) 1 (nI kc)) 2 td) 3 (xTot f n))]) H := hP
  have hD : va_D A ([xO m0 3 [.int 0, .int (nI n), .int (nI kc), .int td, .ref m1, .ref m2, .ref m3, .ref m4], xA γ m1 12 f, xA γ m2 12 tf, xA γ m3 72 tg, xA γ m4 14 tp, xA γ q7x 17 (upd (upd (upd (upd (fun _ => 0) 0 (nI n)) 1 (nI kc)) 2 td) 3 (xTot f n))]) := hD
  refine lv_dup hx hb dX3_digest_37 rfl ?_
  refine lv_iconst (v := 4) hx hb dX3_digest_38 (by decide) ?_
  refine lv_aload_n hx hb dX3_digest_39 rfl (lv_at hl 0 rfl) ?_
  refine xVR (q0 := 0) (ci := 3) (As := []) (rest := [.int 4, .ref q7x, .ref q7x]) (stk := [.int (xMm n f), .int 4, .ref q7x, .ref q7x]) ⟨hx, hb, hml, hown, hts⟩ (c_X3_turning γ l m0 m1 m2 m3 m4 n kc 0 td f (by omega) (by omega)) (cwV 0 hts gX3_digest_X3_turning rfl rfl rfl hdv_X3_turning ⟨(Nat.le_of_ble_eq_true rfl), (Nat.le_of_ble_eq_true rfl)⟩) hK hP [0, 1] rfl rfl rfl rfl hl.1 rfl (Nat.le_of_ble_eq_true rfl) dX3_digest_40 ⟨(Nat.le_of_ble_eq_true rfl), (Nat.le_of_ble_eq_true rfl)⟩ rfl ?_
  refine x_iast (f := upd (upd (upd (upd (fun _ => 0) 0 (nI n)) 1 (nI kc)) 2 td) 3 (xTot f n)) hx hb hK hP hD hS 5 rfl 4 rfl (by omega) (by omega) dX3_digest_43 (fun H locs hP hD hS => ?_)
  have hP : xP γ ([xO m0 3 [.int 0, .int (nI n), .int (nI kc), .int td, .ref m1, .ref m2, .ref m3, .ref m4], xA γ m1 12 f, xA γ m2 12 tf, xA γ m3 72 tg, xA γ m4 14 tp, xA γ q7x 17 (upd (upd (upd (upd (upd (fun _ => 0) 0 (nI n)) 1 (nI kc)) 2 td) 3 (xTot f n)) 4 (xMm n f))]) H := hP
  have hD : va_D A ([xO m0 3 [.int 0, .int (nI n), .int (nI kc), .int td, .ref m1, .ref m2, .ref m3, .ref m4], xA γ m1 12 f, xA γ m2 12 tf, xA γ m3 72 tg, xA γ m4 14 tp, xA γ q7x 17 (upd (upd (upd (upd (upd (fun _ => 0) 0 (nI n)) 1 (nI kc)) 2 td) 3 (xTot f n)) 4 (xMm n f))]) := hD
  refine lv_dup hx hb dX3_digest_44 rfl ?_
  refine lv_iconst (v := 5) hx hb dX3_digest_45 (by decide) ?_
  refine lv_aload_n hx hb dX3_digest_46 rfl (lv_at hl 0 rfl) ?_
  refine lv_aload_n hx hb dX3_digest_47 rfl (lv_at hl 0 rfl) ?_
  refine va_get (D := γ.1) (ci := 3) (v := .ref m1) (C := RX3) (T := TX3) (N := 8) hx hb hts iwX3_digest_3 hown hK hP 0 rfl rfl 4 (by decide) (hts _ flX3_digest_13) (fun _ h9 => h9) rfl dX3_digest_48 ?_
  refine xVR (q0 := 0) (ci := 3) (As := [.ref m1]) (rest := [.int 5, .ref q7x, .ref q7x]) (stk := [.int (xSpn n f), .int 5, .ref q7x, .ref q7x]) ⟨hx, hb, hml, hown, hts⟩ (c_X3_wide γ l m0 m1 m2 m3 m4 n kc 0 td m1 f (by omega) (by omega)) (cwV 1 hts gX3_digest_X3_wide rfl rfl rfl hdv_X3_wide ⟨(Nat.le_of_ble_eq_true rfl), (Nat.le_of_ble_eq_true rfl)⟩) hK hP [0, 1] rfl rfl rfl rfl hl.1 rfl (Nat.le_of_ble_eq_true rfl) dX3_digest_51 ⟨(Nat.le_of_ble_eq_true rfl), (Nat.le_of_ble_eq_true rfl)⟩ rfl ?_
  refine x_iast (f := upd (upd (upd (upd (upd (fun _ => 0) 0 (nI n)) 1 (nI kc)) 2 td) 3 (xTot f n)) 4 (xMm n f)) hx hb hK hP hD hS 5 rfl 5 rfl (by omega) (by omega) dX3_digest_54 (fun H locs hP hD hS => ?_)
  have hP : xP γ ([xO m0 3 [.int 0, .int (nI n), .int (nI kc), .int td, .ref m1, .ref m2, .ref m3, .ref m4], xA γ m1 12 f, xA γ m2 12 tf, xA γ m3 72 tg, xA γ m4 14 tp, xA γ q7x 17 (upd (upd (upd (upd (upd (upd (fun _ => 0) 0 (nI n)) 1 (nI kc)) 2 td) 3 (xTot f n)) 4 (xMm n f)) 5 (xSpn n f))]) H := hP
  have hD : va_D A ([xO m0 3 [.int 0, .int (nI n), .int (nI kc), .int td, .ref m1, .ref m2, .ref m3, .ref m4], xA γ m1 12 f, xA γ m2 12 tf, xA γ m3 72 tg, xA γ m4 14 tp, xA γ q7x 17 (upd (upd (upd (upd (upd (upd (fun _ => 0) 0 (nI n)) 1 (nI kc)) 2 td) 3 (xTot f n)) 4 (xMm n f)) 5 (xSpn n f))]) := hD
  refine lv_dup hx hb dX3_digest_55 rfl ?_
  refine lv_bipush (v := 6) hx hb dX3_digest_56 (by decide) ?_
  refine lv_aload_n hx hb dX3_digest_58 rfl (lv_at hl 0 rfl) ?_
  refine xVR (q0 := 0) (ci := 3) (As := []) (rest := [.int 6, .ref q7x, .ref q7x]) (stk := [.int (nI (xTopI f (n - 1))), .int 6, .ref q7x, .ref q7x]) ⟨hx, hb, hml, hown, hts⟩ (c_X3_top γ l m0 m1 m2 m3 m4 n kc 0 td f (by omega) (by omega)) (cwV 0 hts gX3_digest_X3_top rfl rfl rfl hdv_X3_top ⟨(Nat.le_of_ble_eq_true rfl), (Nat.le_of_ble_eq_true rfl)⟩) hK hP [0, 1] rfl rfl rfl rfl hl.1 rfl (Nat.le_of_ble_eq_true rfl) dX3_digest_59 ⟨(Nat.le_of_ble_eq_true rfl), (Nat.le_of_ble_eq_true rfl)⟩ rfl ?_
  refine x_iast (f := upd (upd (upd (upd (upd (upd (fun _ => 0) 0 (nI n)) 1 (nI kc)) 2 td) 3 (xTot f n)) 4 (xMm n f)) 5 (xSpn n f)) hx hb hK hP hD hS 5 rfl 6 rfl (by omega) (by omega) dX3_digest_62 (fun H locs hP hD hS => ?_)
  have hP : xP γ ([xO m0 3 [.int 0, .int (nI n), .int (nI kc), .int td, .ref m1, .ref m2, .ref m3, .ref m4], xA γ m1 12 f, xA γ m2 12 tf, xA γ m3 72 tg, xA γ m4 14 tp, xA γ q7x 17 (upd (upd (upd (upd (upd (upd (upd (fun _ => 0) 0 (nI n)) 1 (nI kc)) 2 td) 3 (xTot f n)) 4 (xMm n f)) 5 (xSpn n f)) 6 (nI (xTopI f (n - 1))))]) H := hP
  have hD : va_D A ([xO m0 3 [.int 0, .int (nI n), .int (nI kc), .int td, .ref m1, .ref m2, .ref m3, .ref m4], xA γ m1 12 f, xA γ m2 12 tf, xA γ m3 72 tg, xA γ m4 14 tp, xA γ q7x 17 (upd (upd (upd (upd (upd (upd (upd (fun _ => 0) 0 (nI n)) 1 (nI kc)) 2 td) 3 (xTot f n)) 4 (xMm n f)) 5 (xSpn n f)) 6 (nI (xTopI f (n - 1))))]) := hD
  refine lv_dup hx hb dX3_digest_63 rfl ?_
  refine lv_bipush (v := 7) hx hb dX3_digest_64 (by decide) ?_
  refine lv_aload_n hx hb dX3_digest_66 rfl (lv_at hl 0 rfl) ?_
  refine xVR (q0 := 0) (ci := 3) (As := []) (rest := [.int 7, .ref q7x, .ref q7x]) (stk := [.int (nI (xCnt (xSt n f) n)), .int 7, .ref q7x, .ref q7x]) ⟨hx, hb, hml, hown, hts⟩ (c_X3_manySteep γ l m0 m1 m2 m3 m4 n kc 0 td f (by omega) (by omega)) (cwV 0 hts gX3_digest_X3_manySteep rfl rfl rfl hdv_X3_manySteep ⟨(Nat.le_of_ble_eq_true rfl), (Nat.le_of_ble_eq_true rfl)⟩) hK hP [0, 1] rfl rfl rfl rfl hl.1 rfl (Nat.le_of_ble_eq_true rfl) dX3_digest_67 ⟨(Nat.le_of_ble_eq_true rfl), (Nat.le_of_ble_eq_true rfl)⟩ rfl ?_
  refine x_iast (f := upd (upd (upd (upd (upd (upd (upd (fun _ => 0) 0 (nI n)) 1 (nI kc)) 2 td) 3 (xTot f n)) 4 (xMm n f)) 5 (xSpn n f)) 6 (nI (xTopI f (n - 1)))) hx hb hK hP hD hS 5 rfl 7 rfl (by omega) (by omega) dX3_digest_70 (fun H locs hP hD hS => ?_)
  have hP : xP γ ([xO m0 3 [.int 0, .int (nI n), .int (nI kc), .int td, .ref m1, .ref m2, .ref m3, .ref m4], xA γ m1 12 f, xA γ m2 12 tf, xA γ m3 72 tg, xA γ m4 14 tp, xA γ q7x 17 (upd (upd (upd (upd (upd (upd (upd (upd (fun _ => 0) 0 (nI n)) 1 (nI kc)) 2 td) 3 (xTot f n)) 4 (xMm n f)) 5 (xSpn n f)) 6 (nI (xTopI f (n - 1)))) 7 (nI (xCnt (xSt n f) n)))]) H := hP
  have hD : va_D A ([xO m0 3 [.int 0, .int (nI n), .int (nI kc), .int td, .ref m1, .ref m2, .ref m3, .ref m4], xA γ m1 12 f, xA γ m2 12 tf, xA γ m3 72 tg, xA γ m4 14 tp, xA γ q7x 17 (upd (upd (upd (upd (upd (upd (upd (upd (fun _ => 0) 0 (nI n)) 1 (nI kc)) 2 td) 3 (xTot f n)) 4 (xMm n f)) 5 (xSpn n f)) 6 (nI (xTopI f (n - 1)))) 7 (nI (xCnt (xSt n f) n)))]) := hD
  refine lv_dup hx hb dX3_digest_71 rfl ?_
  refine lv_bipush (v := 8) hx hb dX3_digest_72 (by decide) ?_
  refine lv_aload_n hx hb dX3_digest_74 rfl (lv_at hl 0 rfl) ?_
  refine lv_aload_n hx hb dX3_digest_75 rfl (lv_at hl 0 rfl) ?_
  refine va_get (D := γ.1) (ci := 3) (v := .ref m1) (C := RX3) (T := TX3) (N := 8) hx hb hts iwX3_digest_3 hown hK hP 0 rfl rfl 4 (by decide) (hts _ flX3_digest_13) (fun _ h9 => h9) rfl dX3_digest_76 ?_
  refine xVR (q0 := 0) (ci := 3) (As := [.ref m1]) (rest := [.int 8, .ref q7x, .ref q7x]) (stk := [.int (xFi (xSt n f) n), .int 8, .ref q7x, .ref q7x]) ⟨hx, hb, hml, hown, hts⟩ (c_X3_firstSteep γ l m0 m1 m2 m3 m4 n kc 0 td m1 f (by omega) (by omega)) (cwV 1 hts gX3_digest_X3_firstSteep rfl rfl rfl hdv_X3_firstSteep ⟨(Nat.le_of_ble_eq_true rfl), (Nat.le_of_ble_eq_true rfl)⟩) hK hP [0, 1] rfl rfl rfl rfl hl.1 rfl (Nat.le_of_ble_eq_true rfl) dX3_digest_79 ⟨(Nat.le_of_ble_eq_true rfl), (Nat.le_of_ble_eq_true rfl)⟩ rfl ?_
  refine x_iast (f := upd (upd (upd (upd (upd (upd (upd (upd (fun _ => 0) 0 (nI n)) 1 (nI kc)) 2 td) 3 (xTot f n)) 4 (xMm n f)) 5 (xSpn n f)) 6 (nI (xTopI f (n - 1)))) 7 (nI (xCnt (xSt n f) n))) hx hb hK hP hD hS 5 rfl 8 rfl (by omega) (by omega) dX3_digest_82 (fun H locs hP hD hS => ?_)
  have hP : xP γ ([xO m0 3 [.int 0, .int (nI n), .int (nI kc), .int td, .ref m1, .ref m2, .ref m3, .ref m4], xA γ m1 12 f, xA γ m2 12 tf, xA γ m3 72 tg, xA γ m4 14 tp, xA γ q7x 17 (upd (upd (upd (upd (upd (upd (upd (upd (upd (fun _ => 0) 0 (nI n)) 1 (nI kc)) 2 td) 3 (xTot f n)) 4 (xMm n f)) 5 (xSpn n f)) 6 (nI (xTopI f (n - 1)))) 7 (nI (xCnt (xSt n f) n))) 8 (xFi (xSt n f) n))]) H := hP
  have hD : va_D A ([xO m0 3 [.int 0, .int (nI n), .int (nI kc), .int td, .ref m1, .ref m2, .ref m3, .ref m4], xA γ m1 12 f, xA γ m2 12 tf, xA γ m3 72 tg, xA γ m4 14 tp, xA γ q7x 17 (upd (upd (upd (upd (upd (upd (upd (upd (upd (fun _ => 0) 0 (nI n)) 1 (nI kc)) 2 td) 3 (xTot f n)) 4 (xMm n f)) 5 (xSpn n f)) 6 (nI (xTopI f (n - 1)))) 7 (nI (xCnt (xSt n f) n))) 8 (xFi (xSt n f) n))]) := hD
  refine lv_dup hx hb dX3_digest_83 rfl ?_
  refine lv_bipush (v := 9) hx hb dX3_digest_84 (by decide) ?_
  refine lv_aload_n hx hb dX3_digest_86 rfl (lv_at hl 0 rfl) ?_
  refine xVR (q0 := 0) (ci := 3) (As := []) (rest := [.int 9, .ref q7x, .ref q7x]) (stk := [.int (nI (xCnt (xLv n f) n)), .int 9, .ref q7x, .ref q7x]) ⟨hx, hb, hml, hown, hts⟩ (c_X3_level γ l m0 m1 m2 m3 m4 n kc 0 td f (by omega) (by omega)) (cwV 0 hts gX3_digest_X3_level rfl rfl rfl hdv_X3_level ⟨(Nat.le_of_ble_eq_true rfl), (Nat.le_of_ble_eq_true rfl)⟩) hK hP [0, 1] rfl rfl rfl rfl hl.1 rfl (Nat.le_of_ble_eq_true rfl) dX3_digest_87 ⟨(Nat.le_of_ble_eq_true rfl), (Nat.le_of_ble_eq_true rfl)⟩ rfl ?_
  refine x_iast (f := upd (upd (upd (upd (upd (upd (upd (upd (upd (fun _ => 0) 0 (nI n)) 1 (nI kc)) 2 td) 3 (xTot f n)) 4 (xMm n f)) 5 (xSpn n f)) 6 (nI (xTopI f (n - 1)))) 7 (nI (xCnt (xSt n f) n))) 8 (xFi (xSt n f) n)) hx hb hK hP hD hS 5 rfl 9 rfl (by omega) (by omega) dX3_digest_90 (fun H locs hP hD hS => ?_)
  have hP : xP γ ([xO m0 3 [.int 0, .int (nI n), .int (nI kc), .int td, .ref m1, .ref m2, .ref m3, .ref m4], xA γ m1 12 f, xA γ m2 12 tf, xA γ m3 72 tg, xA γ m4 14 tp, xA γ q7x 17 (upd (upd (upd (upd (upd (upd (upd (upd (upd (upd (fun _ => 0) 0 (nI n)) 1 (nI kc)) 2 td) 3 (xTot f n)) 4 (xMm n f)) 5 (xSpn n f)) 6 (nI (xTopI f (n - 1)))) 7 (nI (xCnt (xSt n f) n))) 8 (xFi (xSt n f) n)) 9 (nI (xCnt (xLv n f) n)))]) H := hP
  have hD : va_D A ([xO m0 3 [.int 0, .int (nI n), .int (nI kc), .int td, .ref m1, .ref m2, .ref m3, .ref m4], xA γ m1 12 f, xA γ m2 12 tf, xA γ m3 72 tg, xA γ m4 14 tp, xA γ q7x 17 (upd (upd (upd (upd (upd (upd (upd (upd (upd (upd (fun _ => 0) 0 (nI n)) 1 (nI kc)) 2 td) 3 (xTot f n)) 4 (xMm n f)) 5 (xSpn n f)) 6 (nI (xTopI f (n - 1)))) 7 (nI (xCnt (xSt n f) n))) 8 (xFi (xSt n f) n)) 9 (nI (xCnt (xLv n f) n)))]) := hD
  refine lv_dup hx hb dX3_digest_91 rfl ?_
  refine lv_bipush (v := 10) hx hb dX3_digest_92 (by decide) ?_
  refine lv_aload_n hx hb dX3_digest_94 rfl (lv_at hl 0 rfl) ?_
  refine xVR (q0 := 0) (ci := 3) (As := []) (rest := [.int 10, .ref q7x, .ref q7x]) (stk := [.int (nI (xBa (xTlt n f) (n - 1))), .int 10, .ref q7x, .ref q7x]) ⟨hx, hb, hml, hown, hts⟩ (c_X3_flattest γ l m0 m1 m2 m3 m4 n kc 0 td f (by omega) (by omega)) (cwV 0 hts gX3_digest_X3_flattest rfl rfl rfl hdv_X3_flattest ⟨(Nat.le_of_ble_eq_true rfl), (Nat.le_of_ble_eq_true rfl)⟩) hK hP [0, 1] rfl rfl rfl rfl hl.1 rfl (Nat.le_of_ble_eq_true rfl) dX3_digest_95 ⟨(Nat.le_of_ble_eq_true rfl), (Nat.le_of_ble_eq_true rfl)⟩ rfl ?_
  refine x_iast (f := upd (upd (upd (upd (upd (upd (upd (upd (upd (upd (fun _ => 0) 0 (nI n)) 1 (nI kc)) 2 td) 3 (xTot f n)) 4 (xMm n f)) 5 (xSpn n f)) 6 (nI (xTopI f (n - 1)))) 7 (nI (xCnt (xSt n f) n))) 8 (xFi (xSt n f) n)) 9 (nI (xCnt (xLv n f) n))) hx hb hK hP hD hS 5 rfl 10 rfl (by omega) (by omega) dX3_digest_98 (fun H locs hP hD hS => ?_)
  have hP : xP γ ([xO m0 3 [.int 0, .int (nI n), .int (nI kc), .int td, .ref m1, .ref m2, .ref m3, .ref m4], xA γ m1 12 f, xA γ m2 12 tf, xA γ m3 72 tg, xA γ m4 14 tp, xA γ q7x 17 (upd (upd (upd (upd (upd (upd (upd (upd (upd (upd (upd (fun _ => 0) 0 (nI n)) 1 (nI kc)) 2 td) 3 (xTot f n)) 4 (xMm n f)) 5 (xSpn n f)) 6 (nI (xTopI f (n - 1)))) 7 (nI (xCnt (xSt n f) n))) 8 (xFi (xSt n f) n)) 9 (nI (xCnt (xLv n f) n))) 10 (nI (xBa (xTlt n f) (n - 1))))]) H := hP
  have hD : va_D A ([xO m0 3 [.int 0, .int (nI n), .int (nI kc), .int td, .ref m1, .ref m2, .ref m3, .ref m4], xA γ m1 12 f, xA γ m2 12 tf, xA γ m3 72 tg, xA γ m4 14 tp, xA γ q7x 17 (upd (upd (upd (upd (upd (upd (upd (upd (upd (upd (upd (fun _ => 0) 0 (nI n)) 1 (nI kc)) 2 td) 3 (xTot f n)) 4 (xMm n f)) 5 (xSpn n f)) 6 (nI (xTopI f (n - 1)))) 7 (nI (xCnt (xSt n f) n))) 8 (xFi (xSt n f) n)) 9 (nI (xCnt (xLv n f) n))) 10 (nI (xBa (xTlt n f) (n - 1))))]) := hD
  refine lv_dup hx hb dX3_digest_99 rfl ?_
  refine lv_bipush (v := 11) hx hb dX3_digest_100 (by decide) ?_
  refine lv_aload_n hx hb dX3_digest_102 rfl (lv_at hl 0 rfl) ?_
  refine xVM (q0 := 0) (ci := 3) (As := []) (rest := [.int 11, .ref q7x, .ref q7x]) ⟨hx, hb, hml, hown, hts⟩ (c_X3_manySolved γ l m0 m1 m2 m3 m4 n kc 0 td f tg tp (by omega) (by omega) (by omega)) (cwV 0 hts gX3_digest_X3_manySolved rfl rfl rfl hdv_X3_manySolved ⟨(Nat.le_of_ble_eq_true rfl), (Nat.le_of_ble_eq_true rfl)⟩) hK hP hD hS hA [0, 1, 3, 4] rfl rfl rfl rfl rfl hl.1 rfl (Nat.le_of_ble_eq_true rfl) dX3_digest_103 ⟨(Nat.le_of_ble_eq_true rfl), (Nat.le_of_ble_eq_true rfl)⟩ (fun r9 w9 H locs hw hP hD hS => ?_)
  obtain ⟨rfl, h132x, rfl⟩ := hw
  have hP : xP γ ([xO m0 3 [.int 0, .int (nI n), .int (nI kc), .int td, .ref m1, .ref m2, .ref m3, .ref m4], xA γ m1 12 f, xA γ m2 12 tf, xA γ m3 72 tg, xA γ m4 14 h132x, xA γ q7x 17 (upd (upd (upd (upd (upd (upd (upd (upd (upd (upd (upd (fun _ => 0) 0 (nI n)) 1 (nI kc)) 2 td) 3 (xTot f n)) 4 (xMm n f)) 5 (xSpn n f)) 6 (nI (xTopI f (n - 1)))) 7 (nI (xCnt (xSt n f) n))) 8 (xFi (xSt n f) n)) 9 (nI (xCnt (xLv n f) n))) 10 (nI (xBa (xTlt n f) (n - 1))))]) H := hP
  have hD : va_D A ([xO m0 3 [.int 0, .int (nI n), .int (nI kc), .int td, .ref m1, .ref m2, .ref m3, .ref m4], xA γ m1 12 f, xA γ m2 12 tf, xA γ m3 72 tg, xA γ m4 14 h132x, xA γ q7x 17 (upd (upd (upd (upd (upd (upd (upd (upd (upd (upd (upd (fun _ => 0) 0 (nI n)) 1 (nI kc)) 2 td) 3 (xTot f n)) 4 (xMm n f)) 5 (xSpn n f)) 6 (nI (xTopI f (n - 1)))) 7 (nI (xCnt (xSt n f) n))) 8 (xFi (xSt n f) n)) 9 (nI (xCnt (xLv n f) n))) 10 (nI (xBa (xTlt n f) (n - 1))))]) := hD
  refine W.eq (g2 := F0 m 106 ls [.int (nI (xCnt (fun t9 => xSv n f (xGt tg t9)) kc)), .int 11, .ref q7x, .ref q7x]) rfl ?_
  refine x_iast (f := upd (upd (upd (upd (upd (upd (upd (upd (upd (upd (upd (fun _ => 0) 0 (nI n)) 1 (nI kc)) 2 td) 3 (xTot f n)) 4 (xMm n f)) 5 (xSpn n f)) 6 (nI (xTopI f (n - 1)))) 7 (nI (xCnt (xSt n f) n))) 8 (xFi (xSt n f) n)) 9 (nI (xCnt (xLv n f) n))) 10 (nI (xBa (xTlt n f) (n - 1)))) hx hb hK hP hD hS 5 rfl 11 rfl (by omega) (by omega) dX3_digest_106 (fun H locs hP hD hS => ?_)
  have hP : xP γ ([xO m0 3 [.int 0, .int (nI n), .int (nI kc), .int td, .ref m1, .ref m2, .ref m3, .ref m4], xA γ m1 12 f, xA γ m2 12 tf, xA γ m3 72 tg, xA γ m4 14 h132x, xA γ q7x 17 (upd (upd (upd (upd (upd (upd (upd (upd (upd (upd (upd (upd (fun _ => 0) 0 (nI n)) 1 (nI kc)) 2 td) 3 (xTot f n)) 4 (xMm n f)) 5 (xSpn n f)) 6 (nI (xTopI f (n - 1)))) 7 (nI (xCnt (xSt n f) n))) 8 (xFi (xSt n f) n)) 9 (nI (xCnt (xLv n f) n))) 10 (nI (xBa (xTlt n f) (n - 1)))) 11 (nI (xCnt (fun t9 => xSv n f (xGt tg t9)) kc)))]) H := hP
  have hD : va_D A ([xO m0 3 [.int 0, .int (nI n), .int (nI kc), .int td, .ref m1, .ref m2, .ref m3, .ref m4], xA γ m1 12 f, xA γ m2 12 tf, xA γ m3 72 tg, xA γ m4 14 h132x, xA γ q7x 17 (upd (upd (upd (upd (upd (upd (upd (upd (upd (upd (upd (upd (fun _ => 0) 0 (nI n)) 1 (nI kc)) 2 td) 3 (xTot f n)) 4 (xMm n f)) 5 (xSpn n f)) 6 (nI (xTopI f (n - 1)))) 7 (nI (xCnt (xSt n f) n))) 8 (xFi (xSt n f) n)) 9 (nI (xCnt (xLv n f) n))) 10 (nI (xBa (xTlt n f) (n - 1)))) 11 (nI (xCnt (fun t9 => xSv n f (xGt tg t9)) kc)))]) := hD
  refine lv_dup hx hb dX3_digest_107 rfl ?_
  refine lv_bipush (v := 12) hx hb dX3_digest_108 (by decide) ?_
  refine lv_aload_n hx hb dX3_digest_110 rfl (lv_at hl 0 rfl) ?_
  refine xVM (q0 := 0) (ci := 3) (As := []) (rest := [.int 12, .ref q7x, .ref q7x]) ⟨hx, hb, hml, hown, hts⟩ (c_X3_near γ l m0 m1 m2 m3 m4 n kc 0 td f tg h132x (by omega) (by omega) (by omega)) (cwV 0 hts gX3_digest_X3_near rfl rfl rfl hdv_X3_near ⟨(Nat.le_of_ble_eq_true rfl), (Nat.le_of_ble_eq_true rfl)⟩) hK hP hD hS hA [0, 1, 3, 4] rfl rfl rfl rfl rfl hl.1 rfl (Nat.le_of_ble_eq_true rfl) dX3_digest_111 ⟨(Nat.le_of_ble_eq_true rfl), (Nat.le_of_ble_eq_true rfl)⟩ (fun r9 w9 H locs hw hP hD hS => ?_)
  obtain ⟨rfl, h133x, rfl⟩ := hw
  have hP : xP γ ([xO m0 3 [.int 0, .int (nI n), .int (nI kc), .int td, .ref m1, .ref m2, .ref m3, .ref m4], xA γ m1 12 f, xA γ m2 12 tf, xA γ m3 72 tg, xA γ m4 14 h133x, xA γ q7x 17 (upd (upd (upd (upd (upd (upd (upd (upd (upd (upd (upd (upd (fun _ => 0) 0 (nI n)) 1 (nI kc)) 2 td) 3 (xTot f n)) 4 (xMm n f)) 5 (xSpn n f)) 6 (nI (xTopI f (n - 1)))) 7 (nI (xCnt (xSt n f) n))) 8 (xFi (xSt n f) n)) 9 (nI (xCnt (xLv n f) n))) 10 (nI (xBa (xTlt n f) (n - 1)))) 11 (nI (xCnt (fun t9 => xSv n f (xGt tg t9)) kc)))]) H := hP
  have hD : va_D A ([xO m0 3 [.int 0, .int (nI n), .int (nI kc), .int td, .ref m1, .ref m2, .ref m3, .ref m4], xA γ m1 12 f, xA γ m2 12 tf, xA γ m3 72 tg, xA γ m4 14 h133x, xA γ q7x 17 (upd (upd (upd (upd (upd (upd (upd (upd (upd (upd (upd (upd (fun _ => 0) 0 (nI n)) 1 (nI kc)) 2 td) 3 (xTot f n)) 4 (xMm n f)) 5 (xSpn n f)) 6 (nI (xTopI f (n - 1)))) 7 (nI (xCnt (xSt n f) n))) 8 (xFi (xSt n f) n)) 9 (nI (xCnt (xLv n f) n))) 10 (nI (xBa (xTlt n f) (n - 1)))) 11 (nI (xCnt (fun t9 => xSv n f (xGt tg t9)) kc)))]) := hD
  refine W.eq (g2 := F0 m 114 ls [.int ((xNrM (fun t9 => xFewM n f (xGt tg t9)) kc).1), .int 12, .ref q7x, .ref q7x]) rfl ?_
  refine x_iast (f := upd (upd (upd (upd (upd (upd (upd (upd (upd (upd (upd (upd (fun _ => 0) 0 (nI n)) 1 (nI kc)) 2 td) 3 (xTot f n)) 4 (xMm n f)) 5 (xSpn n f)) 6 (nI (xTopI f (n - 1)))) 7 (nI (xCnt (xSt n f) n))) 8 (xFi (xSt n f) n)) 9 (nI (xCnt (xLv n f) n))) 10 (nI (xBa (xTlt n f) (n - 1)))) 11 (nI (xCnt (fun t9 => xSv n f (xGt tg t9)) kc))) hx hb hK hP hD hS 5 rfl 12 rfl (by omega) (by omega) dX3_digest_114 (fun H locs hP hD hS => ?_)
  have hP : xP γ ([xO m0 3 [.int 0, .int (nI n), .int (nI kc), .int td, .ref m1, .ref m2, .ref m3, .ref m4], xA γ m1 12 f, xA γ m2 12 tf, xA γ m3 72 tg, xA γ m4 14 h133x, xA γ q7x 17 (upd (upd (upd (upd (upd (upd (upd (upd (upd (upd (upd (upd (upd (fun _ => 0) 0 (nI n)) 1 (nI kc)) 2 td) 3 (xTot f n)) 4 (xMm n f)) 5 (xSpn n f)) 6 (nI (xTopI f (n - 1)))) 7 (nI (xCnt (xSt n f) n))) 8 (xFi (xSt n f) n)) 9 (nI (xCnt (xLv n f) n))) 10 (nI (xBa (xTlt n f) (n - 1)))) 11 (nI (xCnt (fun t9 => xSv n f (xGt tg t9)) kc))) 12 ((xNrM (fun t9 => xFewM n f (xGt tg t9)) kc).1))]) H := hP
  have hD : va_D A ([xO m0 3 [.int 0, .int (nI n), .int (nI kc), .int td, .ref m1, .ref m2, .ref m3, .ref m4], xA γ m1 12 f, xA γ m2 12 tf, xA γ m3 72 tg, xA γ m4 14 h133x, xA γ q7x 17 (upd (upd (upd (upd (upd (upd (upd (upd (upd (upd (upd (upd (upd (fun _ => 0) 0 (nI n)) 1 (nI kc)) 2 td) 3 (xTot f n)) 4 (xMm n f)) 5 (xSpn n f)) 6 (nI (xTopI f (n - 1)))) 7 (nI (xCnt (xSt n f) n))) 8 (xFi (xSt n f) n)) 9 (nI (xCnt (xLv n f) n))) 10 (nI (xBa (xTlt n f) (n - 1)))) 11 (nI (xCnt (fun t9 => xSv n f (xGt tg t9)) kc))) 12 ((xNrM (fun t9 => xFewM n f (xGt tg t9)) kc).1))]) := hD
  refine lv_dup hx hb dX3_digest_115 rfl ?_
  refine lv_bipush (v := 13) hx hb dX3_digest_116 (by decide) ?_
  refine lv_aload_n hx hb dX3_digest_118 rfl (lv_at hl 0 rfl) ?_
  refine xVM (q0 := 0) (ci := 3) (As := []) (rest := [.int 13, .ref q7x, .ref q7x]) ⟨hx, hb, hml, hown, hts⟩ (c_X3_rest γ l m0 m1 m2 m3 m4 n kc 0 td f tf (by omega) (by omega)) (cwV 0 hts gX3_digest_X3_rest rfl rfl rfl hdv_X3_rest ⟨(Nat.le_of_ble_eq_true rfl), (Nat.le_of_ble_eq_true rfl)⟩) hK hP hD hS hA [0, 1, 2] rfl rfl rfl rfl rfl hl.1 rfl (Nat.le_of_ble_eq_true rfl) dX3_digest_119 ⟨(Nat.le_of_ble_eq_true rfl), (Nat.le_of_ble_eq_true rfl)⟩ (fun r9 w9 H locs hw hP hD hS => ?_)
  obtain ⟨rfl, rfl⟩ := hw
  have hP : xP γ ([xO m0 3 [.int 0, .int (nI n), .int (nI kc), .int td, .ref m1, .ref m2, .ref m3, .ref m4], xA γ m1 12 f, xA γ m2 12 ((xStl n 300 f).2), xA γ m3 72 tg, xA γ m4 14 h133x, xA γ q7x 17 (upd (upd (upd (upd (upd (upd (upd (upd (upd (upd (upd (upd (upd (fun _ => 0) 0 (nI n)) 1 (nI kc)) 2 td) 3 (xTot f n)) 4 (xMm n f)) 5 (xSpn n f)) 6 (nI (xTopI f (n - 1)))) 7 (nI (xCnt (xSt n f) n))) 8 (xFi (xSt n f) n)) 9 (nI (xCnt (xLv n f) n))) 10 (nI (xBa (xTlt n f) (n - 1)))) 11 (nI (xCnt (fun t9 => xSv n f (xGt tg t9)) kc))) 12 ((xNrM (fun t9 => xFewM n f (xGt tg t9)) kc).1))]) H := hP
  have hD : va_D A ([xO m0 3 [.int 0, .int (nI n), .int (nI kc), .int td, .ref m1, .ref m2, .ref m3, .ref m4], xA γ m1 12 f, xA γ m2 12 ((xStl n 300 f).2), xA γ m3 72 tg, xA γ m4 14 h133x, xA γ q7x 17 (upd (upd (upd (upd (upd (upd (upd (upd (upd (upd (upd (upd (upd (fun _ => 0) 0 (nI n)) 1 (nI kc)) 2 td) 3 (xTot f n)) 4 (xMm n f)) 5 (xSpn n f)) 6 (nI (xTopI f (n - 1)))) 7 (nI (xCnt (xSt n f) n))) 8 (xFi (xSt n f) n)) 9 (nI (xCnt (xLv n f) n))) 10 (nI (xBa (xTlt n f) (n - 1)))) 11 (nI (xCnt (fun t9 => xSv n f (xGt tg t9)) kc))) 12 ((xNrM (fun t9 => xFewM n f (xGt tg t9)) kc).1))]) := hD
  refine W.eq (g2 := F0 m 122 ls [.int (xRsM n f), .int 13, .ref q7x, .ref q7x]) rfl ?_
  refine x_iast (f := upd (upd (upd (upd (upd (upd (upd (upd (upd (upd (upd (upd (upd (fun _ => 0) 0 (nI n)) 1 (nI kc)) 2 td) 3 (xTot f n)) 4 (xMm n f)) 5 (xSpn n f)) 6 (nI (xTopI f (n - 1)))) 7 (nI (xCnt (xSt n f) n))) 8 (xFi (xSt n f) n)) 9 (nI (xCnt (xLv n f) n))) 10 (nI (xBa (xTlt n f) (n - 1)))) 11 (nI (xCnt (fun t9 => xSv n f (xGt tg t9)) kc))) 12 ((xNrM (fun t9 => xFewM n f (xGt tg t9)) kc).1)) hx hb hK hP hD hS 5 rfl 13 rfl (by omega) (by omega) dX3_digest_122 (fun H locs hP hD hS => ?_)
  have hP : xP γ ([xO m0 3 [.int 0, .int (nI n), .int (nI kc), .int td, .ref m1, .ref m2, .ref m3, .ref m4], xA γ m1 12 f, xA γ m2 12 ((xStl n 300 f).2), xA γ m3 72 tg, xA γ m4 14 h133x, xA γ q7x 17 (upd (upd (upd (upd (upd (upd (upd (upd (upd (upd (upd (upd (upd (upd (fun _ => 0) 0 (nI n)) 1 (nI kc)) 2 td) 3 (xTot f n)) 4 (xMm n f)) 5 (xSpn n f)) 6 (nI (xTopI f (n - 1)))) 7 (nI (xCnt (xSt n f) n))) 8 (xFi (xSt n f) n)) 9 (nI (xCnt (xLv n f) n))) 10 (nI (xBa (xTlt n f) (n - 1)))) 11 (nI (xCnt (fun t9 => xSv n f (xGt tg t9)) kc))) 12 ((xNrM (fun t9 => xFewM n f (xGt tg t9)) kc).1)) 13 (xRsM n f))]) H := hP
  have hD : va_D A ([xO m0 3 [.int 0, .int (nI n), .int (nI kc), .int td, .ref m1, .ref m2, .ref m3, .ref m4], xA γ m1 12 f, xA γ m2 12 ((xStl n 300 f).2), xA γ m3 72 tg, xA γ m4 14 h133x, xA γ q7x 17 (upd (upd (upd (upd (upd (upd (upd (upd (upd (upd (upd (upd (upd (upd (fun _ => 0) 0 (nI n)) 1 (nI kc)) 2 td) 3 (xTot f n)) 4 (xMm n f)) 5 (xSpn n f)) 6 (nI (xTopI f (n - 1)))) 7 (nI (xCnt (xSt n f) n))) 8 (xFi (xSt n f) n)) 9 (nI (xCnt (xLv n f) n))) 10 (nI (xBa (xTlt n f) (n - 1)))) 11 (nI (xCnt (fun t9 => xSv n f (xGt tg t9)) kc))) 12 ((xNrM (fun t9 => xFewM n f (xGt tg t9)) kc).1)) 13 (xRsM n f))]) := hD
  refine lv_dup hx hb dX3_digest_123 rfl ?_
  refine lv_bipush (v := 14) hx hb dX3_digest_124 (by decide) ?_
  refine lv_aload_n hx hb dX3_digest_126 rfl (lv_at hl 0 rfl) ?_
  refine xVM (q0 := 0) (ci := 3) (As := []) (rest := [.int 14, .ref q7x, .ref q7x]) ⟨hx, hb, hml, hown, hts⟩ (c_X3_wideAtRest γ l m0 m1 m2 m3 m4 n kc 0 td f ((xStl n 300 f).2) (by omega) (by omega)) (cwV 0 hts gX3_digest_X3_wideAtRest rfl rfl rfl hdv_X3_wideAtRest ⟨(Nat.le_of_ble_eq_true rfl), (Nat.le_of_ble_eq_true rfl)⟩) hK hP hD hS hA [0, 1, 2] rfl rfl rfl rfl rfl hl.1 rfl (Nat.le_of_ble_eq_true rfl) dX3_digest_127 ⟨(Nat.le_of_ble_eq_true rfl), (Nat.le_of_ble_eq_true rfl)⟩ (fun r9 w9 H locs hw hP hD hS => ?_)
  obtain ⟨rfl, h135x, rfl⟩ := hw
  have hP : xP γ ([xO m0 3 [.int 0, .int (nI n), .int (nI kc), .int td, .ref m1, .ref m2, .ref m3, .ref m4], xA γ m1 12 f, xA γ m2 12 h135x, xA γ m3 72 tg, xA γ m4 14 h133x, xA γ q7x 17 (upd (upd (upd (upd (upd (upd (upd (upd (upd (upd (upd (upd (upd (upd (fun _ => 0) 0 (nI n)) 1 (nI kc)) 2 td) 3 (xTot f n)) 4 (xMm n f)) 5 (xSpn n f)) 6 (nI (xTopI f (n - 1)))) 7 (nI (xCnt (xSt n f) n))) 8 (xFi (xSt n f) n)) 9 (nI (xCnt (xLv n f) n))) 10 (nI (xBa (xTlt n f) (n - 1)))) 11 (nI (xCnt (fun t9 => xSv n f (xGt tg t9)) kc))) 12 ((xNrM (fun t9 => xFewM n f (xGt tg t9)) kc).1)) 13 (xRsM n f))]) H := hP
  have hD : va_D A ([xO m0 3 [.int 0, .int (nI n), .int (nI kc), .int td, .ref m1, .ref m2, .ref m3, .ref m4], xA γ m1 12 f, xA γ m2 12 h135x, xA γ m3 72 tg, xA γ m4 14 h133x, xA γ q7x 17 (upd (upd (upd (upd (upd (upd (upd (upd (upd (upd (upd (upd (upd (upd (fun _ => 0) 0 (nI n)) 1 (nI kc)) 2 td) 3 (xTot f n)) 4 (xMm n f)) 5 (xSpn n f)) 6 (nI (xTopI f (n - 1)))) 7 (nI (xCnt (xSt n f) n))) 8 (xFi (xSt n f) n)) 9 (nI (xCnt (xLv n f) n))) 10 (nI (xBa (xTlt n f) (n - 1)))) 11 (nI (xCnt (fun t9 => xSv n f (xGt tg t9)) kc))) 12 ((xNrM (fun t9 => xFewM n f (xGt tg t9)) kc).1)) 13 (xRsM n f))]) := hD
  refine W.eq (g2 := F0 m 130 ls [.int (xSrM n f), .int 14, .ref q7x, .ref q7x]) rfl ?_
  refine x_iast (f := upd (upd (upd (upd (upd (upd (upd (upd (upd (upd (upd (upd (upd (upd (fun _ => 0) 0 (nI n)) 1 (nI kc)) 2 td) 3 (xTot f n)) 4 (xMm n f)) 5 (xSpn n f)) 6 (nI (xTopI f (n - 1)))) 7 (nI (xCnt (xSt n f) n))) 8 (xFi (xSt n f) n)) 9 (nI (xCnt (xLv n f) n))) 10 (nI (xBa (xTlt n f) (n - 1)))) 11 (nI (xCnt (fun t9 => xSv n f (xGt tg t9)) kc))) 12 ((xNrM (fun t9 => xFewM n f (xGt tg t9)) kc).1)) 13 (xRsM n f)) hx hb hK hP hD hS 5 rfl 14 rfl (by omega) (by omega) dX3_digest_130 (fun H locs hP hD hS => ?_)
  have hP : xP γ ([xO m0 3 [.int 0, .int (nI n), .int (nI kc), .int td, .ref m1, .ref m2, .ref m3, .ref m4], xA γ m1 12 f, xA γ m2 12 h135x, xA γ m3 72 tg, xA γ m4 14 h133x, xA γ q7x 17 (upd (upd (upd (upd (upd (upd (upd (upd (upd (upd (upd (upd (upd (upd (upd (fun _ => 0) 0 (nI n)) 1 (nI kc)) 2 td) 3 (xTot f n)) 4 (xMm n f)) 5 (xSpn n f)) 6 (nI (xTopI f (n - 1)))) 7 (nI (xCnt (xSt n f) n))) 8 (xFi (xSt n f) n)) 9 (nI (xCnt (xLv n f) n))) 10 (nI (xBa (xTlt n f) (n - 1)))) 11 (nI (xCnt (fun t9 => xSv n f (xGt tg t9)) kc))) 12 ((xNrM (fun t9 => xFewM n f (xGt tg t9)) kc).1)) 13 (xRsM n f)) 14 (xSrM n f))]) H := hP
  have hD : va_D A ([xO m0 3 [.int 0, .int (nI n), .int (nI kc), .int td, .ref m1, .ref m2, .ref m3, .ref m4], xA γ m1 12 f, xA γ m2 12 h135x, xA γ m3 72 tg, xA γ m4 14 h133x, xA γ q7x 17 (upd (upd (upd (upd (upd (upd (upd (upd (upd (upd (upd (upd (upd (upd (upd (fun _ => 0) 0 (nI n)) 1 (nI kc)) 2 td) 3 (xTot f n)) 4 (xMm n f)) 5 (xSpn n f)) 6 (nI (xTopI f (n - 1)))) 7 (nI (xCnt (xSt n f) n))) 8 (xFi (xSt n f) n)) 9 (nI (xCnt (xLv n f) n))) 10 (nI (xBa (xTlt n f) (n - 1)))) 11 (nI (xCnt (fun t9 => xSv n f (xGt tg t9)) kc))) 12 ((xNrM (fun t9 => xFewM n f (xGt tg t9)) kc).1)) 13 (xRsM n f)) 14 (xSrM n f))]) := hD
  refine lv_dup hx hb dX3_digest_131 rfl ?_
  refine lv_bipush (v := 15) hx hb dX3_digest_132 (by decide) ?_
  refine lv_aload_n hx hb dX3_digest_134 rfl (lv_at hl 0 rfl) ?_
  refine xVM (q0 := 0) (ci := 3) (As := []) (rest := [.int 15, .ref q7x, .ref q7x]) ⟨hx, hb, hml, hown, hts⟩ (c_X3_best γ l m0 m1 m2 m3 m4 n kc 0 td f h135x (by omega) (by omega)) (cwV 0 hts gX3_digest_X3_best rfl rfl rfl hdv_X3_best ⟨(Nat.le_of_ble_eq_true rfl), (Nat.le_of_ble_eq_true rfl)⟩) hK hP hD hS hA [0, 1, 2] rfl rfl rfl rfl rfl hl.1 rfl (Nat.le_of_ble_eq_true rfl) dX3_digest_135 ⟨(Nat.le_of_ble_eq_true rfl), (Nat.le_of_ble_eq_true rfl)⟩ (fun r9 w9 H locs hw hP hD hS => ?_)
  obtain ⟨rfl, h136x, rfl⟩ := hw
  have hP : xP γ ([xO m0 3 [.int 0, .int (nI n), .int (nI kc), .int td, .ref m1, .ref m2, .ref m3, .ref m4], xA γ m1 12 f, xA γ m2 12 h136x, xA γ m3 72 tg, xA γ m4 14 h133x, xA γ q7x 17 (upd (upd (upd (upd (upd (upd (upd (upd (upd (upd (upd (upd (upd (upd (upd (fun _ => 0) 0 (nI n)) 1 (nI kc)) 2 td) 3 (xTot f n)) 4 (xMm n f)) 5 (xSpn n f)) 6 (nI (xTopI f (n - 1)))) 7 (nI (xCnt (xSt n f) n))) 8 (xFi (xSt n f) n)) 9 (nI (xCnt (xLv n f) n))) 10 (nI (xBa (xTlt n f) (n - 1)))) 11 (nI (xCnt (fun t9 => xSv n f (xGt tg t9)) kc))) 12 ((xNrM (fun t9 => xFewM n f (xGt tg t9)) kc).1)) 13 (xRsM n f)) 14 (xSrM n f))]) H := hP
  have hD : va_D A ([xO m0 3 [.int 0, .int (nI n), .int (nI kc), .int td, .ref m1, .ref m2, .ref m3, .ref m4], xA γ m1 12 f, xA γ m2 12 h136x, xA γ m3 72 tg, xA γ m4 14 h133x, xA γ q7x 17 (upd (upd (upd (upd (upd (upd (upd (upd (upd (upd (upd (upd (upd (upd (upd (fun _ => 0) 0 (nI n)) 1 (nI kc)) 2 td) 3 (xTot f n)) 4 (xMm n f)) 5 (xSpn n f)) 6 (nI (xTopI f (n - 1)))) 7 (nI (xCnt (xSt n f) n))) 8 (xFi (xSt n f) n)) 9 (nI (xCnt (xLv n f) n))) 10 (nI (xBa (xTlt n f) (n - 1)))) 11 (nI (xCnt (fun t9 => xSv n f (xGt tg t9)) kc))) 12 ((xNrM (fun t9 => xFewM n f (xGt tg t9)) kc).1)) 13 (xRsM n f)) 14 (xSrM n f))]) := hD
  refine W.eq (g2 := F0 m 138 ls [.int ((xBp n f n).1), .int 15, .ref q7x, .ref q7x]) rfl ?_
  refine x_iast (f := upd (upd (upd (upd (upd (upd (upd (upd (upd (upd (upd (upd (upd (upd (upd (fun _ => 0) 0 (nI n)) 1 (nI kc)) 2 td) 3 (xTot f n)) 4 (xMm n f)) 5 (xSpn n f)) 6 (nI (xTopI f (n - 1)))) 7 (nI (xCnt (xSt n f) n))) 8 (xFi (xSt n f) n)) 9 (nI (xCnt (xLv n f) n))) 10 (nI (xBa (xTlt n f) (n - 1)))) 11 (nI (xCnt (fun t9 => xSv n f (xGt tg t9)) kc))) 12 ((xNrM (fun t9 => xFewM n f (xGt tg t9)) kc).1)) 13 (xRsM n f)) 14 (xSrM n f)) hx hb hK hP hD hS 5 rfl 15 rfl (by omega) (by omega) dX3_digest_138 (fun H locs hP hD hS => ?_)
  have hP : xP γ ([xO m0 3 [.int 0, .int (nI n), .int (nI kc), .int td, .ref m1, .ref m2, .ref m3, .ref m4], xA γ m1 12 f, xA γ m2 12 h136x, xA γ m3 72 tg, xA γ m4 14 h133x, xA γ q7x 17 (upd (upd (upd (upd (upd (upd (upd (upd (upd (upd (upd (upd (upd (upd (upd (upd (fun _ => 0) 0 (nI n)) 1 (nI kc)) 2 td) 3 (xTot f n)) 4 (xMm n f)) 5 (xSpn n f)) 6 (nI (xTopI f (n - 1)))) 7 (nI (xCnt (xSt n f) n))) 8 (xFi (xSt n f) n)) 9 (nI (xCnt (xLv n f) n))) 10 (nI (xBa (xTlt n f) (n - 1)))) 11 (nI (xCnt (fun t9 => xSv n f (xGt tg t9)) kc))) 12 ((xNrM (fun t9 => xFewM n f (xGt tg t9)) kc).1)) 13 (xRsM n f)) 14 (xSrM n f)) 15 ((xBp n f n).1))]) H := hP
  have hD : va_D A ([xO m0 3 [.int 0, .int (nI n), .int (nI kc), .int td, .ref m1, .ref m2, .ref m3, .ref m4], xA γ m1 12 f, xA γ m2 12 h136x, xA γ m3 72 tg, xA γ m4 14 h133x, xA γ q7x 17 (upd (upd (upd (upd (upd (upd (upd (upd (upd (upd (upd (upd (upd (upd (upd (upd (fun _ => 0) 0 (nI n)) 1 (nI kc)) 2 td) 3 (xTot f n)) 4 (xMm n f)) 5 (xSpn n f)) 6 (nI (xTopI f (n - 1)))) 7 (nI (xCnt (xSt n f) n))) 8 (xFi (xSt n f) n)) 9 (nI (xCnt (xLv n f) n))) 10 (nI (xBa (xTlt n f) (n - 1)))) 11 (nI (xCnt (fun t9 => xSv n f (xGt tg t9)) kc))) 12 ((xNrM (fun t9 => xFewM n f (xGt tg t9)) kc).1)) 13 (xRsM n f)) 14 (xSrM n f)) 15 ((xBp n f n).1))]) := hD
  refine lv_dup hx hb dX3_digest_139 rfl ?_
  refine lv_bipush (v := 16) hx hb dX3_digest_140 (by decide) ?_
  refine lv_aload_n hx hb dX3_digest_142 rfl (lv_at hl 0 rfl) ?_
  refine lv_iconst (v := 0) hx hb dX3_digest_143 (by decide) ?_
  refine xVM (q0 := 0) (ci := 3) (As := [.int 0]) (rest := [.int 16, .ref q7x, .ref q7x]) ⟨hx, hb, hml, hown, hts⟩ (c_X3_fitsA γ l m0 m1 m2 m3 m4 n kc 0 td f tg h133x 0 (by omega) (by omega) (by omega)) (cwV 1 hts gX3_digest_X3_fits rfl rfl rfl hdv_X3_fits ⟨(Nat.le_of_ble_eq_true rfl), (Nat.le_of_ble_eq_true rfl)⟩) hK hP hD hS hA [0, 1, 3, 4] rfl rfl rfl rfl rfl hl.1 rfl (Nat.le_of_ble_eq_true rfl) dX3_digest_144 ⟨(Nat.le_of_ble_eq_true rfl), (Nat.le_of_ble_eq_true rfl)⟩ (fun r9 w9 H locs hw hP hD hS => ?_)
  obtain ⟨rfl, h137x, rfl⟩ := hw
  have hP : xP γ ([xO m0 3 [.int 0, .int (nI n), .int (nI kc), .int td, .ref m1, .ref m2, .ref m3, .ref m4], xA γ m1 12 f, xA γ m2 12 h136x, xA γ m3 72 tg, xA γ m4 14 h137x, xA γ q7x 17 (upd (upd (upd (upd (upd (upd (upd (upd (upd (upd (upd (upd (upd (upd (upd (upd (fun _ => 0) 0 (nI n)) 1 (nI kc)) 2 td) 3 (xTot f n)) 4 (xMm n f)) 5 (xSpn n f)) 6 (nI (xTopI f (n - 1)))) 7 (nI (xCnt (xSt n f) n))) 8 (xFi (xSt n f) n)) 9 (nI (xCnt (xLv n f) n))) 10 (nI (xBa (xTlt n f) (n - 1)))) 11 (nI (xCnt (fun t9 => xSv n f (xGt tg t9)) kc))) 12 ((xNrM (fun t9 => xFewM n f (xGt tg t9)) kc).1)) 13 (xRsM n f)) 14 (xSrM n f)) 15 ((xBp n f n).1))]) H := hP
  have hD : va_D A ([xO m0 3 [.int 0, .int (nI n), .int (nI kc), .int td, .ref m1, .ref m2, .ref m3, .ref m4], xA γ m1 12 f, xA γ m2 12 h136x, xA γ m3 72 tg, xA γ m4 14 h137x, xA γ q7x 17 (upd (upd (upd (upd (upd (upd (upd (upd (upd (upd (upd (upd (upd (upd (upd (upd (fun _ => 0) 0 (nI n)) 1 (nI kc)) 2 td) 3 (xTot f n)) 4 (xMm n f)) 5 (xSpn n f)) 6 (nI (xTopI f (n - 1)))) 7 (nI (xCnt (xSt n f) n))) 8 (xFi (xSt n f) n)) 9 (nI (xCnt (xLv n f) n))) 10 (nI (xBa (xTlt n f) (n - 1)))) 11 (nI (xCnt (fun t9 => xSv n f (xGt tg t9)) kc))) 12 ((xNrM (fun t9 => xFewM n f (xGt tg t9)) kc).1)) 13 (xRsM n f)) 14 (xSrM n f)) 15 ((xBp n f n).1))]) := hD
  refine W.eq (g2 := F0 m 147 ls [.int (xPlM n kc f tg 0), .int 16, .ref q7x, .ref q7x]) rfl ?_
  refine x_iast (f := upd (upd (upd (upd (upd (upd (upd (upd (upd (upd (upd (upd (upd (upd (upd (upd (fun _ => 0) 0 (nI n)) 1 (nI kc)) 2 td) 3 (xTot f n)) 4 (xMm n f)) 5 (xSpn n f)) 6 (nI (xTopI f (n - 1)))) 7 (nI (xCnt (xSt n f) n))) 8 (xFi (xSt n f) n)) 9 (nI (xCnt (xLv n f) n))) 10 (nI (xBa (xTlt n f) (n - 1)))) 11 (nI (xCnt (fun t9 => xSv n f (xGt tg t9)) kc))) 12 ((xNrM (fun t9 => xFewM n f (xGt tg t9)) kc).1)) 13 (xRsM n f)) 14 (xSrM n f)) 15 ((xBp n f n).1)) hx hb hK hP hD hS 5 rfl 16 rfl (by omega) (by omega) dX3_digest_147 (fun H locs hP hD hS => ?_)
  have hP : xP γ ([xO m0 3 [.int 0, .int (nI n), .int (nI kc), .int td, .ref m1, .ref m2, .ref m3, .ref m4], xA γ m1 12 f, xA γ m2 12 h136x, xA γ m3 72 tg, xA γ m4 14 h137x, xA γ q7x 17 (upd (upd (upd (upd (upd (upd (upd (upd (upd (upd (upd (upd (upd (upd (upd (upd (upd (fun _ => 0) 0 (nI n)) 1 (nI kc)) 2 td) 3 (xTot f n)) 4 (xMm n f)) 5 (xSpn n f)) 6 (nI (xTopI f (n - 1)))) 7 (nI (xCnt (xSt n f) n))) 8 (xFi (xSt n f) n)) 9 (nI (xCnt (xLv n f) n))) 10 (nI (xBa (xTlt n f) (n - 1)))) 11 (nI (xCnt (fun t9 => xSv n f (xGt tg t9)) kc))) 12 ((xNrM (fun t9 => xFewM n f (xGt tg t9)) kc).1)) 13 (xRsM n f)) 14 (xSrM n f)) 15 ((xBp n f n).1)) 16 (xPlM n kc f tg 0))]) H := hP
  have hD : va_D A ([xO m0 3 [.int 0, .int (nI n), .int (nI kc), .int td, .ref m1, .ref m2, .ref m3, .ref m4], xA γ m1 12 f, xA γ m2 12 h136x, xA γ m3 72 tg, xA γ m4 14 h137x, xA γ q7x 17 (upd (upd (upd (upd (upd (upd (upd (upd (upd (upd (upd (upd (upd (upd (upd (upd (upd (fun _ => 0) 0 (nI n)) 1 (nI kc)) 2 td) 3 (xTot f n)) 4 (xMm n f)) 5 (xSpn n f)) 6 (nI (xTopI f (n - 1)))) 7 (nI (xCnt (xSt n f) n))) 8 (xFi (xSt n f) n)) 9 (nI (xCnt (xLv n f) n))) 10 (nI (xBa (xTlt n f) (n - 1)))) 11 (nI (xCnt (fun t9 => xSv n f (xGt tg t9)) kc))) 12 ((xNrM (fun t9 => xFewM n f (xGt tg t9)) kc).1)) 13 (xRsM n f)) 14 (xSrM n f)) 15 ((xBp n f n).1)) 16 (xPlM n kc f tg 0))]) := hD
  obtain ⟨z, ez⟩ : ∃ z9 : xRow, z9 = upd (upd (upd (upd (upd (upd (upd (upd (upd (upd (upd (upd (upd (upd (upd (upd (upd (fun _ => 0) 0 (nI n)) 1 (nI kc)) 2 td) 3 (xTot f n)) 4 (xMm n f)) 5 (xSpn n f)) 6 (nI (xTopI f (n - 1)))) 7 (nI (xCnt (xSt n f) n))) 8 (xFi (xSt n f) n)) 9 (nI (xCnt (xLv n f) n))) 10 (nI (xBa (xTlt n f) (n - 1)))) 11 (nI (xCnt (fun t9 => xSv n f (xGt tg t9)) kc))) 12 ((xNrM (fun t9 => xFewM n f (xGt tg t9)) kc).1)) 13 (xRsM n f)) 14 (xSrM n f)) 15 ((xBp n f n).1)) 16 (xPlM n kc f tg 0) := ⟨_, rfl⟩
  rw [← ez] at hP hD
  have hP : xP γ ([xO m0 3 [.int 0, .int (nI n), .int (nI kc), .int td, .ref m1, .ref m2, .ref m3, .ref m4], xA γ m1 12 f, xA γ m2 12 h136x, xA γ m3 72 tg, xA γ m4 14 h137x, xA γ q7x 17 z]) H := hP
  have hD : va_D A ([xO m0 3 [.int 0, .int (nI n), .int (nI kc), .int td, .ref m1, .ref m2, .ref m3, .ref m4], xA γ m1 12 f, xA γ m2 12 h136x, xA γ m3 72 tg, xA γ m4 14 h137x, xA γ q7x 17 z]) := hD
  refine lv_astore_n (lv' := [(1, .ref q7x), (0, .ref m0)]) hx hb dX3_digest_148 rfl hl (by decide) rfl (fun ls hl => ?_)
  refine lv_ldc2 hx hb hown (hts _ wdX3_digest_c163) dX3_digest_149 ?_
  refine lv_lstore_n (lv' := [(2, .long 2333), (1, .ref q7x), (0, .ref m0)]) hx hb dX3_digest_152 rfl hl (by decide) rfl (fun ls hl => ?_)
  refine lv_aload_n hx hb dX3_digest_153 rfl (lv_at hl 1 rfl) ?_
  refine lv_astore (lv' := [(4, .ref q7x), (2, .long 2333), (1, .ref q7x), (0, .ref m0)]) hx hb dX3_digest_154 hl (by decide) rfl (fun ls hl => ?_)
  refine lv_aload hx hb dX3_digest_156 (lv_at hl 0 rfl) ?_
  refine va_alen (v := nI 17) hx hb hK hP 5 0 rfl rfl rfl dX3_digest_158 ?_
  refine lv_istore (lv' := [(5, .int (nI 17)), (4, .ref q7x), (2, .long 2333), (1, .ref q7x), (0, .ref m0)]) hx hb dX3_digest_159 hl (by decide) rfl (fun ls hl => ?_)
  refine lv_iconst (v := 0) hx hb dX3_digest_161 (by decide) ?_
  refine lv_istore (lv' := [(6, .int 0), (5, .int (nI 17)), (4, .ref q7x), (2, .long 2333), (1, .ref q7x), (0, .ref m0)]) hx hb dX3_digest_162 hl (by decide) rfl (fun ls hl => ?_)
  have loop164 : ∀ j : Nat, ∀ (k : Nat), k + j = 17 → ∀ ls : Array Slot, lv_has ls 8 [(0, .ref m0), (1, .ref q7x), (2, .long (xFold z 2333 k)), (4, .ref q7x), (5, .int 17), (6, .int (nI k))] → W p l e ({ frames := 6, cells := 1, slots := 17, locals := 131 } : Room) s m args below meth c H locs (0 + 1) (0 + 17) Q (F0 m 164 ls []) := by
    intro j
    induction j with
    | zero =>
      intro k hj ls hl
      refine lv_iload hx hb dX3_digest_164 (lv_at hl 5 rfl) ?_
      refine lv_iload hx hb dX3_digest_166 (lv_at hl 4 rfl) ?_
      refine lv_icmp_ge (tgt := 194) hx hb dX3_digest_168 (by decide) (fun _ => ?_) (fun c => absurd (nI_le (a := 17) (b := k) (by omega) (by omega)) c)
      obtain ⟨D, eD⟩ : ∃ D9, D9 = xFold z 2333 17 := ⟨_, rfl⟩
      have ek : k = 17 := by omega
      subst ek
      rw [← eD] at hl
      refine lv_iconst (v := 0) hx hb dX3_digest_194 (by decide) ?_
      refine lv_istore (lv' := [(4, .int 0), (0, .ref m0), (1, .ref q7x), (2, .long D), (5, .int 17), (6, .int (nI 17))]) hx hb dX3_digest_195 hl (by decide) rfl (fun ls hl => ?_)
      have loop197 : ∀ j : Nat, ∀ (k : Nat), k + j = n → ∀ ls : Array Slot, lv_has ls 8 [(0, .ref m0), (1, .ref q7x), (2, .long (xMP n f D k)), (4, .int (nI k))] → W p l e ({ frames := 6, cells := 1, slots := 17, locals := 131 } : Room) s m args below meth c H locs (0 + 1) (0 + 17) Q (F0 m 197 ls []) := by
        intro j
        induction j with
        | zero =>
          intro k hj ls hl
          refine lv_iload hx hb dX3_digest_197 (lv_at hl 3 rfl) ?_
          refine lv_aload_n hx hb dX3_digest_199 rfl (lv_at hl 0 rfl) ?_
          refine va_get (D := γ.1) (ci := 3) (v := .int (nI n)) (C := RX3) (T := TX3) (N := 8) hx hb hts iwX3_digest_3 hown hK hP 0 rfl rfl 1 (by decide) (hts _ flX3_digest_7) (fun _ h9 => h9) rfl dX3_digest_200 ?_
          refine lv_icmp_ge (tgt := 263) hx hb dX3_digest_203 (by decide) (fun _ => ?_) (fun c => absurd (nI_le (a := n) (b := k) (by omega) (by omega)) c)
          have en : n = k := by omega
          subst en
          refine lv_iconst (v := 0) hx hb dX3_digest_263 (by decide) ?_
          refine lv_istore (lv' := [(4, .int 0), (0, .ref m0), (1, .ref q7x), (2, .long (xMP n f D n))]) hx hb dX3_digest_264 hl (by decide) rfl (fun ls hl => ?_)
          have loop266 : ∀ j : Nat, ∀ (k : Nat) (tp : xRow) (tfz : xRow), k + j = kc → ∀ (H : Heap) (locs : List Loc), xP γ ([xO m0 3 [.int 0, .int (nI n), .int (nI kc), .int td, .ref m1, .ref m2, .ref m3, .ref m4], xA γ m1 12 f, xA γ m2 12 tfz, xA γ m3 72 tg, xA γ m4 14 tp, xA γ q7x 17 z]) H → va_D A ([xO m0 3 [.int 0, .int (nI n), .int (nI kc), .int td, .ref m1, .ref m2, .ref m3, .ref m4], xA γ m1 12 f, xA γ m2 12 tfz, xA γ m3 72 tg, xA γ m4 14 tp, xA γ q7x 17 z]) → va_S A s.heap H locs → ∀ ls : Array Slot, lv_has ls 8 [(0, .ref m0), (1, .ref q7x), (2, .long (xMTM n f tg (xMP n f D n) k)), (4, .int (nI k))] → W p l e ({ frames := 6, cells := 1, slots := 17, locals := 131 } : Room) s m args below meth c H locs (0 + 1) (0 + 17) Q (F0 m 266 ls []) := by
            intro j
            induction j with
            | zero =>
              intro k tp tfz hj H locs hP hD hS ls hl
              refine lv_iload hx hb dX3_digest_266 (lv_at hl 3 rfl) ?_
              refine lv_aload_n hx hb dX3_digest_268 rfl (lv_at hl 0 rfl) ?_
              refine va_get (D := γ.1) (ci := 3) (v := .int (nI kc)) (C := RX3) (T := TX3) (N := 8) hx hb hts iwX3_digest_3 hown hK hP 0 rfl rfl 2 (by decide) (hts _ flX3_digest_33) (fun _ h9 => h9) rfl dX3_digest_269 ?_
              refine lv_icmp_ge (tgt := 327) hx hb dX3_digest_272 (by decide) (fun _ => ?_) (fun c => absurd (nI_le (a := kc) (b := k) (by omega) (by omega)) c)
              refine lv_lload_n hx hb dX3_digest_327 rfl (lv_at hl 2 rfl) ?_
              have hP := hP.sub (ws' := [xO m0 3 [.int 0, .int (nI n), .int (nI kc), .int td, .ref m1, .ref m2, .ref m3, .ref m4], xA γ m1 12 f, xA γ m2 12 tfz, xA γ m3 72 tg, xA γ m4 14 tp]) [0, 1, 2, 3, 4] rfl
              have hD := hD.sub (ws' := [xO m0 3 [.int 0, .int (nI n), .int (nI kc), .int td, .ref m1, .ref m2, .ref m3, .ref m4], xA γ m1 12 f, xA γ m2 12 tfz, xA γ m3 72 tg, xA γ m4 14 tp]) [0, 1, 2, 3, 4] (by decide) rfl
              subst hQ
              exact xM_l hx hb hr hlocks dX3_digest_328 hP rfl hS (Nat.le_of_ble_eq_true rfl) (Nat.le_of_ble_eq_true rfl) (⟨by rw [show k = kc by omega, eD, ez, xFold_17]; rfl, _, _, rfl⟩)
            | succ j ih266 =>
              intro k tp tfz hj H locs hP hD hS ls hl
              refine lv_iload hx hb dX3_digest_266 (lv_at hl 3 rfl) ?_
              refine lv_aload_n hx hb dX3_digest_268 rfl (lv_at hl 0 rfl) ?_
              refine va_get (D := γ.1) (ci := 3) (v := .int (nI kc)) (C := RX3) (T := TX3) (N := 8) hx hb hts iwX3_digest_3 hown hK hP 0 rfl rfl 2 (by decide) (hts _ flX3_digest_33) (fun _ h9 => h9) rfl dX3_digest_269 ?_
              refine lv_icmp_ge (tgt := 327) hx hb dX3_digest_272 (by decide) (fun c => absurd c (nI_ge (a := k) (b := kc) (by omega) (by omega))) (fun _ => ?_)
              refine lv_lload_n hx hb dX3_digest_275 rfl (lv_at hl 2 rfl) ?_
              refine lv_ldc2 hx hb hown (hts _ wdX3_digest_c165) dX3_digest_276 ?_
              refine lv_lmul hx hb dX3_digest_279 ?_
              refine lv_aload_n hx hb dX3_digest_280 rfl (lv_at hl 0 rfl) ?_
              refine lv_iload hx hb dX3_digest_281 (lv_at hl 3 rfl) ?_
              refine xVR (q0 := 0) (ci := 3) (As := [.int (nI k)]) (rest := [.long ((xMTM n f tg (xMP n f D n) k) * 31)]) (stk := [.int (nI (xCnt (xNe f (xGt tg k)) n)), .long ((xMTM n f tg (xMP n f D n) k) * 31)]) ⟨hx, hb, hml, hown, hts⟩ (c_X3_others γ l m0 m1 m2 m3 m4 n kc 0 td f tg k (by omega) (by omega) (by omega)) (cwV 1 hts gX3_digest_X3_others rfl rfl rfl hdv_X3_others ⟨(Nat.le_of_ble_eq_true rfl), (Nat.le_of_ble_eq_true rfl)⟩) hK hP [0, 1, 3] rfl rfl rfl rfl hl.1 rfl (Nat.le_of_ble_eq_true rfl) dX3_digest_283 ⟨(Nat.le_of_ble_eq_true rfl), (Nat.le_of_ble_eq_true rfl)⟩ rfl ?_
              refine lv_i2l (v := Int32.toInt64 (nI (xCnt (xNe f (xGt tg k)) n))) hx hb dX3_digest_286 rfl ?_
              refine lv_ladd hx hb dX3_digest_287 ?_
              refine x_topl (y := xMx (xMTM n f tg (xMP n f D n) k) (Int32.toInt64 (nI (xCnt (xNe f (xGt tg k)) n)))) (rfl) ?_
              refine lv_ldc2 hx hb hown (hts _ wdX3_digest_c165) dX3_digest_288 ?_
              refine lv_lmul hx hb dX3_digest_291 ?_
              refine lv_aload_n hx hb dX3_digest_292 rfl (lv_at hl 0 rfl) ?_
              refine lv_iload hx hb dX3_digest_293 (lv_at hl 3 rfl) ?_
              refine xVM (q0 := 0) (ci := 3) (As := [.int (nI k)]) (rest := [.long ((xMx (xMTM n f tg (xMP n f D n) k) (Int32.toInt64 (nI (xCnt (xNe f (xGt tg k)) n)))) * 31)]) ⟨hx, hb, hml, hown, hts⟩ (c_X3_solves γ l m0 m1 m2 m3 m4 n kc 0 td f tg tp k (by omega) (by omega) (by omega)) (cwV 1 hts gX3_digest_X3_solves rfl rfl rfl hdv_X3_solves ⟨(Nat.le_of_ble_eq_true rfl), (Nat.le_of_ble_eq_true rfl)⟩) hK hP hD hS hA [0, 1, 3, 4] rfl rfl rfl rfl rfl hl.1 rfl (Nat.le_of_ble_eq_true rfl) dX3_digest_295 ⟨(Nat.le_of_ble_eq_true rfl), (Nat.le_of_ble_eq_true rfl)⟩ (fun r9 w9 H locs hw hP hD hS => ?_)
              obtain ⟨rfl, h138x, eh138x, rfl⟩ := hw
              have hP : xP γ ([xO m0 3 [.int 0, .int (nI n), .int (nI kc), .int td, .ref m1, .ref m2, .ref m3, .ref m4], xA γ m1 12 f, xA γ m2 12 tfz, xA γ m3 72 tg, xA γ m4 14 h138x, xA γ q7x 17 z]) H := hP
              have hD : va_D A ([xO m0 3 [.int 0, .int (nI n), .int (nI kc), .int td, .ref m1, .ref m2, .ref m3, .ref m4], xA γ m1 12 f, xA γ m2 12 tfz, xA γ m3 72 tg, xA γ m4 14 h138x, xA γ q7x 17 z]) := hD
              refine W.eq (g2 := F0 m 298 ls [.int (if xSv n f (xGt tg k) = true then 1 else 0), .long ((xMx (xMTM n f tg (xMP n f D n) k) (Int32.toInt64 (nI (xCnt (xNe f (xGt tg k)) n)))) * 31)]) rfl ?_
              refine lv_if_eq (tgt := 305) hx hb dX3_digest_298 (by decide) (fun c298 => ?_) (fun c298 => ?_)
              · refine lv_iconst (v := 0) hx hb dX3_digest_305 (by decide) ?_
                refine lv_i2l (v := Int32.toInt64 0) hx hb dX3_digest_306 rfl ?_
                refine lv_ladd hx hb dX3_digest_307 ?_
                refine x_topl (y := xMx (xMx (xMTM n f tg (xMP n f D n) k) (Int32.toInt64 (nI (xCnt (xNe f (xGt tg k)) n)))) (xBL (xSv n f (xGt tg k)))) (by rw [xBL_f (xB_f c298)]; rfl) ?_
                refine lv_ldc2 hx hb hown (hts _ wdX3_digest_c165) dX3_digest_308 ?_
                refine lv_lmul hx hb dX3_digest_311 ?_
                refine lv_aload_n hx hb dX3_digest_312 rfl (lv_at hl 0 rfl) ?_
                refine lv_iload hx hb dX3_digest_313 (lv_at hl 3 rfl) ?_
                refine xVM (q0 := 0) (ci := 3) (As := [.int (nI k)]) (rest := [.long ((xMx (xMx (xMTM n f tg (xMP n f D n) k) (Int32.toInt64 (nI (xCnt (xNe f (xGt tg k)) n)))) (xBL (xSv n f (xGt tg k)))) * 31)]) ⟨hx, hb, hml, hown, hts⟩ (c_X3_fewest γ l m0 m1 m2 m3 m4 n kc 0 td f tg h138x k (by omega) (by omega) (by omega)) (cwV 1 hts gX3_digest_X3_fewest rfl rfl rfl hdv_X3_fewest ⟨(Nat.le_of_ble_eq_true rfl), (Nat.le_of_ble_eq_true rfl)⟩) hK hP hD hS hA [0, 1, 3, 4] rfl rfl rfl rfl rfl hl.1 rfl (Nat.le_of_ble_eq_true rfl) dX3_digest_315 ⟨(Nat.le_of_ble_eq_true rfl), (Nat.le_of_ble_eq_true rfl)⟩ (fun r9 w9 H locs hw hP hD hS => ?_)
                obtain ⟨rfl, h139x, rfl⟩ := hw
                have hP : xP γ ([xO m0 3 [.int 0, .int (nI n), .int (nI kc), .int td, .ref m1, .ref m2, .ref m3, .ref m4], xA γ m1 12 f, xA γ m2 12 tfz, xA γ m3 72 tg, xA γ m4 14 h139x, xA γ q7x 17 z]) H := hP
                have hD : va_D A ([xO m0 3 [.int 0, .int (nI n), .int (nI kc), .int td, .ref m1, .ref m2, .ref m3, .ref m4], xA γ m1 12 f, xA γ m2 12 tfz, xA γ m3 72 tg, xA γ m4 14 h139x, xA γ q7x 17 z]) := hD
                refine W.eq (g2 := F0 m 318 ls [.int (xFewM n f (xGt tg k)), .long ((xMx (xMx (xMTM n f tg (xMP n f D n) k) (Int32.toInt64 (nI (xCnt (xNe f (xGt tg k)) n)))) (xBL (xSv n f (xGt tg k)))) * 31)]) rfl ?_
                refine lv_i2l (v := Int32.toInt64 (xFewM n f (xGt tg k))) hx hb dX3_digest_318 rfl ?_
                refine lv_ladd hx hb dX3_digest_319 ?_
                refine x_topl (y := xMTM n f tg (xMP n f D n) (k + 1)) (rfl) ?_
                refine lv_lstore_n (lv' := [(2, .long (xMTM n f tg (xMP n f D n) (k + 1))), (0, .ref m0), (1, .ref q7x), (4, .int (nI k))]) hx hb dX3_digest_320 rfl hl (by decide) rfl (fun ls hl => ?_)
                refine lv_iinc (v := nI (k + 1)) (lv' := [(4, .int (nI (k + 1))), (2, .long (xMTM n f tg (xMP n f D n) (k + 1))), (0, .ref m0), (1, .ref q7x)]) hx hb dX3_digest_321 hl (k := 3) rfl (nI_add k 1) (by decide) rfl (fun ls hl => ?_)
                refine lv_goto (tgt := 266) hx hb dX3_digest_324 (by decide) ?_
                exact ih266 (k + 1) h139x tfz (by omega) _ _ hP hD hS ls (lv_sub hl [2, 3, 1, 0] rfl)
              · refine lv_iconst (v := 1) hx hb dX3_digest_301 (by decide) ?_
                refine lv_goto (tgt := 306) hx hb dX3_digest_302 (by decide) ?_
                refine lv_i2l (v := Int32.toInt64 1) hx hb dX3_digest_306 rfl ?_
                refine lv_ladd hx hb dX3_digest_307 ?_
                refine x_topl (y := xMx (xMx (xMTM n f tg (xMP n f D n) k) (Int32.toInt64 (nI (xCnt (xNe f (xGt tg k)) n)))) (xBL (xSv n f (xGt tg k)))) (by rw [xBL_t (xB_t c298)]; rfl) ?_
                refine lv_ldc2 hx hb hown (hts _ wdX3_digest_c165) dX3_digest_308 ?_
                refine lv_lmul hx hb dX3_digest_311 ?_
                refine lv_aload_n hx hb dX3_digest_312 rfl (lv_at hl 0 rfl) ?_
                refine lv_iload hx hb dX3_digest_313 (lv_at hl 3 rfl) ?_
                refine xVM (q0 := 0) (ci := 3) (As := [.int (nI k)]) (rest := [.long ((xMx (xMx (xMTM n f tg (xMP n f D n) k) (Int32.toInt64 (nI (xCnt (xNe f (xGt tg k)) n)))) (xBL (xSv n f (xGt tg k)))) * 31)]) ⟨hx, hb, hml, hown, hts⟩ (c_X3_fewest γ l m0 m1 m2 m3 m4 n kc 0 td f tg h138x k (by omega) (by omega) (by omega)) (cwV 1 hts gX3_digest_X3_fewest rfl rfl rfl hdv_X3_fewest ⟨(Nat.le_of_ble_eq_true rfl), (Nat.le_of_ble_eq_true rfl)⟩) hK hP hD hS hA [0, 1, 3, 4] rfl rfl rfl rfl rfl hl.1 rfl (Nat.le_of_ble_eq_true rfl) dX3_digest_315 ⟨(Nat.le_of_ble_eq_true rfl), (Nat.le_of_ble_eq_true rfl)⟩ (fun r9 w9 H locs hw hP hD hS => ?_)
                obtain ⟨rfl, h140x, rfl⟩ := hw
                have hP : xP γ ([xO m0 3 [.int 0, .int (nI n), .int (nI kc), .int td, .ref m1, .ref m2, .ref m3, .ref m4], xA γ m1 12 f, xA γ m2 12 tfz, xA γ m3 72 tg, xA γ m4 14 h140x, xA γ q7x 17 z]) H := hP
                have hD : va_D A ([xO m0 3 [.int 0, .int (nI n), .int (nI kc), .int td, .ref m1, .ref m2, .ref m3, .ref m4], xA γ m1 12 f, xA γ m2 12 tfz, xA γ m3 72 tg, xA γ m4 14 h140x, xA γ q7x 17 z]) := hD
                refine W.eq (g2 := F0 m 318 ls [.int (xFewM n f (xGt tg k)), .long ((xMx (xMx (xMTM n f tg (xMP n f D n) k) (Int32.toInt64 (nI (xCnt (xNe f (xGt tg k)) n)))) (xBL (xSv n f (xGt tg k)))) * 31)]) rfl ?_
                refine lv_i2l (v := Int32.toInt64 (xFewM n f (xGt tg k))) hx hb dX3_digest_318 rfl ?_
                refine lv_ladd hx hb dX3_digest_319 ?_
                refine x_topl (y := xMTM n f tg (xMP n f D n) (k + 1)) (rfl) ?_
                refine lv_lstore_n (lv' := [(2, .long (xMTM n f tg (xMP n f D n) (k + 1))), (0, .ref m0), (1, .ref q7x), (4, .int (nI k))]) hx hb dX3_digest_320 rfl hl (by decide) rfl (fun ls hl => ?_)
                refine lv_iinc (v := nI (k + 1)) (lv' := [(4, .int (nI (k + 1))), (2, .long (xMTM n f tg (xMP n f D n) (k + 1))), (0, .ref m0), (1, .ref q7x)]) hx hb dX3_digest_321 hl (k := 3) rfl (nI_add k 1) (by decide) rfl (fun ls hl => ?_)
                refine lv_goto (tgt := 266) hx hb dX3_digest_324 (by decide) ?_
                exact ih266 (k + 1) h140x tfz (by omega) _ _ hP hD hS ls (lv_sub hl [2, 3, 1, 0] rfl)
          exact loop266 kc 0 h137x h136x (by omega) _ _ hP hD hS ls (lv_sub hl [1, 2, 3, 0] rfl)
        | succ j ih197 =>
          intro k hj ls hl
          refine lv_iload hx hb dX3_digest_197 (lv_at hl 3 rfl) ?_
          refine lv_aload_n hx hb dX3_digest_199 rfl (lv_at hl 0 rfl) ?_
          refine va_get (D := γ.1) (ci := 3) (v := .int (nI n)) (C := RX3) (T := TX3) (N := 8) hx hb hts iwX3_digest_3 hown hK hP 0 rfl rfl 1 (by decide) (hts _ flX3_digest_7) (fun _ h9 => h9) rfl dX3_digest_200 ?_
          refine lv_icmp_ge (tgt := 263) hx hb dX3_digest_203 (by decide) (fun c => absurd c (nI_ge (a := k) (b := n) (by omega) (by omega))) (fun _ => ?_)
          refine lv_lload_n hx hb dX3_digest_206 rfl (lv_at hl 2 rfl) ?_
          refine lv_ldc2 hx hb hown (hts _ wdX3_digest_c165) dX3_digest_207 ?_
          refine lv_lmul hx hb dX3_digest_210 ?_
          refine lv_aload_n hx hb dX3_digest_211 rfl (lv_at hl 0 rfl) ?_
          refine va_get (D := γ.1) (ci := 3) (v := .ref m1) (C := RX3) (T := TX3) (N := 8) hx hb hts iwX3_digest_3 hown hK hP 0 rfl rfl 4 (by decide) (hts _ flX3_digest_13) (fun _ h9 => h9) rfl dX3_digest_212 ?_
          refine lv_iload hx hb dX3_digest_215 (lv_at hl 3 rfl) ?_
          refine x_iald (f := f) hx hb hK hP 1 rfl k rfl (by omega) (by omega) dX3_digest_217 ?_
          refine lv_i2l (v := Int32.toInt64 (f k)) hx hb dX3_digest_218 rfl ?_
          refine lv_ladd hx hb dX3_digest_219 ?_
          refine x_topl (y := xMx (xMP n f D k) (Int32.toInt64 (f k))) (rfl) ?_
          refine lv_ldc2 hx hb hown (hts _ wdX3_digest_c165) dX3_digest_220 ?_
          refine lv_lmul hx hb dX3_digest_223 ?_
          refine lv_aload_n hx hb dX3_digest_224 rfl (lv_at hl 0 rfl) ?_
          refine lv_aload_n hx hb dX3_digest_225 rfl (lv_at hl 0 rfl) ?_
          refine va_get (D := γ.1) (ci := 3) (v := .ref m1) (C := RX3) (T := TX3) (N := 8) hx hb hts iwX3_digest_3 hown hK hP 0 rfl rfl 4 (by decide) (hts _ flX3_digest_13) (fun _ h9 => h9) rfl dX3_digest_226 ?_
          refine lv_iload hx hb dX3_digest_229 (lv_at hl 3 rfl) ?_
          refine xVR (q0 := 0) (ci := 3) (As := [.ref m1, .int (nI k)]) (rest := [.long ((xMx (xMP n f D k) (Int32.toInt64 (f k))) * 31)]) (stk := [.int (if xSt n f k = true then 1 else 0), .long ((xMx (xMP n f D k) (Int32.toInt64 (f k))) * 31)]) ⟨hx, hb, hml, hown, hts⟩ (c_X3_steep γ l m0 m1 m2 m3 m4 n kc 0 td m1 f k (by omega) (by omega) (by omega)) (cwV 2 hts gX3_digest_X3_steep rfl rfl rfl hdv_X3_steep ⟨(Nat.le_of_ble_eq_true rfl), (Nat.le_of_ble_eq_true rfl)⟩) hK hP [0, 1] rfl rfl rfl rfl hl.1 rfl (Nat.le_of_ble_eq_true rfl) dX3_digest_231 ⟨(Nat.le_of_ble_eq_true rfl), (Nat.le_of_ble_eq_true rfl)⟩ rfl ?_
          refine lv_if_eq (tgt := 241) hx hb dX3_digest_234 (by decide) (fun c234 => ?_) (fun c234 => ?_)
          · refine lv_iconst (v := 0) hx hb dX3_digest_241 (by decide) ?_
            refine lv_i2l (v := Int32.toInt64 0) hx hb dX3_digest_242 rfl ?_
            refine lv_ladd hx hb dX3_digest_243 ?_
            refine x_topl (y := xMx (xMx (xMP n f D k) (Int32.toInt64 (f k))) (xBL (xSt n f k))) (by rw [xBL_f (xB_f c234)]; rfl) ?_
            refine lv_ldc2 hx hb hown (hts _ wdX3_digest_c165) dX3_digest_244 ?_
            refine lv_lmul hx hb dX3_digest_247 ?_
            refine lv_aload_n hx hb dX3_digest_248 rfl (lv_at hl 0 rfl) ?_
            refine lv_iload hx hb dX3_digest_249 (lv_at hl 3 rfl) ?_
            refine xVR (q0 := 0) (ci := 3) (As := [.int (nI k)]) (rest := [.long ((xMx (xMx (xMP n f D k) (Int32.toInt64 (f k))) (xBL (xSt n f k))) * 31)]) (stk := [.int (xTlt n f k), .long ((xMx (xMx (xMP n f D k) (Int32.toInt64 (f k))) (xBL (xSt n f k))) * 31)]) ⟨hx, hb, hml, hown, hts⟩ (c_X3_tiltOn γ l m0 m1 m2 m3 m4 n kc 0 td f k (by omega) (by omega) (by omega)) (cwV 1 hts gX3_digest_X3_tiltOn rfl rfl rfl hdv_X3_tiltOn ⟨(Nat.le_of_ble_eq_true rfl), (Nat.le_of_ble_eq_true rfl)⟩) hK hP [0, 1] rfl rfl rfl rfl hl.1 rfl (Nat.le_of_ble_eq_true rfl) dX3_digest_251 ⟨(Nat.le_of_ble_eq_true rfl), (Nat.le_of_ble_eq_true rfl)⟩ rfl ?_
            refine lv_i2l (v := Int32.toInt64 (xTlt n f k)) hx hb dX3_digest_254 rfl ?_
            refine lv_ladd hx hb dX3_digest_255 ?_
            refine x_topl (y := xMP n f D (k + 1)) (rfl) ?_
            refine lv_lstore_n (lv' := [(2, .long (xMP n f D (k + 1))), (0, .ref m0), (1, .ref q7x), (4, .int (nI k))]) hx hb dX3_digest_256 rfl hl (by decide) rfl (fun ls hl => ?_)
            refine lv_iinc (v := nI (k + 1)) (lv' := [(4, .int (nI (k + 1))), (2, .long (xMP n f D (k + 1))), (0, .ref m0), (1, .ref q7x)]) hx hb dX3_digest_257 hl (k := 3) rfl (nI_add k 1) (by decide) rfl (fun ls hl => ?_)
            refine lv_goto (tgt := 197) hx hb dX3_digest_260 (by decide) ?_
            exact ih197 (k + 1) (by omega) ls (lv_sub hl [2, 3, 1, 0] rfl)
          · refine lv_iconst (v := 1) hx hb dX3_digest_237 (by decide) ?_
            refine lv_goto (tgt := 242) hx hb dX3_digest_238 (by decide) ?_
            refine lv_i2l (v := Int32.toInt64 1) hx hb dX3_digest_242 rfl ?_
            refine lv_ladd hx hb dX3_digest_243 ?_
            refine x_topl (y := xMx (xMx (xMP n f D k) (Int32.toInt64 (f k))) (xBL (xSt n f k))) (by rw [xBL_t (xB_t c234)]; rfl) ?_
            refine lv_ldc2 hx hb hown (hts _ wdX3_digest_c165) dX3_digest_244 ?_
            refine lv_lmul hx hb dX3_digest_247 ?_
            refine lv_aload_n hx hb dX3_digest_248 rfl (lv_at hl 0 rfl) ?_
            refine lv_iload hx hb dX3_digest_249 (lv_at hl 3 rfl) ?_
            refine xVR (q0 := 0) (ci := 3) (As := [.int (nI k)]) (rest := [.long ((xMx (xMx (xMP n f D k) (Int32.toInt64 (f k))) (xBL (xSt n f k))) * 31)]) (stk := [.int (xTlt n f k), .long ((xMx (xMx (xMP n f D k) (Int32.toInt64 (f k))) (xBL (xSt n f k))) * 31)]) ⟨hx, hb, hml, hown, hts⟩ (c_X3_tiltOn γ l m0 m1 m2 m3 m4 n kc 0 td f k (by omega) (by omega) (by omega)) (cwV 1 hts gX3_digest_X3_tiltOn rfl rfl rfl hdv_X3_tiltOn ⟨(Nat.le_of_ble_eq_true rfl), (Nat.le_of_ble_eq_true rfl)⟩) hK hP [0, 1] rfl rfl rfl rfl hl.1 rfl (Nat.le_of_ble_eq_true rfl) dX3_digest_251 ⟨(Nat.le_of_ble_eq_true rfl), (Nat.le_of_ble_eq_true rfl)⟩ rfl ?_
            refine lv_i2l (v := Int32.toInt64 (xTlt n f k)) hx hb dX3_digest_254 rfl ?_
            refine lv_ladd hx hb dX3_digest_255 ?_
            refine x_topl (y := xMP n f D (k + 1)) (rfl) ?_
            refine lv_lstore_n (lv' := [(2, .long (xMP n f D (k + 1))), (0, .ref m0), (1, .ref q7x), (4, .int (nI k))]) hx hb dX3_digest_256 rfl hl (by decide) rfl (fun ls hl => ?_)
            refine lv_iinc (v := nI (k + 1)) (lv' := [(4, .int (nI (k + 1))), (2, .long (xMP n f D (k + 1))), (0, .ref m0), (1, .ref q7x)]) hx hb dX3_digest_257 hl (k := 3) rfl (nI_add k 1) (by decide) rfl (fun ls hl => ?_)
            refine lv_goto (tgt := 197) hx hb dX3_digest_260 (by decide) ?_
            exact ih197 (k + 1) (by omega) ls (lv_sub hl [2, 3, 1, 0] rfl)
      exact loop197 n 0 (by omega) ls (lv_sub hl [1, 2, 3, 0] rfl)
    | succ j ih164 =>
      intro k hj ls hl
      refine lv_iload hx hb dX3_digest_164 (lv_at hl 5 rfl) ?_
      refine lv_iload hx hb dX3_digest_166 (lv_at hl 4 rfl) ?_
      refine lv_icmp_ge (tgt := 194) hx hb dX3_digest_168 (by decide) (fun c => absurd c (nI_ge (a := k) (b := 17) (by omega) (by omega))) (fun _ => ?_)
      refine lv_aload hx hb dX3_digest_171 (lv_at hl 3 rfl) ?_
      refine lv_iload hx hb dX3_digest_173 (lv_at hl 5 rfl) ?_
      refine x_iald (f := z) hx hb hK hP 5 rfl k rfl (by omega) (by omega) dX3_digest_175 ?_
      refine lv_istore (lv' := [(7, .int (z k)), (0, .ref m0), (1, .ref q7x), (2, .long (xFold z 2333 k)), (4, .ref q7x), (5, .int 17), (6, .int (nI k))]) hx hb dX3_digest_176 hl (by decide) rfl (fun ls hl => ?_)
      refine lv_lload_n hx hb dX3_digest_178 rfl (lv_at hl 3 rfl) ?_
      refine lv_ldc2 hx hb hown (hts _ wdX3_digest_c165) dX3_digest_179 ?_
      refine lv_lmul hx hb dX3_digest_182 ?_
      refine lv_iload hx hb dX3_digest_183 (lv_at hl 0 rfl) ?_
      refine lv_i2l (v := Int32.toInt64 (z k)) hx hb dX3_digest_185 rfl ?_
      refine lv_ladd hx hb dX3_digest_186 ?_
      refine x_topl (y := xFold z 2333 (k + 1)) (rfl) ?_
      refine lv_lstore_n (lv' := [(2, .long (xFold z 2333 (k + 1))), (7, .int (z k)), (0, .ref m0), (1, .ref q7x), (4, .ref q7x), (5, .int 17), (6, .int (nI k))]) hx hb dX3_digest_187 rfl hl (by decide) rfl (fun ls hl => ?_)
      refine lv_iinc (v := nI (k + 1)) (lv' := [(6, .int (nI (k + 1))), (2, .long (xFold z 2333 (k + 1))), (7, .int (z k)), (0, .ref m0), (1, .ref q7x), (4, .ref q7x), (5, .int 17)]) hx hb dX3_digest_188 hl (k := 6) rfl (nI_add k 1) (by decide) rfl (fun ls hl => ?_)
      refine lv_goto (tgt := 164) hx hb dX3_digest_191 (by decide) ?_
      exact ih164 (k + 1) (by omega) ls (lv_sub hl [3, 4, 1, 5, 6, 0] rfl)
  exact loop164 17 0 (by omega) ls (lv_sub hl [5, 4, 3, 2, 1, 0] rfl)

set_option maxHeartbeats 4000000 in
set_option maxRecDepth 100000 in
/-- Periods.isPeriod -/
theorem kX2_isPeriod (l : Launch) (g : zG) (h a : Nat) (w : Int → Int) (n : Int) (i j d : Int) (hi : 0 ≤ i ∧ i ≤ j ∧ j ≤ n) (hd : 0 ≤ d ∧ d ≤ 40) : Met l yX2_isPeriod wsX2_isPeriod (zRm 1 21) (zP g [.ref h, .int (zI i), .int (zI j), .int (zI d)] (PW g h a w n)) (vp_Si (fun r => r = zI (zB (zPer w i j d)))) 0 0 (fun _ => False) := by
  refine Met.ofZ (cc := cX2_isPeriod) (maxL := 5) (ret := (some .boolean)) (by decide) rfl (Nat.le_of_ble_eq_true rfl) ?_
  intro p e s m args below meth c ls hx hb hr hlocks S hin hK hpic hl
  have hown := S.2.2.2.1
  have hts := S.2.2.2.2
  have hl : lv_has ls 5 [(0, .ref h), (1, .int (zI i)), (2, .int (zI j)), (3, .int (zI d))] := hl
  have hn := hpic.1
  refine lv_iload_n hx hb dX2_isPeriod_0 rfl (lv_at hl 1 rfl) ?_
  refine lv_istore (lv' := [(4, .int (zI i)), (0, .ref h), (1, .int (zI i)), (2, .int (zI j)), (3, .int (zI d))]) hx hb dX2_isPeriod_1 hl (by decide) rfl (fun ls hl => ?_)
  have lp3 : ∀ (z_f : Nat) (k : Int), (i ≤ k ∧ k ≤ j) → (∀ q, i ≤ q → q < k → w q = w (q + d)) → ((j - k).toNat) < z_f → ∀ (ls : Array Slot), lv_has ls 5 [(0, .ref h), (1, .int (zI i)), (2, .int (zI j)), (3, .int (zI d)), (4, .int (zI k))] → W p l e (zRm 1 21) s m args below meth c s.heap [] 0 0 (MQ below (vp_Si (fun r => r = zI (zB (zPer w i j d)))) args s 0 0 (fun _ => False)) (F0 m 3 ls []) := by
    intro z_f
    induction z_f with
    | zero => intro k h0 h1 z_m; exact absurd z_m (Nat.not_lt_zero _)
    | succ z_f ih3 =>
      intro k h0 h1 z_m3 ls hl
      refine lv_iload hx hb dX2_isPeriod_3 (lv_at hl 4 rfl) ?_
      refine lv_iload_n hx hb dX2_isPeriod_5 rfl (lv_at hl 3 rfl) ?_
      refine zv_iadd hx hb dX2_isPeriod_6 ?_
      refine lv_iload_n hx hb dX2_isPeriod_7 rfl (lv_at hl 2 rfl) ?_
      refine zv_icmp_ge (tgt := 36) hx hb dX2_isPeriod_8 (by decide) (by omega) (by omega) (fun c8 => ?_) (fun c8 => ?_)
      · have e9 : zPer w i j d := zPer_of h1 c8
        refine zv_iconst hx hb dX2_isPeriod_36 ?_
        exact zr_z hx hb hr hlocks dX2_isPeriod_37 rfl (by rw [zB_t e9])
      · refine lv_aload_n hx hb dX2_isPeriod_11 rfl (lv_at hl 0 rfl) ?_
        refine lv_iload hx hb dX2_isPeriod_12 (lv_at hl 4 rfl) ?_
        refine zc_V (As := [.int (zI k)]) (rest := []) S hK (kX8_letterAt l g h a w n k (by omega)) (cwV 1 hts gX2_isPeriod_X8_letterAt rfl rfl rfl (by decide +kernel) ⟨Nat.le_of_ble_eq_true rfl, Nat.le_of_ble_eq_true rfl⟩) (hpic) (hpic.recv hK) rfl hl.1 rfl (Nat.le_of_ble_eq_true rfl) dX2_isPeriod_14 ⟨Nat.zero_le _, Nat.zero_le _⟩ (fun r14 hr14 => ?_)
        obtain ⟨z14, rfl, hz14⟩ := hr14
        refine lv_aload_n hx hb dX2_isPeriod_17 rfl (lv_at hl 0 rfl) ?_
        refine lv_iload hx hb dX2_isPeriod_18 (lv_at hl 4 rfl) ?_
        refine lv_iload_n hx hb dX2_isPeriod_20 rfl (lv_at hl 3 rfl) ?_
        refine zv_iadd hx hb dX2_isPeriod_21 ?_
        refine zc_V (As := [.int (zI (k + d))]) (rest := [.int (zI z14)]) S hK (kX8_letterAt l g h a w n (k + d) (by omega)) (cwV 1 hts gX2_isPeriod_X8_letterAt rfl rfl rfl (by decide +kernel) ⟨Nat.le_of_ble_eq_true rfl, Nat.le_of_ble_eq_true rfl⟩) (hpic) (hpic.recv hK) rfl hl.1 rfl (Nat.le_of_ble_eq_true rfl) dX2_isPeriod_22 ⟨Nat.zero_le _, Nat.zero_le _⟩ (fun r22 hr22 => ?_)
        obtain ⟨z22, rfl, hz22⟩ := hr22
        refine zv_icmp_eq (tgt := 30) hx hb dX2_isPeriod_25 (by decide) (by omega) (by omega) (fun c25 => ?_) (fun c25 => ?_)
        · refine zv_iinc (lv' := [(4, .int (zI (k + 1))), (0, .ref h), (1, .int (zI i)), (2, .int (zI j)), (3, .int (zI d))]) hx hb dX2_isPeriod_30 hl (k := 4) rfl (by decide) rfl (fun ls hl => ?_)
          refine lv_goto (tgt := 3) hx hb dX2_isPeriod_33 (by decide) ?_
          exact ih3 (k + 1) (by omega) (fun q h1q h2q => (show q < k ∨ q = k by omega).elim (fun h8 => by exact h1 q h1q h8) (fun h8 => by subst h8; omega)) (by omega) _ (lv_sub hl [1, 2, 3, 4, 0] rfl)
        · have e9 : ¬ zPer w i j d := fun q => by have h8 := q (k - i) (by omega) (by omega); rw [show i + (k - i) = k by omega, show i + d + (k - i) = k + d by omega] at h8; omega
          refine zv_iconst hx hb dX2_isPeriod_28 ?_
          exact zr_z hx hb hr hlocks dX2_isPeriod_29 rfl (by rw [zB_f e9])
  exact lp3 _ i (by omega) (fun q h1q h2q => absurd h2q (by omega)) (Nat.lt_succ_self _) _ (lv_sub hl [1, 2, 3, 4, 0] rfl)

set_option maxHeartbeats 4000000 in
set_option maxRecDepth 100000 in
/-- Periods.least -/
theorem kX2_least (l : Launch) (g : zG) (h a : Nat) (w : Int → Int) (n : Int) (i j : Int) (hi : 0 ≤ i ∧ i ≤ j ∧ j ≤ n) : Met l yX2_least wsX2_least (zRm 2 45) (zP g [.ref h, .int (zI i), .int (zI j)] (PW g h a w n)) (vp_Si (fun r => ∃ z : Int, r = zI z ∧ z = zLP w i j ∧ 0 ≤ z ∧ z ≤ j - i ∧ (i < j → 1 ≤ z))) 0 0 (fun _ => False) := by
  refine Met.ofZ (cc := cX2_least) (maxL := 5) (ret := (some .int)) (by decide) rfl (Nat.le_of_ble_eq_true rfl) ?_
  intro p e s m args below meth c ls hx hb hr hlocks S hin hK hpic hl
  have hown := S.2.2.2.1
  have hts := S.2.2.2.2
  have hl : lv_has ls 5 [(0, .ref h), (1, .int (zI i)), (2, .int (zI j))] := hl
  have hn := hpic.1
  refine lv_iload_n hx hb dX2_least_0 rfl (lv_at hl 2 rfl) ?_
  refine lv_iload_n hx hb dX2_least_1 rfl (lv_at hl 1 rfl) ?_
  refine zv_isub hx hb dX2_least_2 ?_
  refine lv_istore_n (lv' := [(3, .int (zI (j - i))), (0, .ref h), (1, .int (zI i)), (2, .int (zI j))]) hx hb dX2_least_3 rfl hl (by decide) rfl (fun ls hl => ?_)
  refine zv_iconst hx hb dX2_least_4 ?_
  refine lv_istore (lv' := [(4, .int (zI 1)), (3, .int (zI (j - i))), (0, .ref h), (1, .int (zI i)), (2, .int (zI j))]) hx hb dX2_least_5 hl (by decide) rfl (fun ls hl => ?_)
  have lp7 : ∀ (z_f : Nat) (d : Int), (1 ≤ d ∧ (d ≤ j - i ∨ d = 1)) → (∀ q, 1 ≤ q → q < d → ¬ zPer w i j q) → ((j - d).toNat) < z_f → ∀ (ls : Array Slot), lv_has ls 5 [(0, .ref h), (1, .int (zI i)), (2, .int (zI j)), (3, .int (zI (j - i))), (4, .int (zI d))] → W p l e (zRm 2 45) s m args below meth c s.heap [] 0 0 (MQ below (vp_Si (fun r => ∃ z : Int, r = zI z ∧ z = zLP w i j ∧ 0 ≤ z ∧ z ≤ j - i ∧ (i < j → 1 ≤ z))) args s 0 0 (fun _ => False)) (F0 m 7 ls []) := by
    intro z_f
    induction z_f with
    | zero => intro d h0 h1 z_m; exact absurd z_m (Nat.not_lt_zero _)
    | succ z_f ih7 =>
      intro d h0 h1 z_m7 ls hl
      refine lv_iload hx hb dX2_least_7 (lv_at hl 4 rfl) ?_
      refine lv_iload_n hx hb dX2_least_9 rfl (lv_at hl 3 rfl) ?_
      refine zv_icmp_ge (tgt := 33) hx hb dX2_least_10 (by decide) (by omega) (by omega) (fun c10 => ?_) (fun c10 => ?_)
      · have e9 : zLP w i j = j - i := by
          rcases (show i = j ∨ (i < j ∧ d = j - i) by omega) with h8 | h8
          · rw [zLP_nil w (by omega)]; omega
          · obtain ⟨h8, h9⟩ := h8; subst h9; exact zLP_un h8 (by omega) (by omega) h1 (fun q => absurd q (by omega))
        refine lv_iload_n hx hb dX2_least_33 rfl (lv_at hl 3 rfl) ?_
        exact zr_i hx hb hr hlocks dX2_least_34 (⟨_, rfl, e9.symm, by omega, by omega, by omega⟩)
      · refine lv_aload_n hx hb dX2_least_13 rfl (lv_at hl 0 rfl) ?_
        refine lv_iload_n hx hb dX2_least_14 rfl (lv_at hl 1 rfl) ?_
        refine lv_iload_n hx hb dX2_least_15 rfl (lv_at hl 2 rfl) ?_
        refine lv_iload hx hb dX2_least_16 (lv_at hl 4 rfl) ?_
        refine zc_S (As := [.ref h, .int (zI i), .int (zI j), .int (zI d)]) (rest := []) S hK (kX2_isPeriod l g h a w n i j d (by omega) (by omega)) (va_cwS 4 hts gX2_least_X2_isPeriod rfl rfl rfl (by decide +kernel) ⟨Nat.le_of_ble_eq_true rfl, Nat.le_of_ble_eq_true rfl⟩) (hpic) rfl hl.1 rfl (Nat.le_of_ble_eq_true rfl) dX2_least_18 ⟨Nat.zero_le _, Nat.zero_le _⟩ (fun r18 hr18 => ?_)
        obtain rfl := hr18
        refine zv_ifB_eq (tgt := 27) hx hb dX2_least_21 (by decide) (fun c21 => ?_) (fun c21 => ?_)
        · refine zv_iinc (lv' := [(4, .int (zI (d + 1))), (0, .ref h), (1, .int (zI i)), (2, .int (zI j)), (3, .int (zI (j - i)))]) hx hb dX2_least_27 hl (k := 4) rfl (by decide) rfl (fun ls hl => ?_)
          refine lv_goto (tgt := 7) hx hb dX2_least_30 (by decide) ?_
          exact ih7 (d + 1) (by omega) (fun q h1q h2q => (show q < d ∨ q = d by omega).elim (fun h8 => by exact h1 q h1q h8) (fun h8 => by subst h8; assumption)) (by omega) _ (lv_sub hl [1, 2, 3, 4, 0] rfl)
        · have e9 : zLP w i j = d := zLP_un (by omega) (by omega) (by omega) h1 (fun _ => c21)
          refine lv_iload hx hb dX2_least_24 (lv_at hl 4 rfl) ?_
          exact zr_i hx hb hr hlocks dX2_least_26 (⟨_, rfl, e9.symm, by omega, by omega, by omega⟩)
  exact lp7 _ 1 (by omega) (fun q h1q h2q => absurd h2q (by omega)) (Nat.lt_succ_self _) _ (lv_sub hl [2, 3, 4, 1, 0] rfl)

set_option maxHeartbeats 4000000 in
set_option maxRecDepth 100000 in
/-- Periods.longestBorder -/
theorem kX2_longestBorder (l : Launch) (g : zG) (h a : Nat) (w : Int → Int) (n : Int) (i j : Int) (hi : 0 ≤ i ∧ i ≤ j ∧ j ≤ n) : Met l yX2_longestBorder wsX2_longestBorder (zRm 3 69) (zP g [.ref h, .int (zI i), .int (zI j)] (PW g h a w n)) (vp_Si (fun r => ∃ z : Int, r = zI z ∧ z = zEG w i j (j - i) ∧ 0 ≤ z ∧ z ≤ j - i)) 0 0 (fun _ => False) := by
  refine Met.ofZ (cc := cX2_longestBorder) (maxL := 3) (ret := (some .int)) (by decide) rfl (Nat.le_of_ble_eq_true rfl) ?_
  intro p e s m args below meth c ls hx hb hr hlocks S hin hK hpic hl
  have hown := S.2.2.2.1
  have hts := S.2.2.2.2
  have hl : lv_has ls 3 [(0, .ref h), (1, .int (zI i)), (2, .int (zI j))] := hl
  have hn := hpic.1
  refine lv_iload_n hx hb dX2_longestBorder_0 rfl (lv_at hl 2 rfl) ?_
  refine lv_iload_n hx hb dX2_longestBorder_1 rfl (lv_at hl 1 rfl) ?_
  refine zv_isub hx hb dX2_longestBorder_2 ?_
  refine lv_aload_n hx hb dX2_longestBorder_3 rfl (lv_at hl 0 rfl) ?_
  refine lv_iload_n hx hb dX2_longestBorder_4 rfl (lv_at hl 1 rfl) ?_
  refine lv_iload_n hx hb dX2_longestBorder_5 rfl (lv_at hl 2 rfl) ?_
  refine zc_S (As := [.ref h, .int (zI i), .int (zI j)]) (rest := [.int (zI (j - i))]) S hK (kX2_least l g h a w n i j (by omega)) (va_cwS 3 hts gX2_longestBorder_X2_least rfl rfl rfl (by decide +kernel) ⟨Nat.le_of_ble_eq_true rfl, Nat.le_of_ble_eq_true rfl⟩) (hpic) rfl hl.1 rfl (Nat.le_of_ble_eq_true rfl) dX2_longestBorder_6 ⟨Nat.zero_le _, Nat.zero_le _⟩ (fun r6 hr6 => ?_)
  obtain ⟨z6, rfl, hz6⟩ := hr6
  refine zv_isub hx hb dX2_longestBorder_9 ?_
  exact zr_i hx hb hr hlocks dX2_longestBorder_10 (by have e9 := zEG_LP w hi.2.1; exact ⟨_, rfl, by omega, by omega, by omega⟩)

set_option maxHeartbeats 4000000 in
set_option maxRecDepth 100000 in
/-- Periods.rankedBorder -/
theorem kX2_rankedBorder (l : Launch) (g : zG) (h a : Nat) (w : Int → Int) (n : Int) (i r : Int) (hi : 1 ≤ i ∧ i ≤ n) (hr0 : 0 ≤ r ∧ r < 2147483648) : Met l yX2_rankedBorder wsX2_rankedBorder (zRm 2 45) (zP g [.ref h, .int (zI i), .int (zI r)] (PW g h a w n)) (vp_Si (fun v => ∃ z : Int, v = zI z ∧ z = zBorder w i r ∧ -4 ≤ z ∧ z ≤ 40)) 0 0 (fun _ => False) := by
  refine Met.ofZ (cc := cX2_rankedBorder) (maxL := 5) (ret := (some .int)) (by decide) rfl (Nat.le_of_ble_eq_true rfl) ?_
  intro p e s m args below meth c ls hx hb hr hlocks S hin hK hpic hl
  have hown := S.2.2.2.1
  have hts := S.2.2.2.2
  have hl : lv_has ls 5 [(0, .ref h), (1, .int (zI i)), (2, .int (zI r))] := hl
  have hn := hpic.1
  refine zv_iconst hx hb dX2_rankedBorder_0 ?_
  refine lv_istore_n (lv' := [(3, .int (zI 0)), (0, .ref h), (1, .int (zI i)), (2, .int (zI r))]) hx hb dX2_rankedBorder_1 rfl hl (by decide) rfl (fun ls hl => ?_)
  refine zv_iconst hx hb dX2_rankedBorder_2 ?_
  refine lv_istore (lv' := [(4, .int (zI 1)), (3, .int (zI 0)), (0, .ref h), (1, .int (zI i)), (2, .int (zI r))]) hx hb dX2_rankedBorder_3 hl (by decide) rfl (fun ls hl => ?_)
  have lp5 : ∀ (z_f : Nat) (o : Int) (d : Int), (1 ≤ d ∧ d ≤ i ∧ 0 ≤ o ∧ o ≤ r ∧ o < d) → (zch w 0 i (r.toNat + 1) i = zch w 0 i ((r - o).toNat + 1) (i - d + 1)) → ((i - d).toNat) < z_f → ∀ (ls : Array Slot), lv_has ls 5 [(0, .ref h), (1, .int (zI i)), (2, .int (zI r)), (3, .int (zI o)), (4, .int (zI d))] → W p l e (zRm 2 45) s m args below meth c s.heap [] 0 0 (MQ below (vp_Si (fun v => ∃ z : Int, v = zI z ∧ z = zBorder w i r ∧ -4 ≤ z ∧ z ≤ 40)) args s 0 0 (fun _ => False)) (F0 m 5 ls []) := by
    intro z_f
    induction z_f with
    | zero => intro o d h0 h1 z_m; exact absurd z_m (Nat.not_lt_zero _)
    | succ z_f ih5 =>
      intro o d h0 h1 z_m5 ls hl
      refine lv_iload hx hb dX2_rankedBorder_5 (lv_at hl 4 rfl) ?_
      refine lv_iload_n hx hb dX2_rankedBorder_7 rfl (lv_at hl 1 rfl) ?_
      refine zv_icmp_ge (tgt := 41) hx hb dX2_rankedBorder_8 (by decide) (by omega) (by omega) (fun c8 => ?_) (fun c8 => ?_)
      · have e9 : zBorder w i r = -4 := zBorder_end h1 (by omega)
        refine zv_bipush hx hb dX2_rankedBorder_41 (by decide +kernel) ?_
        exact zr_i hx hb hr hlocks dX2_rankedBorder_43 (⟨_, rfl, e9.symm, by omega, by omega⟩)
      · refine lv_aload_n hx hb dX2_rankedBorder_11 rfl (lv_at hl 0 rfl) ?_
        refine zv_iconst hx hb dX2_rankedBorder_12 ?_
        refine lv_iload_n hx hb dX2_rankedBorder_13 rfl (lv_at hl 1 rfl) ?_
        refine lv_iload hx hb dX2_rankedBorder_14 (lv_at hl 4 rfl) ?_
        refine zc_S (As := [.ref h, .int (zI 0), .int (zI i), .int (zI d)]) (rest := []) S hK (kX2_isPeriod l g h a w n 0 i d (by omega) (by omega)) (va_cwS 4 hts gX2_rankedBorder_X2_isPeriod rfl rfl rfl (by decide +kernel) ⟨Nat.le_of_ble_eq_true rfl, Nat.le_of_ble_eq_true rfl⟩) (hpic) rfl hl.1 rfl (Nat.le_of_ble_eq_true rfl) dX2_rankedBorder_16 ⟨Nat.zero_le _, Nat.zero_le _⟩ (fun r16 hr16 => ?_)
        obtain rfl := hr16
        refine zv_ifB_eq (tgt := 35) hx hb dX2_rankedBorder_19 (by decide) (fun c19 => ?_) (fun c19 => ?_)
        · refine zv_iinc (lv' := [(4, .int (zI (d + 1))), (0, .ref h), (1, .int (zI i)), (2, .int (zI r)), (3, .int (zI o))]) hx hb dX2_rankedBorder_35 hl (k := 4) rfl (by decide) rfl (fun ls hl => ?_)
          refine lv_goto (tgt := 5) hx hb dX2_rankedBorder_38 (by decide) ?_
          exact ih5 o (d + 1) (by omega) (zBorder_skip h1 c19 (by omega)) (by omega) _ (lv_sub hl [1, 2, 3, 4, 0] rfl)
        · refine lv_iload_n hx hb dX2_rankedBorder_22 rfl (lv_at hl 3 rfl) ?_
          refine lv_iload_n hx hb dX2_rankedBorder_23 rfl (lv_at hl 2 rfl) ?_
          refine zv_icmp_ne (tgt := 32) hx hb dX2_rankedBorder_24 (by decide) (by omega) (by omega) (fun c24 => ?_) (fun c24 => ?_)
          · refine zv_iinc (lv' := [(3, .int (zI (o + 1))), (0, .ref h), (1, .int (zI i)), (2, .int (zI r)), (4, .int (zI d))]) hx hb dX2_rankedBorder_32 hl (k := 3) rfl (by decide) rfl (fun ls hl => ?_)
            refine zv_iinc (lv' := [(4, .int (zI (d + 1))), (3, .int (zI (o + 1))), (0, .ref h), (1, .int (zI i)), (2, .int (zI r))]) hx hb dX2_rankedBorder_35 hl (k := 4) rfl (by decide) rfl (fun ls hl => ?_)
            refine lv_goto (tgt := 5) hx hb dX2_rankedBorder_38 (by decide) ?_
            exact ih5 (o + 1) (d + 1) (by omega) (zBorder_on h1 c19 (by omega) (by omega)) (by omega) _ (lv_sub hl [2, 3, 4, 1, 0] rfl)
          · have e9 : zBorder w i r = i - d := zBorder_hit h1 c19 (by omega) c24
            refine lv_iload_n hx hb dX2_rankedBorder_27 rfl (lv_at hl 1 rfl) ?_
            refine lv_iload hx hb dX2_rankedBorder_28 (lv_at hl 4 rfl) ?_
            refine zv_isub hx hb dX2_rankedBorder_30 ?_
            exact zr_i hx hb hr hlocks dX2_rankedBorder_31 (⟨_, rfl, e9.symm, by omega, by omega⟩)
  exact lp5 _ 0 1 (by omega) (by rw [show r - 0 = r by omega, show i - 1 + 1 = i by omega]) (Nat.lt_succ_self _) _ (lv_sub hl [2, 3, 4, 1, 0] rfl)

set_option maxHeartbeats 4000000 in
set_option maxRecDepth 100000 in
/-- Periods.isPrimitive -/
theorem kX2_isPrimitive (l : Launch) (g : zG) (h a : Nat) (w : Int → Int) (n : Int) (i j : Int) (hi : 0 ≤ i ∧ i < j ∧ j ≤ n) : Met l yX2_isPrimitive wsX2_isPrimitive (zRm 3 69) (zP g [.ref h, .int (zI i), .int (zI j)] (PW g h a w n)) (vp_Si (fun r => r = zI (zB (zPrim w i j)))) 0 0 (fun _ => False) := by
  refine Met.ofZ (cc := cX2_isPrimitive) (maxL := 5) (ret := (some .boolean)) (by decide) rfl (Nat.le_of_ble_eq_true rfl) ?_
  intro p e s m args below meth c ls hx hb hr hlocks S hin hK hpic hl
  have hown := S.2.2.2.1
  have hts := S.2.2.2.2
  have hl : lv_has ls 5 [(0, .ref h), (1, .int (zI i)), (2, .int (zI j))] := hl
  have hn := hpic.1
  refine lv_iload_n hx hb dX2_isPrimitive_0 rfl (lv_at hl 2 rfl) ?_
  refine lv_iload_n hx hb dX2_isPrimitive_1 rfl (lv_at hl 1 rfl) ?_
  refine zv_isub hx hb dX2_isPrimitive_2 ?_
  refine lv_istore_n (lv' := [(3, .int (zI (j - i))), (0, .ref h), (1, .int (zI i)), (2, .int (zI j))]) hx hb dX2_isPrimitive_3 rfl hl (by decide) rfl (fun ls hl => ?_)
  refine lv_aload_n hx hb dX2_isPrimitive_4 rfl (lv_at hl 1 rfl) ?_
  refine lv_iload_n hx hb dX2_isPrimitive_5 rfl (lv_at hl 2 rfl) ?_
  refine lv_iload_n hx hb dX2_isPrimitive_6 rfl (lv_at hl 3 rfl) ?_
  refine zc_S (As := [.ref h, .int (zI i), .int (zI j)]) (rest := []) S hK (kX2_least l g h a w n i j (by omega)) (va_cwS 3 hts gX2_isPrimitive_X2_least rfl rfl rfl (by decide +kernel) ⟨Nat.le_of_ble_eq_true rfl, Nat.le_of_ble_eq_true rfl⟩) (hpic) rfl hl.1 rfl (Nat.le_of_ble_eq_true rfl) dX2_isPrimitive_7 ⟨Nat.zero_le _, Nat.zero_le _⟩ (fun r7 hr7 => ?_)
  obtain ⟨z7, rfl, hz7⟩ := hr7
  refine lv_istore (lv' := [(4, .int (zI z7)), (3, .int (zI (j - i))), (0, .ref h), (1, .int (zI i)), (2, .int (zI j))]) hx hb dX2_isPrimitive_10 hl (by decide) rfl (fun ls hl => ?_)
  refine lv_iload hx hb dX2_isPrimitive_12 (lv_at hl 0 rfl) ?_
  refine zv_if_le (tgt := 30) hx hb dX2_isPrimitive_14 (by decide) (by omega) (fun c14 => ?_) (fun c14 => ?_)
  · exact absurd c14 (by omega)
  · refine lv_iload hx hb dX2_isPrimitive_17 (lv_at hl 0 rfl) ?_
    refine lv_iload_n hx hb dX2_isPrimitive_19 rfl (lv_at hl 1 rfl) ?_
    refine zv_icmp_eq (tgt := 30) hx hb dX2_isPrimitive_20 (by decide) (by omega) (by omega) (fun c20 => ?_) (fun c20 => ?_)
    · have e9 : zPrim w i j := fun q => by have := q.1; omega
      refine zv_iconst hx hb dX2_isPrimitive_30 ?_
      refine lv_goto (tgt := 35) hx hb dX2_isPrimitive_31 (by decide) ?_
      exact zr_z hx hb hr hlocks dX2_isPrimitive_35 rfl (by rw [zB_t e9])
    · refine lv_iload_n hx hb dX2_isPrimitive_23 rfl (lv_at hl 1 rfl) ?_
      refine lv_iload hx hb dX2_isPrimitive_24 (lv_at hl 0 rfl) ?_
      refine zv_irem hx hb dX2_isPrimitive_26 (by omega) (by omega) ?_
      refine zv_if_eq (tgt := 34) hx hb dX2_isPrimitive_27 (by decide) (by have h8 := Int.emod_nonneg (j - i) (show z7 ≠ 0 by omega); have h9 := Int.emod_lt_of_pos (j - i) (show 0 < z7 by omega); omega) (fun c27 => ?_) (fun c27 => ?_)
      · have e9 : ¬ zPrim w i j := fun q => q ⟨by omega, by rw [← hz7.1]; exact c27⟩
        refine zv_iconst hx hb dX2_isPrimitive_34 ?_
        exact zr_z hx hb hr hlocks dX2_isPrimitive_35 rfl (by rw [zB_f e9])
      · have e9 : zPrim w i j := fun q => c27 (by rw [hz7.1]; exact q.2)
        refine zv_iconst hx hb dX2_isPrimitive_30 ?_
        refine lv_goto (tgt := 35) hx hb dX2_isPrimitive_31 (by decide) ?_
        exact zr_z hx hb hr hlocks dX2_isPrimitive_35 rfl (by rw [zB_t e9])

set_option maxHeartbeats 4000000 in
set_option maxRecDepth 100000 in
/-- Periods.hundredfoldPower -/
theorem kX2_hundredfoldPower (l : Launch) (g : zG) (h a : Nat) (w : Int → Int) (n : Int) (i j : Int) (hi : 0 ≤ i ∧ i < j ∧ j ≤ n) : Met l yX2_hundredfoldPower wsX2_hundredfoldPower (zRm 3 69) (zP g [.ref h, .int (zI i), .int (zI j)] (PW g h a w n)) (vp_Si (fun r => ∃ z : Int, r = zI z ∧ z = 100 * (j - i) / zLP w i j)) 0 0 (fun _ => False) := by
  refine Met.ofZ (cc := cX2_hundredfoldPower) (maxL := 4) (ret := (some .int)) (by decide) rfl (Nat.le_of_ble_eq_true rfl) ?_
  intro p e s m args below meth c ls hx hb hr hlocks S hin hK hpic hl
  have hown := S.2.2.2.1
  have hts := S.2.2.2.2
  have hl : lv_has ls 4 [(0, .ref h), (1, .int (zI i)), (2, .int (zI j))] := hl
  have hn := hpic.1
  refine lv_aload_n hx hb dX2_hundredfoldPower_0 rfl (lv_at hl 0 rfl) ?_
  refine lv_iload_n hx hb dX2_hundredfoldPower_1 rfl (lv_at hl 1 rfl) ?_
  refine lv_iload_n hx hb dX2_hundredfoldPower_2 rfl (lv_at hl 2 rfl) ?_
  refine zc_S (As := [.ref h, .int (zI i), .int (zI j)]) (rest := []) S hK (kX2_least l g h a w n i j (by omega)) (va_cwS 3 hts gX2_hundredfoldPower_X2_least rfl rfl rfl (by decide +kernel) ⟨Nat.le_of_ble_eq_true rfl, Nat.le_of_ble_eq_true rfl⟩) (hpic) rfl hl.1 rfl (Nat.le_of_ble_eq_true rfl) dX2_hundredfoldPower_3 ⟨Nat.zero_le _, Nat.zero_le _⟩ (fun r3 hr3 => ?_)
  obtain ⟨z3, rfl, hz3⟩ := hr3
  refine lv_istore_n (lv' := [(3, .int (zI z3)), (0, .ref h), (1, .int (zI i)), (2, .int (zI j))]) hx hb dX2_hundredfoldPower_6 rfl hl (by decide) rfl (fun ls hl => ?_)
  refine lv_iload_n hx hb dX2_hundredfoldPower_7 rfl (lv_at hl 0 rfl) ?_
  refine zv_if_le (tgt := 22) hx hb dX2_hundredfoldPower_8 (by decide) (by omega) (fun c8 => ?_) (fun c8 => ?_)
  · exact absurd c8 (by omega)
  · refine zv_bipush hx hb dX2_hundredfoldPower_11 (by decide +kernel) ?_
    refine lv_iload_n hx hb dX2_hundredfoldPower_13 rfl (lv_at hl 3 rfl) ?_
    refine lv_iload_n hx hb dX2_hundredfoldPower_14 rfl (lv_at hl 2 rfl) ?_
    refine zv_isub hx hb dX2_hundredfoldPower_15 ?_
    refine zv_imul hx hb dX2_hundredfoldPower_16 ?_
    refine lv_iload_n hx hb dX2_hundredfoldPower_17 rfl (lv_at hl 0 rfl) ?_
    refine zv_idiv hx hb dX2_hundredfoldPower_18 (by omega) (by omega) ?_
    refine lv_goto (tgt := 23) hx hb dX2_hundredfoldPower_19 (by decide) ?_
    exact zr_i hx hb hr hlocks dX2_hundredfoldPower_23 (⟨_, rfl, by rw [← hz3.1]⟩)

set_option maxHeartbeats 4000000 in
set_option maxRecDepth 100000 in
/-- Squares.isSquare -/
theorem kX5_isSquare (l : Launch) (g : zG) (h a : Nat) (w : Int → Int) (n : Int) (i d : Int) (hi : 0 ≤ i ∧ 1 ≤ d ∧ i + 2 * d ≤ n) : Met l yX5_isSquare wsX5_isSquare (zRm 2 45) (zP g [.ref h, .int (zI i), .int (zI d)] (PW g h a w n)) (vp_Si (fun r => r = zI (zB (zSqP w i d)))) 0 0 (fun _ => False) := by
  refine Met.ofZ (cc := cX5_isSquare) (maxL := 3) (ret := (some .boolean)) (by decide) rfl (Nat.le_of_ble_eq_true rfl) ?_
  intro p e s m args below meth c ls hx hb hr hlocks S hin hK hpic hl
  have hown := S.2.2.2.1
  have hts := S.2.2.2.2
  have hl : lv_has ls 3 [(0, .ref h), (1, .int (zI i)), (2, .int (zI d))] := hl
  have hn := hpic.1
  refine lv_aload_n hx hb dX5_isSquare_0 rfl (lv_at hl 0 rfl) ?_
  refine lv_iload_n hx hb dX5_isSquare_1 rfl (lv_at hl 1 rfl) ?_
  refine lv_iload_n hx hb dX5_isSquare_2 rfl (lv_at hl 1 rfl) ?_
  refine lv_iload_n hx hb dX5_isSquare_3 rfl (lv_at hl 2 rfl) ?_
  refine zv_iadd hx hb dX5_isSquare_4 ?_
  refine zc_V (As := [.int (zI i), .int (zI (i + d))]) (rest := []) S hK (kX8_alikeFrom l g h a w n i (i + d) (by omega) (by omega)) (cwV 2 hts gX5_isSquare_X8_alikeFrom rfl rfl rfl (by decide +kernel) ⟨Nat.le_of_ble_eq_true rfl, Nat.le_of_ble_eq_true rfl⟩) (hpic) (hpic.recv hK) rfl hl.1 rfl (Nat.le_of_ble_eq_true rfl) dX5_isSquare_5 ⟨Nat.zero_le _, Nat.zero_le _⟩ (fun r5 hr5 => ?_)
  obtain ⟨z5, rfl, hz5⟩ := hr5
  refine lv_iload_n hx hb dX5_isSquare_8 rfl (lv_at hl 2 rfl) ?_
  refine zv_icmp_lt (tgt := 16) hx hb dX5_isSquare_9 (by decide) (by omega) (by omega) (fun c9 => ?_) (fun c9 => ?_)
  · have e9 : ¬ zSqP w i d := fun q => by have := (zAF_ge (w := w) (n := n) (i := i) (j := i + d) (m := d) (by omega) (by omega) (by omega)).mpr ⟨by omega, by omega, q⟩; omega
    refine zv_iconst hx hb dX5_isSquare_16 ?_
    exact zr_z hx hb hr hlocks dX5_isSquare_17 rfl (by rw [zB_f e9])
  · have e9 : zSqP w i d := ((zAF_ge (w := w) (n := n) (i := i) (j := i + d) (m := d) (by omega) (by omega) (by omega)).mp (by omega)).2.2
    refine zv_iconst hx hb dX5_isSquare_12 ?_
    refine lv_goto (tgt := 17) hx hb dX5_isSquare_13 (by decide) ?_
    exact zr_z hx hb hr hlocks dX5_isSquare_17 rfl (by rw [zB_t e9])

set_option maxHeartbeats 4000000 in
set_option maxRecDepth 100000 in
/-- Squares.isNew -/
theorem kX5_isNew (l : Launch) (g : zG) (h a : Nat) (w : Int → Int) (n : Int) (i d : Int) (hi : 0 ≤ i ∧ 0 ≤ d ∧ i + d ≤ n) : Met l yX5_isNew wsX5_isNew (zRm 2 45) (zP g [.ref h, .int (zI i), .int (zI d)] (PW g h a w n)) (vp_Si (fun r => r = zI (zB (zNew w i d)))) 0 0 (fun _ => False) := by
  refine Met.ofZ (cc := cX5_isNew) (maxL := 4) (ret := (some .boolean)) (by decide) rfl (Nat.le_of_ble_eq_true rfl) ?_
  intro p e s m args below meth c ls hx hb hr hlocks S hin hK hpic hl
  have hown := S.2.2.2.1
  have hts := S.2.2.2.2
  have hl : lv_has ls 4 [(0, .ref h), (1, .int (zI i)), (2, .int (zI d))] := hl
  have hn := hpic.1
  refine zv_iconst hx hb dX5_isNew_0 ?_
  refine lv_istore_n (lv' := [(3, .int (zI 0)), (0, .ref h), (1, .int (zI i)), (2, .int (zI d))]) hx hb dX5_isNew_1 rfl hl (by decide) rfl (fun ls hl => ?_)
  have lp2 : ∀ (z_f : Nat) (k : Int), (0 ≤ k ∧ k ≤ i) → (∀ q, 0 ≤ q → q < k → ¬ zSm w q i d) → ((i - k).toNat) < z_f → ∀ (ls : Array Slot), lv_has ls 4 [(0, .ref h), (1, .int (zI i)), (2, .int (zI d)), (3, .int (zI k))] → W p l e (zRm 2 45) s m args below meth c s.heap [] 0 0 (MQ below (vp_Si (fun r => r = zI (zB (zNew w i d)))) args s 0 0 (fun _ => False)) (F0 m 2 ls []) := by
    intro z_f
    induction z_f with
    | zero => intro k h0 h1 z_m; exact absurd z_m (Nat.not_lt_zero _)
    | succ z_f ih2 =>
      intro k h0 h1 z_m2 ls hl
      refine lv_iload_n hx hb dX5_isNew_2 rfl (lv_at hl 3 rfl) ?_
      refine lv_iload_n hx hb dX5_isNew_3 rfl (lv_at hl 1 rfl) ?_
      refine zv_icmp_ge (tgt := 25) hx hb dX5_isNew_4 (by decide) (by omega) (by omega) (fun c4 => ?_) (fun c4 => ?_)
      · have e9 : zNew w i d := fun q h1q h2q => h1 q h1q (by omega)
        refine zv_iconst hx hb dX5_isNew_25 ?_
        exact zr_z hx hb hr hlocks dX5_isNew_26 rfl (by rw [zB_t e9])
      · refine lv_aload_n hx hb dX5_isNew_7 rfl (lv_at hl 0 rfl) ?_
        refine lv_iload_n hx hb dX5_isNew_8 rfl (lv_at hl 3 rfl) ?_
        refine lv_iload_n hx hb dX5_isNew_9 rfl (lv_at hl 1 rfl) ?_
        refine zc_V (As := [.int (zI k), .int (zI i)]) (rest := []) S hK (kX8_alikeFrom l g h a w n k i (by omega) (by omega)) (cwV 2 hts gX5_isNew_X8_alikeFrom rfl rfl rfl (by decide +kernel) ⟨Nat.le_of_ble_eq_true rfl, Nat.le_of_ble_eq_true rfl⟩) (hpic) (hpic.recv hK) rfl hl.1 rfl (Nat.le_of_ble_eq_true rfl) dX5_isNew_10 ⟨Nat.zero_le _, Nat.zero_le _⟩ (fun r10 hr10 => ?_)
        obtain ⟨z10, rfl, hz10⟩ := hr10
        refine lv_iload_n hx hb dX5_isNew_13 rfl (lv_at hl 2 rfl) ?_
        refine zv_icmp_lt (tgt := 19) hx hb dX5_isNew_14 (by decide) (by omega) (by omega) (fun c14 => ?_) (fun c14 => ?_)
        · refine zv_iinc (lv' := [(3, .int (zI (k + 1))), (0, .ref h), (1, .int (zI i)), (2, .int (zI d))]) hx hb dX5_isNew_19 hl (k := 3) rfl (by decide) rfl (fun ls hl => ?_)
          refine lv_goto (tgt := 2) hx hb dX5_isNew_22 (by decide) ?_
          exact ih2 (k + 1) (by omega) (fun q h1q h2q => (show q < k ∨ q = k by omega).elim (fun h8 => by exact h1 q h1q h8) (fun h8 => by subst h8; exact fun z => by have := (zAF_ge (w := w) (n := n) (i := q) (j := i) (m := d) (by omega) (by omega) (by omega)).mpr ⟨by omega, by omega, z⟩; omega)) (by omega) _ (lv_sub hl [1, 2, 3, 0] rfl)
        · have e9 : ¬ zNew w i d := fun z => z k (by omega) (by omega) ((zAF_ge (w := w) (n := n) (i := k) (j := i) (m := d) (by omega) (by omega) (by omega)).mp (by omega)).2.2
          refine zv_iconst hx hb dX5_isNew_17 ?_
          exact zr_z hx hb hr hlocks dX5_isNew_18 rfl (by rw [zB_f e9])
  exact lp2 _ 0 (by omega) (fun q h1q h2q => absurd h2q (by omega)) (Nat.lt_succ_self _) _ (lv_sub hl [1, 2, 3, 0] rfl)

set_option maxHeartbeats 4000000 in
set_option maxRecDepth 100000 in
/-- Squares.endingAt -/
theorem kX5_endingAt (l : Launch) (g : zG) (h a : Nat) (w : Int → Int) (n : Int) (t : Int) (ht : 0 ≤ t ∧ t ≤ n) : Met l yX5_endingAt wsX5_endingAt (zRm 3 67) (zP g [.ref h, .int (zI t)] (PW g h a w n)) (vp_Si (fun r => ∃ z : Int, r = zI z ∧ z = zSE w t ∧ 0 ≤ z ∧ z ≤ 40)) 0 0 (fun _ => False) := by
  refine Met.ofZ (cc := cX5_endingAt) (maxL := 4) (ret := (some .int)) (by decide) rfl (Nat.le_of_ble_eq_true rfl) ?_
  intro p e s m args below meth c ls hx hb hr hlocks S hin hK hpic hl
  have hown := S.2.2.2.1
  have hts := S.2.2.2.2
  have hl : lv_has ls 4 [(0, .ref h), (1, .int (zI t))] := hl
  have hn := hpic.1
  refine zv_iconst hx hb dX5_endingAt_0 ?_
  refine lv_istore_n (lv' := [(2, .int (zI 0)), (0, .ref h), (1, .int (zI t))]) hx hb dX5_endingAt_1 rfl hl (by decide) rfl (fun ls hl => ?_)
  refine zv_iconst hx hb dX5_endingAt_2 ?_
  refine lv_istore_n (lv' := [(3, .int (zI 1)), (2, .int (zI 0)), (0, .ref h), (1, .int (zI t))]) hx hb dX5_endingAt_3 rfl hl (by decide) rfl (fun ls hl => ?_)
  have lp4 : ∀ (z_f : Nat) (o : Int) (d : Int), (1 ≤ d ∧ d ≤ t / 2 + 1 ∧ 0 ≤ o ∧ o < d) → (o = zC (fun d => zSqP w (t - 2 * d) d) 1 d) → ((t + 1 - d).toNat) < z_f → ∀ (ls : Array Slot), lv_has ls 4 [(0, .ref h), (1, .int (zI t)), (2, .int (zI o)), (3, .int (zI d))] → W p l e (zRm 3 67) s m args below meth c s.heap [] 0 0 (MQ below (vp_Si (fun r => ∃ z : Int, r = zI z ∧ z = zSE w t ∧ 0 ≤ z ∧ z ≤ 40)) args s 0 0 (fun _ => False)) (F0 m 4 ls []) := by
    intro z_f
    induction z_f with
    | zero => intro o d h0 h1 z_m; exact absurd z_m (Nat.not_lt_zero _)
    | succ z_f ih4 =>
      intro o d h0 h1 z_m4 ls hl
      refine zv_iconst hx hb dX5_endingAt_4 ?_
      refine lv_iload_n hx hb dX5_endingAt_5 rfl (lv_at hl 3 rfl) ?_
      refine zv_imul hx hb dX5_endingAt_6 ?_
      refine lv_iload_n hx hb dX5_endingAt_7 rfl (lv_at hl 1 rfl) ?_
      refine zv_icmp_gt (tgt := 33) hx hb dX5_endingAt_8 (by decide) (by omega) (by omega) (fun c8 => ?_) (fun c8 => ?_)
      · have e9 : o = zSE w t := by rw [h1, show d = t / 2 + 1 by omega]; rfl
        refine lv_iload_n hx hb dX5_endingAt_33 rfl (lv_at hl 2 rfl) ?_
        exact zr_i hx hb hr hlocks dX5_endingAt_34 (⟨_, rfl, e9, by omega, by omega⟩)
      · refine lv_aload_n hx hb dX5_endingAt_11 rfl (lv_at hl 0 rfl) ?_
        refine lv_iload_n hx hb dX5_endingAt_12 rfl (lv_at hl 1 rfl) ?_
        refine zv_iconst hx hb dX5_endingAt_13 ?_
        refine lv_iload_n hx hb dX5_endingAt_14 rfl (lv_at hl 3 rfl) ?_
        refine zv_imul hx hb dX5_endingAt_15 ?_
        refine zv_isub hx hb dX5_endingAt_16 ?_
        refine lv_iload_n hx hb dX5_endingAt_17 rfl (lv_at hl 3 rfl) ?_
        refine zc_S (As := [.ref h, .int (zI (t - (2 * d))), .int (zI d)]) (rest := []) S hK (kX5_isSquare l g h a w n (t - (2 * d)) d (by omega)) (va_cwS 3 hts gX5_endingAt_X5_isSquare rfl rfl rfl (by decide +kernel) ⟨Nat.le_of_ble_eq_true rfl, Nat.le_of_ble_eq_true rfl⟩) (hpic) rfl hl.1 rfl (Nat.le_of_ble_eq_true rfl) dX5_endingAt_18 ⟨Nat.zero_le _, Nat.zero_le _⟩ (fun r18 hr18 => ?_)
        obtain rfl := hr18
        refine zv_ifB_eq (tgt := 27) hx hb dX5_endingAt_21 (by decide) (fun c21 => ?_) (fun c21 => ?_)
        · refine zv_iinc (lv' := [(3, .int (zI (d + 1))), (0, .ref h), (1, .int (zI t)), (2, .int (zI o))]) hx hb dX5_endingAt_27 hl (k := 3) rfl (by decide) rfl (fun ls hl => ?_)
          refine lv_goto (tgt := 4) hx hb dX5_endingAt_30 (by decide) ?_
          exact ih4 o (d + 1) (by omega) (by rw [zC_f (P := fun d => zSqP w (t - 2 * d) d) (b := d) (by omega) c21]; exact h1) (by omega) _ (lv_sub hl [1, 2, 3, 0] rfl)
        · refine zv_iinc (lv' := [(2, .int (zI (o + 1))), (0, .ref h), (1, .int (zI t)), (3, .int (zI d))]) hx hb dX5_endingAt_24 hl (k := 2) rfl (by decide) rfl (fun ls hl => ?_)
          refine zv_iinc (lv' := [(3, .int (zI (d + 1))), (2, .int (zI (o + 1))), (0, .ref h), (1, .int (zI t))]) hx hb dX5_endingAt_27 hl (k := 3) rfl (by decide) rfl (fun ls hl => ?_)
          refine lv_goto (tgt := 4) hx hb dX5_endingAt_30 (by decide) ?_
          exact ih4 (o + 1) (d + 1) (by omega) (by rw [zC_t (P := fun d => zSqP w (t - 2 * d) d) (b := d) (by omega) c21]; omega) (by omega) _ (lv_sub hl [2, 3, 1, 0] rfl)
  exact lp4 _ 0 1 (by omega) ((zC_nil _ (by omega)).symm) (Nat.lt_succ_self _) _ (lv_sub hl [2, 3, 1, 0] rfl)

set_option maxHeartbeats 4000000 in
set_option maxRecDepth 100000 in
/-- Squares.total -/
theorem kX5_total (l : Launch) (g : zG) (h a : Nat) (w : Int → Int) (n : Int) : Met l yX5_total wsX5_total (zRm 4 90) (zP g [.ref h] (PW g h a w n)) (vp_Si (fun r => ∃ z : Int, r = zI z ∧ z = zCC (zSqP w) n n ∧ 0 ≤ z ∧ z ≤ 1640)) 0 0 (fun _ => False) := by
  refine Met.ofZ (cc := cX5_total) (maxL := 3) (ret := (some .int)) (by decide) rfl (Nat.le_of_ble_eq_true rfl) ?_
  intro p e s m args below meth c ls hx hb hr hlocks S hin hK hpic hl
  have hown := S.2.2.2.1
  have hts := S.2.2.2.2
  have hl : lv_has ls 3 [(0, .ref h)] := hl
  have hn := hpic.1
  refine zv_iconst hx hb dX5_total_0 ?_
  refine lv_istore_n (lv' := [(1, .int (zI 0)), (0, .ref h)]) hx hb dX5_total_1 rfl hl (by decide) rfl (fun ls hl => ?_)
  refine zv_iconst hx hb dX5_total_2 ?_
  refine lv_istore_n (lv' := [(2, .int (zI 2)), (1, .int (zI 0)), (0, .ref h)]) hx hb dX5_total_3 rfl hl (by decide) rfl (fun ls hl => ?_)
  have lp4 : ∀ (z_f : Nat) (o : Int) (q : Int), (2 ≤ q ∧ (q ≤ n + 1 ∨ q = 2) ∧ 0 ≤ o ∧ o ≤ 40 * (q - 2)) → (o = zS (zSE w) 2 q) → ((n + 1 - q).toNat) < z_f → ∀ (ls : Array Slot), lv_has ls 3 [(0, .ref h), (1, .int (zI o)), (2, .int (zI q))] → W p l e (zRm 4 90) s m args below meth c s.heap [] 0 0 (MQ below (vp_Si (fun r => ∃ z : Int, r = zI z ∧ z = zCC (zSqP w) n n ∧ 0 ≤ z ∧ z ≤ 1640)) args s 0 0 (fun _ => False)) (F0 m 4 ls []) := by
    intro z_f
    induction z_f with
    | zero => intro o q h0 h1 z_m; exact absurd z_m (Nat.not_lt_zero _)
    | succ z_f ih4 =>
      intro o q h0 h1 z_m4 ls hl
      refine lv_iload_n hx hb dX5_total_4 rfl (lv_at hl 2 rfl) ?_
      refine lv_aload_n hx hb dX5_total_5 rfl (lv_at hl 0 rfl) ?_
      refine zc_V (As := []) (rest := [.int (zI q)]) S hK (kX8_length l g h a w n) (cwV 0 hts gX5_total_X8_length rfl rfl rfl (by decide +kernel) ⟨Nat.le_of_ble_eq_true rfl, Nat.le_of_ble_eq_true rfl⟩) (hpic) (hpic.recv hK) rfl hl.1 rfl (Nat.le_of_ble_eq_true rfl) dX5_total_6 ⟨Nat.zero_le _, Nat.zero_le _⟩ (fun r6 hr6 => ?_)
      obtain rfl := hr6
      refine zv_icmp_gt (tgt := 26) hx hb dX5_total_9 (by decide) (by omega) (by omega) (fun c9 => ?_) (fun c9 => ?_)
      · have e9 : o = zCC (zSqP w) n n := by
          rw [← zSE_all w hn.1, h1]
          rcases (show q = n + 1 ∨ (q = 2 ∧ n + 1 < q) by omega) with h8 | h8
          · rw [h8]
          · rw [zS_nil _ (by omega), zS_nil _ (by omega)]
        refine lv_iload_n hx hb dX5_total_26 rfl (lv_at hl 1 rfl) ?_
        exact zr_i hx hb hr hlocks dX5_total_27 (⟨_, rfl, e9, by omega, by omega⟩)
      · refine lv_iload_n hx hb dX5_total_12 rfl (lv_at hl 1 rfl) ?_
        refine lv_aload_n hx hb dX5_total_13 rfl (lv_at hl 0 rfl) ?_
        refine lv_iload_n hx hb dX5_total_14 rfl (lv_at hl 2 rfl) ?_
        refine zc_S (As := [.ref h, .int (zI q)]) (rest := [.int (zI o)]) S hK (kX5_endingAt l g h a w n q (by omega)) (va_cwS 2 hts gX5_total_X5_endingAt rfl rfl rfl (by decide +kernel) ⟨Nat.le_of_ble_eq_true rfl, Nat.le_of_ble_eq_true rfl⟩) (hpic) rfl hl.1 rfl (Nat.le_of_ble_eq_true rfl) dX5_total_15 ⟨Nat.zero_le _, Nat.zero_le _⟩ (fun r15 hr15 => ?_)
        obtain ⟨z15, rfl, hz15⟩ := hr15
        refine zv_iadd hx hb dX5_total_18 ?_
        refine lv_istore_n (lv' := [(1, .int (zI (o + z15))), (0, .ref h), (2, .int (zI q))]) hx hb dX5_total_19 rfl hl (by decide) rfl (fun ls hl => ?_)
        refine zv_iinc (lv' := [(2, .int (zI (q + 1))), (1, .int (zI (o + z15))), (0, .ref h)]) hx hb dX5_total_20 hl (k := 2) rfl (by decide) rfl (fun ls hl => ?_)
        refine lv_goto (tgt := 4) hx hb dX5_total_23 (by decide) ?_
        exact ih4 (o + z15) (q + 1) (by omega) (by rw [zS_succ _ (by omega)]; omega) (by omega) _ (lv_sub hl [2, 1, 0] rfl)
  exact lp4 _ 0 2 (by omega) ((zS_nil _ (by omega)).symm) (Nat.lt_succ_self _) _ (lv_sub hl [2, 1, 0] rfl)

set_option maxHeartbeats 4000000 in
set_option maxRecDepth 100000 in
/-- Squares.unlikeTotal -/
theorem kX5_unlikeTotal (l : Launch) (g : zG) (h a : Nat) (w : Int → Int) (n : Int) : Met l yX5_unlikeTotal wsX5_unlikeTotal (zRm 3 68) (zP g [.ref h] (PW g h a w n)) (vp_Si (fun r => ∃ z : Int, r = zI z ∧ z = zCC (zUsP w) n n ∧ 0 ≤ z ∧ z ≤ 1640)) 0 0 (fun _ => False) := by
  refine Met.ofZ (cc := cX5_unlikeTotal) (maxL := 4) (ret := (some .int)) (by decide) rfl (Nat.le_of_ble_eq_true rfl) ?_
  intro p e s m args below meth c ls hx hb hr hlocks S hin hK hpic hl
  have hown := S.2.2.2.1
  have hts := S.2.2.2.2
  have hl : lv_has ls 4 [(0, .ref h)] := hl
  have hn := hpic.1
  refine zv_iconst hx hb dX5_unlikeTotal_0 ?_
  refine lv_istore_n (lv' := [(1, .int (zI 0)), (0, .ref h)]) hx hb dX5_unlikeTotal_1 rfl hl (by decide) rfl (fun ls hl => ?_)
  refine zv_iconst hx hb dX5_unlikeTotal_2 ?_
  refine lv_istore_n (lv' := [(2, .int (zI 0)), (1, .int (zI 0)), (0, .ref h)]) hx hb dX5_unlikeTotal_3 rfl hl (by decide) rfl (fun ls hl => ?_)
  have lp4 : ∀ (z_f : Nat) (o : Int) (i : Int), (0 ≤ i ∧ i ≤ n ∧ 0 ≤ o ∧ o ≤ 40 * i) → (o = zCC (zUsP w) n i) → ((n - i).toNat) < z_f → ∀ (ls : Array Slot), lv_has ls 4 [(0, .ref h), (1, .int (zI o)), (2, .int (zI i))] → W p l e (zRm 3 68) s m args below meth c s.heap [] 0 0 (MQ below (vp_Si (fun r => ∃ z : Int, r = zI z ∧ z = zCC (zUsP w) n n ∧ 0 ≤ z ∧ z ≤ 1640)) args s 0 0 (fun _ => False)) (F0 m 4 ls []) := by
    intro z_f
    induction z_f with
    | zero => intro o i h0 h1 z_m; exact absurd z_m (Nat.not_lt_zero _)
    | succ z_f ih4 =>
      intro o i h0 h1 z_m4 ls hl
      refine lv_iload_n hx hb dX5_unlikeTotal_4 rfl (lv_at hl 2 rfl) ?_
      refine lv_aload_n hx hb dX5_unlikeTotal_5 rfl (lv_at hl 0 rfl) ?_
      refine zc_V (As := []) (rest := [.int (zI i)]) S hK (kX8_length l g h a w n) (cwV 0 hts gX5_unlikeTotal_X8_length rfl rfl rfl (by decide +kernel) ⟨Nat.le_of_ble_eq_true rfl, Nat.le_of_ble_eq_true rfl⟩) (hpic) (hpic.recv hK) rfl hl.1 rfl (Nat.le_of_ble_eq_true rfl) dX5_unlikeTotal_6 ⟨Nat.zero_le _, Nat.zero_le _⟩ (fun r6 hr6 => ?_)
      obtain rfl := hr6
      refine zv_icmp_ge (tgt := 61) hx hb dX5_unlikeTotal_9 (by decide) (by omega) (by omega) (fun c9 => ?_) (fun c9 => ?_)
      · have e9 : o = zCC (zUsP w) n n := by rw [h1, show i = n by omega]
        refine lv_iload_n hx hb dX5_unlikeTotal_61 rfl (lv_at hl 1 rfl) ?_
        exact zr_i hx hb hr hlocks dX5_unlikeTotal_62 (⟨_, rfl, e9, by omega, by omega⟩)
      · refine zv_iconst hx hb dX5_unlikeTotal_12 ?_
        refine lv_istore_n (lv' := [(3, .int (zI 1)), (0, .ref h), (1, .int (zI o)), (2, .int (zI i))]) hx hb dX5_unlikeTotal_13 rfl hl (by decide) rfl (fun ls hl => ?_)
        have lp14 : ∀ (z_f : Nat) (o2 : Int) (d : Int), (1 ≤ d ∧ d ≤ (n - i) / 2 + 1 ∧ 0 ≤ o2 ∧ o2 ≤ 40 * i + d) → (o2 = zCC (zUsP w) n i + zC ((zUsP w) i) 1 d) → ((n + 1 - d).toNat) < z_f → ∀ (ls : Array Slot), lv_has ls 4 [(0, .ref h), (1, .int (zI o2)), (2, .int (zI i)), (3, .int (zI d))] → W p l e (zRm 3 68) s m args below meth c s.heap [] 0 0 (MQ below (vp_Si (fun r => ∃ z : Int, r = zI z ∧ z = zCC (zUsP w) n n ∧ 0 ≤ z ∧ z ≤ 1640)) args s 0 0 (fun _ => False)) (F0 m 14 ls []) := by
          intro z_f
          induction z_f with
          | zero => intro o2 d k0 k1 z_m; exact absurd z_m (Nat.not_lt_zero _)
          | succ z_f ih14 =>
            intro o2 d k0 k1 z_m14 ls hl
            refine lv_iload_n hx hb dX5_unlikeTotal_14 rfl (lv_at hl 2 rfl) ?_
            refine zv_iconst hx hb dX5_unlikeTotal_15 ?_
            refine lv_iload_n hx hb dX5_unlikeTotal_16 rfl (lv_at hl 3 rfl) ?_
            refine zv_imul hx hb dX5_unlikeTotal_17 ?_
            refine zv_iadd hx hb dX5_unlikeTotal_18 ?_
            refine lv_aload_n hx hb dX5_unlikeTotal_19 rfl (lv_at hl 0 rfl) ?_
            refine zc_V (As := []) (rest := [.int (zI (i + (2 * d)))]) S hK (kX8_length l g h a w n) (cwV 0 hts gX5_unlikeTotal_X8_length rfl rfl rfl (by decide +kernel) ⟨Nat.le_of_ble_eq_true rfl, Nat.le_of_ble_eq_true rfl⟩) (hpic) (hpic.recv hK) rfl hl.1 rfl (Nat.le_of_ble_eq_true rfl) dX5_unlikeTotal_20 ⟨Nat.zero_le _, Nat.zero_le _⟩ (fun r20 hr20 => ?_)
            obtain rfl := hr20
            refine zv_icmp_gt (tgt := 55) hx hb dX5_unlikeTotal_23 (by decide) (by omega) (by omega) (fun c23 => ?_) (fun c23 => ?_)
            · refine zv_iinc (lv' := [(2, .int (zI (i + 1))), (0, .ref h), (1, .int (zI o2)), (3, .int (zI d))]) hx hb dX5_unlikeTotal_55 hl (k := 2) rfl (by decide) rfl (fun ls hl => ?_)
              refine lv_goto (tgt := 4) hx hb dX5_unlikeTotal_58 (by decide) ?_
              exact ih4 o2 (i + 1) ((by have q9 := zRow_bd (zUsP w) (n := n) (i := i) (by omega); have q8 : zRow (zUsP w) n i = zC ((zUsP w) i) 1 ((n - i) / 2 + 1) := rfl; omega)) ((by rw [zCC_succ _ (by omega), k1, show d = (n - i) / 2 + 1 by omega]; rfl)) (by omega) _ (lv_sub hl [1, 2, 0] rfl)
            · refine lv_aload_n hx hb dX5_unlikeTotal_26 rfl (lv_at hl 0 rfl) ?_
              refine lv_iload_n hx hb dX5_unlikeTotal_27 rfl (lv_at hl 2 rfl) ?_
              refine lv_iload_n hx hb dX5_unlikeTotal_28 rfl (lv_at hl 3 rfl) ?_
              refine zc_S (As := [.ref h, .int (zI i), .int (zI d)]) (rest := []) S hK (kX5_isSquare l g h a w n i d (by omega)) (va_cwS 3 hts gX5_unlikeTotal_X5_isSquare rfl rfl rfl (by decide +kernel) ⟨Nat.le_of_ble_eq_true rfl, Nat.le_of_ble_eq_true rfl⟩) (hpic) rfl hl.1 rfl (Nat.le_of_ble_eq_true rfl) dX5_unlikeTotal_29 ⟨Nat.zero_le _, Nat.zero_le _⟩ (fun r29 hr29 => ?_)
              obtain rfl := hr29
              refine zv_ifB_eq (tgt := 49) hx hb dX5_unlikeTotal_32 (by decide) (fun c32 => ?_) (fun c32 => ?_)
              · refine zv_iinc (lv' := [(3, .int (zI (d + 1))), (0, .ref h), (1, .int (zI o2)), (2, .int (zI i))]) hx hb dX5_unlikeTotal_49 hl (k := 3) rfl (by decide) rfl (fun ls hl => ?_)
                refine lv_goto (tgt := 14) hx hb dX5_unlikeTotal_52 (by decide) ?_
                exact ih14 o2 (d + 1) (by omega) (by rw [zC_f (P := zUsP w i) (b := d) (by omega) (fun q => by first | exact c32 q.1 | exact c43 q.2)]; exact k1) (by omega) _ (lv_sub hl [1, 2, 3, 0] rfl)
              · refine lv_aload_n hx hb dX5_unlikeTotal_35 rfl (lv_at hl 0 rfl) ?_
                refine lv_iload_n hx hb dX5_unlikeTotal_36 rfl (lv_at hl 2 rfl) ?_
                refine zv_iconst hx hb dX5_unlikeTotal_37 ?_
                refine lv_iload_n hx hb dX5_unlikeTotal_38 rfl (lv_at hl 3 rfl) ?_
                refine zv_imul hx hb dX5_unlikeTotal_39 ?_
                refine zc_S (As := [.ref h, .int (zI i), .int (zI (2 * d))]) (rest := []) S hK (kX5_isNew l g h a w n i (2 * d) (by omega)) (va_cwS 3 hts gX5_unlikeTotal_X5_isNew rfl rfl rfl (by decide +kernel) ⟨Nat.le_of_ble_eq_true rfl, Nat.le_of_ble_eq_true rfl⟩) (hpic) rfl hl.1 rfl (Nat.le_of_ble_eq_true rfl) dX5_unlikeTotal_40 ⟨Nat.zero_le _, Nat.zero_le _⟩ (fun r40 hr40 => ?_)
                obtain rfl := hr40
                refine zv_ifB_eq (tgt := 49) hx hb dX5_unlikeTotal_43 (by decide) (fun c43 => ?_) (fun c43 => ?_)
                · refine zv_iinc (lv' := [(3, .int (zI (d + 1))), (0, .ref h), (1, .int (zI o2)), (2, .int (zI i))]) hx hb dX5_unlikeTotal_49 hl (k := 3) rfl (by decide) rfl (fun ls hl => ?_)
                  refine lv_goto (tgt := 14) hx hb dX5_unlikeTotal_52 (by decide) ?_
                  exact ih14 o2 (d + 1) (by omega) (by rw [zC_f (P := zUsP w i) (b := d) (by omega) (fun q => by first | exact c32 q.1 | exact c43 q.2)]; exact k1) (by omega) _ (lv_sub hl [1, 2, 3, 0] rfl)
                · refine zv_iinc (lv' := [(1, .int (zI (o2 + 1))), (0, .ref h), (2, .int (zI i)), (3, .int (zI d))]) hx hb dX5_unlikeTotal_46 hl (k := 1) rfl (by decide) rfl (fun ls hl => ?_)
                  refine zv_iinc (lv' := [(3, .int (zI (d + 1))), (1, .int (zI (o2 + 1))), (0, .ref h), (2, .int (zI i))]) hx hb dX5_unlikeTotal_49 hl (k := 3) rfl (by decide) rfl (fun ls hl => ?_)
                  refine lv_goto (tgt := 14) hx hb dX5_unlikeTotal_52 (by decide) ?_
                  exact ih14 (o2 + 1) (d + 1) (by omega) (by rw [zC_t (P := zUsP w i) (b := d) (by omega) ⟨c32, c43⟩]; omega) (by omega) _ (lv_sub hl [2, 1, 3, 0] rfl)
        exact lp14 _ o 1 (by omega) (by rw [zC_nil _ (by omega)]; omega) (Nat.lt_succ_self _) _ (lv_sub hl [1, 2, 3, 0] rfl)
  exact lp4 _ 0 0 (by omega) ((zCC_0 _ n).symm) (Nat.lt_succ_self _) _ (lv_sub hl [2, 1, 0] rfl)

set_option maxHeartbeats 4000000 in
set_option maxRecDepth 100000 in
/-- Squares.ranked -/
theorem kX5_ranked (l : Launch) (g : zG) (h a : Nat) (w : Int → Int) (n : Int) (r u : Int) (hr0 : 0 ≤ r ∧ r < 2147483648) (hu : 0 ≤ u ∧ u ≤ 1) : Met l yX5_ranked wsX5_ranked (zRm 3 67) (zP g [.ref h, .int (zI r), .int (zI u)] (PW g h a w n)) (vp_Si (fun v => ∃ z : Int, v = zI z ∧ z = zRk (zSqP w) n r (fun i d => @ite _ (u = 0) (Classical.propDecidable _) i d) ∧ -4 ≤ z ∧ z ≤ 40)) 0 0 (fun _ => False) := by
  refine Met.ofZ (cc := cX5_ranked) (maxL := 6) (ret := (some .int)) (by decide) rfl (Nat.le_of_ble_eq_true rfl) ?_
  intro p e s m args below meth c ls hx hb hr hlocks S hin hK hpic hl
  have hown := S.2.2.2.1
  have hts := S.2.2.2.2
  have hl : lv_has ls 6 [(0, .ref h), (1, .int (zI r)), (2, .int (zI u))] := hl
  have hn := hpic.1
  refine zv_iconst hx hb dX5_ranked_0 ?_
  refine lv_istore_n (lv' := [(3, .int (zI 0)), (0, .ref h), (1, .int (zI r)), (2, .int (zI u))]) hx hb dX5_ranked_1 rfl hl (by decide) rfl (fun ls hl => ?_)
  refine zv_iconst hx hb dX5_ranked_2 ?_
  refine lv_istore (lv' := [(4, .int (zI 0)), (3, .int (zI 0)), (0, .ref h), (1, .int (zI r)), (2, .int (zI u))]) hx hb dX5_ranked_3 hl (by decide) rfl (fun ls hl => ?_)
  have lp5 : ∀ (z_f : Nat) (o : Int) (i : Int), (0 ≤ i ∧ i ≤ n ∧ 0 ≤ o ∧ o ≤ 40 * i) → (o = zCC (zSqP w) n i) → (o ≤ r) → ((n - i).toNat) < z_f → ∀ (ls : Array Slot), lv_has ls 6 [(0, .ref h), (1, .int (zI r)), (2, .int (zI u)), (3, .int (zI o)), (4, .int (zI i))] → W p l e (zRm 3 67) s m args below meth c s.heap [] 0 0 (MQ below (vp_Si (fun v => ∃ z : Int, v = zI z ∧ z = zRk (zSqP w) n r (fun i d => @ite _ (u = 0) (Classical.propDecidable _) i d) ∧ -4 ≤ z ∧ z ≤ 40)) args s 0 0 (fun _ => False)) (F0 m 5 ls []) := by
    intro z_f
    induction z_f with
    | zero => intro o i h0 h1 h2 z_m; exact absurd z_m (Nat.not_lt_zero _)
    | succ z_f ih5 =>
      intro o i h0 h1 h2 z_m5 ls hl
      refine lv_iload hx hb dX5_ranked_5 (lv_at hl 4 rfl) ?_
      refine lv_aload_n hx hb dX5_ranked_7 rfl (lv_at hl 0 rfl) ?_
      refine zc_V (As := []) (rest := [.int (zI i)]) S hK (kX8_length l g h a w n) (cwV 0 hts gX5_ranked_X8_length rfl rfl rfl (by decide +kernel) ⟨Nat.le_of_ble_eq_true rfl, Nat.le_of_ble_eq_true rfl⟩) (hpic) (hpic.recv hK) rfl hl.1 rfl (Nat.le_of_ble_eq_true rfl) dX5_ranked_8 ⟨Nat.zero_le _, Nat.zero_le _⟩ (fun r8 hr8 => ?_)
      obtain rfl := hr8
      refine zv_icmp_ge (tgt := 74) hx hb dX5_ranked_11 (by decide) (by omega) (by omega) (fun c11 => ?_) (fun c11 => ?_)
      · have e9 : zRk (zSqP w) n r (fun i d => @ite _ (u = 0) (Classical.propDecidable _) i d) = -4 := zRk_none _ (by have e8 := congrArg (zCC (zSqP w) n) (show n = i by omega); omega)
        refine zv_bipush hx hb dX5_ranked_74 (by decide +kernel) ?_
        exact zr_i hx hb hr hlocks dX5_ranked_76 (⟨_, rfl, e9.symm, by omega, by omega⟩)
      · refine zv_iconst hx hb dX5_ranked_14 ?_
        refine lv_istore (lv' := [(5, .int (zI 1)), (0, .ref h), (1, .int (zI r)), (2, .int (zI u)), (3, .int (zI o)), (4, .int (zI i))]) hx hb dX5_ranked_15 hl (by decide) rfl (fun ls hl => ?_)
        have lp17 : ∀ (z_f : Nat) (o2 : Int) (d : Int), (1 ≤ d ∧ d ≤ (n - i) / 2 + 1 ∧ 0 ≤ o2 ∧ o2 ≤ 40 * i + d) → (o2 = zCC (zSqP w) n i + zC ((zSqP w) i) 1 d) → (o2 ≤ r) → ((n + 1 - d).toNat) < z_f → ∀ (ls : Array Slot), lv_has ls 6 [(0, .ref h), (1, .int (zI r)), (2, .int (zI u)), (3, .int (zI o2)), (4, .int (zI i)), (5, .int (zI d))] → W p l e (zRm 3 67) s m args below meth c s.heap [] 0 0 (MQ below (vp_Si (fun v => ∃ z : Int, v = zI z ∧ z = zRk (zSqP w) n r (fun i d => @ite _ (u = 0) (Classical.propDecidable _) i d) ∧ -4 ≤ z ∧ z ≤ 40)) args s 0 0 (fun _ => False)) (F0 m 17 ls []) := by
          intro z_f
          induction z_f with
          | zero => intro o2 d k0 k1 k2 z_m; exact absurd z_m (Nat.not_lt_zero _)
          | succ z_f ih17 =>
            intro o2 d k0 k1 k2 z_m17 ls hl
            refine lv_iload hx hb dX5_ranked_17 (lv_at hl 4 rfl) ?_
            refine zv_iconst hx hb dX5_ranked_19 ?_
            refine lv_iload hx hb dX5_ranked_20 (lv_at hl 5 rfl) ?_
            refine zv_imul hx hb dX5_ranked_22 ?_
            refine zv_iadd hx hb dX5_ranked_23 ?_
            refine lv_aload_n hx hb dX5_ranked_24 rfl (lv_at hl 0 rfl) ?_
            refine zc_V (As := []) (rest := [.int (zI (i + (2 * d)))]) S hK (kX8_length l g h a w n) (cwV 0 hts gX5_ranked_X8_length rfl rfl rfl (by decide +kernel) ⟨Nat.le_of_ble_eq_true rfl, Nat.le_of_ble_eq_true rfl⟩) (hpic) (hpic.recv hK) rfl hl.1 rfl (Nat.le_of_ble_eq_true rfl) dX5_ranked_25 ⟨Nat.zero_le _, Nat.zero_le _⟩ (fun r25 hr25 => ?_)
            obtain rfl := hr25
            refine zv_icmp_gt (tgt := 68) hx hb dX5_ranked_28 (by decide) (by omega) (by omega) (fun c28 => ?_) (fun c28 => ?_)
            · refine zv_iinc (lv' := [(4, .int (zI (i + 1))), (0, .ref h), (1, .int (zI r)), (2, .int (zI u)), (3, .int (zI o2)), (5, .int (zI d))]) hx hb dX5_ranked_68 hl (k := 4) rfl (by decide) rfl (fun ls hl => ?_)
              refine lv_goto (tgt := 5) hx hb dX5_ranked_71 (by decide) ?_
              exact ih5 o2 (i + 1) ((by have q9 := zRow_bd (zSqP w) (n := n) (i := i) (by omega); have q8 : zRow (zSqP w) n i = zC ((zSqP w) i) 1 ((n - i) / 2 + 1) := rfl; omega)) ((by rw [zCC_succ _ (by omega), k1, show d = (n - i) / 2 + 1 by omega]; rfl)) (by omega) (by omega) _ (lv_sub hl [1, 2, 3, 4, 0] rfl)
            · refine lv_aload_n hx hb dX5_ranked_31 rfl (lv_at hl 0 rfl) ?_
              refine lv_iload hx hb dX5_ranked_32 (lv_at hl 4 rfl) ?_
              refine lv_iload hx hb dX5_ranked_34 (lv_at hl 5 rfl) ?_
              refine zc_S (As := [.ref h, .int (zI i), .int (zI d)]) (rest := []) S hK (kX5_isSquare l g h a w n i d (by omega)) (va_cwS 3 hts gX5_ranked_X5_isSquare rfl rfl rfl (by decide +kernel) ⟨Nat.le_of_ble_eq_true rfl, Nat.le_of_ble_eq_true rfl⟩) (hpic) rfl hl.1 rfl (Nat.le_of_ble_eq_true rfl) dX5_ranked_36 ⟨Nat.zero_le _, Nat.zero_le _⟩ (fun r36 hr36 => ?_)
              obtain rfl := hr36
              refine zv_ifB_eq (tgt := 62) hx hb dX5_ranked_39 (by decide) (fun c39 => ?_) (fun c39 => ?_)
              · refine zv_iinc (lv' := [(5, .int (zI (d + 1))), (0, .ref h), (1, .int (zI r)), (2, .int (zI u)), (3, .int (zI o2)), (4, .int (zI i))]) hx hb dX5_ranked_62 hl (k := 5) rfl (by decide) rfl (fun ls hl => ?_)
                refine lv_goto (tgt := 17) hx hb dX5_ranked_65 (by decide) ?_
                exact ih17 o2 (d + 1) (by omega) (by rw [zC_f (P := zSqP w i) (b := d) (by omega) c39]; exact k1) (by omega) (by omega) _ (lv_sub hl [1, 2, 3, 4, 5, 0] rfl)
              · refine lv_iload_n hx hb dX5_ranked_42 rfl (lv_at hl 3 rfl) ?_
                refine lv_iload_n hx hb dX5_ranked_43 rfl (lv_at hl 1 rfl) ?_
                refine zv_icmp_ne (tgt := 59) hx hb dX5_ranked_44 (by decide) (by omega) (by omega) (fun c44 => ?_) (fun c44 => ?_)
                · refine zv_iinc (lv' := [(3, .int (zI (o2 + 1))), (0, .ref h), (1, .int (zI r)), (2, .int (zI u)), (4, .int (zI i)), (5, .int (zI d))]) hx hb dX5_ranked_59 hl (k := 3) rfl (by decide) rfl (fun ls hl => ?_)
                  refine zv_iinc (lv' := [(5, .int (zI (d + 1))), (3, .int (zI (o2 + 1))), (0, .ref h), (1, .int (zI r)), (2, .int (zI u)), (4, .int (zI i))]) hx hb dX5_ranked_62 hl (k := 5) rfl (by decide) rfl (fun ls hl => ?_)
                  refine lv_goto (tgt := 17) hx hb dX5_ranked_65 (by decide) ?_
                  exact ih17 (o2 + 1) (d + 1) (by omega) (by rw [zC_t (P := zSqP w i) (b := d) (by omega) c39]; omega) (by omega) (by omega) _ (lv_sub hl [2, 3, 4, 1, 5, 0] rfl)
                · have e9 := zRk_hit (fun i d => @ite _ (u = 0) (Classical.propDecidable _) i d) (show zIsRk (zSqP w) n r i d from ⟨by omega, c39, by omega⟩)
                  refine lv_iload_n hx hb dX5_ranked_47 rfl (lv_at hl 2 rfl) ?_
                  refine zv_if_ne (tgt := 56) hx hb dX5_ranked_48 (by decide) (by omega) (fun c48 => ?_) (fun c48 => ?_)
                  · replace e9 := e9.trans (if_neg c48)
                    refine lv_iload hx hb dX5_ranked_56 (lv_at hl 5 rfl) ?_
                    exact zr_i hx hb hr hlocks dX5_ranked_58 (⟨_, rfl, e9.symm, by omega, by omega⟩)
                  · replace e9 := e9.trans (if_pos c48)
                    refine lv_iload hx hb dX5_ranked_51 (lv_at hl 4 rfl) ?_
                    refine lv_goto (tgt := 58) hx hb dX5_ranked_53 (by decide) ?_
                    exact zr_i hx hb hr hlocks dX5_ranked_58 (⟨_, rfl, e9.symm, by omega, by omega⟩)
        exact lp17 _ o 1 (by omega) (by rw [zC_nil _ (by omega)]; omega) (h2) (Nat.lt_succ_self _) _ (lv_sub hl [1, 2, 3, 4, 5, 0] rfl)
  exact lp5 _ 0 0 (by omega) ((zCC_0 _ n).symm) (by omega) (Nat.lt_succ_self _) _ (lv_sub hl [2, 3, 4, 1, 0] rfl)

set_option maxHeartbeats 4000000 in
set_option maxRecDepth 100000 in
/-- Suffixes.isAhead -/
theorem kX6_isAhead (l : Launch) (g : zG) (h a : Nat) (w : Int → Int) (n : Int) (i j : Int) (hi : 0 ≤ i ∧ i < n) (hj : 0 ≤ j ∧ j < n) : Met l yX6_isAhead wsX6_isAhead (zRm 2 45) (zP g [.ref h, .int (zI i), .int (zI j)] (PW g h a w n)) (vp_Si (fun r => r = zI (zB (zAh w n i j)))) 0 0 (fun _ => False) := by
  refine Met.ofZ (cc := cX6_isAhead) (maxL := 4) (ret := (some .boolean)) (by decide) rfl (Nat.le_of_ble_eq_true rfl) ?_
  intro p e s m args below meth c ls hx hb hr hlocks S hin hK hpic hl
  have hown := S.2.2.2.1
  have hts := S.2.2.2.2
  have hl : lv_has ls 4 [(0, .ref h), (1, .int (zI i)), (2, .int (zI j))] := hl
  have hn := hpic.1
  have hw := hpic.2.1
  refine lv_aload_n hx hb dX6_isAhead_0 rfl (lv_at hl 0 rfl) ?_
  refine lv_iload_n hx hb dX6_isAhead_1 rfl (lv_at hl 1 rfl) ?_
  refine lv_iload_n hx hb dX6_isAhead_2 rfl (lv_at hl 2 rfl) ?_
  refine zc_V (As := [.int (zI i), .int (zI j)]) (rest := []) S hK (kX8_alikeFrom l g h a w n i j (by omega) (by omega)) (cwV 2 hts gX6_isAhead_X8_alikeFrom rfl rfl rfl (by decide +kernel) ⟨Nat.le_of_ble_eq_true rfl, Nat.le_of_ble_eq_true rfl⟩) (hpic) (hpic.recv hK) rfl hl.1 rfl (Nat.le_of_ble_eq_true rfl) dX6_isAhead_3 ⟨Nat.zero_le _, Nat.zero_le _⟩ (fun r3 hr3 => ?_)
  obtain ⟨z3, rfl, hz3⟩ := hr3
  refine lv_istore_n (lv' := [(3, .int (zI z3)), (0, .ref h), (1, .int (zI i)), (2, .int (zI j))]) hx hb dX6_isAhead_6 rfl hl (by decide) rfl (fun ls hl => ?_)
  refine lv_aload_n hx hb dX6_isAhead_7 rfl (lv_at hl 1 rfl) ?_
  refine lv_iload_n hx hb dX6_isAhead_8 rfl (lv_at hl 2 rfl) ?_
  refine lv_iload_n hx hb dX6_isAhead_9 rfl (lv_at hl 0 rfl) ?_
  refine zv_iadd hx hb dX6_isAhead_10 ?_
  refine zc_V (As := [.int (zI (i + z3))]) (rest := []) S hK (kX8_letterAt l g h a w n (i + z3) (by omega)) (cwV 1 hts gX6_isAhead_X8_letterAt rfl rfl rfl (by decide +kernel) ⟨Nat.le_of_ble_eq_true rfl, Nat.le_of_ble_eq_true rfl⟩) (hpic) (hpic.recv hK) rfl hl.1 rfl (Nat.le_of_ble_eq_true rfl) dX6_isAhead_11 ⟨Nat.zero_le _, Nat.zero_le _⟩ (fun r11 hr11 => ?_)
  obtain ⟨z11, rfl, hz11⟩ := hr11
  refine lv_aload_n hx hb dX6_isAhead_14 rfl (lv_at hl 1 rfl) ?_
  refine lv_iload_n hx hb dX6_isAhead_15 rfl (lv_at hl 3 rfl) ?_
  refine lv_iload_n hx hb dX6_isAhead_16 rfl (lv_at hl 0 rfl) ?_
  refine zv_iadd hx hb dX6_isAhead_17 ?_
  refine zc_V (As := [.int (zI (j + z3))]) (rest := [.int (zI z11)]) S hK (kX8_letterAt l g h a w n (j + z3) (by omega)) (cwV 1 hts gX6_isAhead_X8_letterAt rfl rfl rfl (by decide +kernel) ⟨Nat.le_of_ble_eq_true rfl, Nat.le_of_ble_eq_true rfl⟩) (hpic) (hpic.recv hK) rfl hl.1 rfl (Nat.le_of_ble_eq_true rfl) dX6_isAhead_18 ⟨Nat.zero_le _, Nat.zero_le _⟩ (fun r18 hr18 => ?_)
  obtain ⟨z18, rfl, hz18⟩ := hr18
  have b1 : i + zAF w n i j < n → 0 ≤ w (i + zAF w n i j) := fun q => (hw _ (by omega) q).1
  have b2 : j + zAF w n i j < n → 0 ≤ w (j + zAF w n i j) := fun q => (hw _ (by omega) q).1
  rw [hz3.1] at hz11 hz18
  refine zv_icmp_ge (tgt := 28) hx hb dX6_isAhead_21 (by decide) (by omega) (by omega) (fun c21 => ?_) (fun c21 => ?_)
  · have e9 : ¬ zAh w n i j := fun q => by unfold zAh at q; omega
    refine zv_iconst hx hb dX6_isAhead_28 ?_
    exact zr_z hx hb hr hlocks dX6_isAhead_29 rfl (by rw [zB_f e9])
  · have e9 : zAh w n i j := by unfold zAh; omega
    refine zv_iconst hx hb dX6_isAhead_24 ?_
    refine lv_goto (tgt := 29) hx hb dX6_isAhead_25 (by decide) ?_
    exact zr_z hx hb hr hlocks dX6_isAhead_29 rfl (by rw [zB_t e9])

set_option maxHeartbeats 4000000 in
set_option maxRecDepth 100000 in
/-- Suffixes.rank -/
theorem kX6_rank (l : Launch) (g : zG) (h a : Nat) (w : Int → Int) (n : Int) (i : Int) (hi : 0 ≤ i ∧ i < n) : Met l yX6_rank wsX6_rank (zRm 3 68) (zP g [.ref h, .int (zI i)] (PW g h a w n)) (vp_Si (fun r => ∃ z : Int, r = zI z ∧ z = zRank w n i ∧ 0 ≤ z ∧ z ≤ 40)) 0 0 (fun _ => False) := by
  refine Met.ofZ (cc := cX6_rank) (maxL := 4) (ret := (some .int)) (by decide) rfl (Nat.le_of_ble_eq_true rfl) ?_
  intro p e s m args below meth c ls hx hb hr hlocks S hin hK hpic hl
  have hown := S.2.2.2.1
  have hts := S.2.2.2.2
  have hl : lv_has ls 4 [(0, .ref h), (1, .int (zI i))] := hl
  have hn := hpic.1
  refine zv_iconst hx hb dX6_rank_0 ?_
  refine lv_istore_n (lv' := [(2, .int (zI 0)), (0, .ref h), (1, .int (zI i))]) hx hb dX6_rank_1 rfl hl (by decide) rfl (fun ls hl => ?_)
  refine zv_iconst hx hb dX6_rank_2 ?_
  refine lv_istore_n (lv' := [(3, .int (zI 0)), (2, .int (zI 0)), (0, .ref h), (1, .int (zI i))]) hx hb dX6_rank_3 rfl hl (by decide) rfl (fun ls hl => ?_)
  have lp4 : ∀ (z_f : Nat) (o : Int) (q : Int), (0 ≤ q ∧ q ≤ n ∧ 0 ≤ o ∧ o ≤ q) → (o = zC (fun q => zAh w n q i) 0 q) → ((n - q).toNat) < z_f → ∀ (ls : Array Slot), lv_has ls 4 [(0, .ref h), (1, .int (zI i)), (2, .int (zI o)), (3, .int (zI q))] → W p l e (zRm 3 68) s m args below meth c s.heap [] 0 0 (MQ below (vp_Si (fun r => ∃ z : Int, r = zI z ∧ z = zRank w n i ∧ 0 ≤ z ∧ z ≤ 40)) args s 0 0 (fun _ => False)) (F0 m 4 ls []) := by
    intro z_f
    induction z_f with
    | zero => intro o q h0 h1 z_m; exact absurd z_m (Nat.not_lt_zero _)
    | succ z_f ih4 =>
      intro o q h0 h1 z_m4 ls hl
      refine lv_iload_n hx hb dX6_rank_4 rfl (lv_at hl 3 rfl) ?_
      refine lv_aload_n hx hb dX6_rank_5 rfl (lv_at hl 0 rfl) ?_
      refine zc_V (As := []) (rest := [.int (zI q)]) S hK (kX8_length l g h a w n) (cwV 0 hts gX6_rank_X8_length rfl rfl rfl (by decide +kernel) ⟨Nat.le_of_ble_eq_true rfl, Nat.le_of_ble_eq_true rfl⟩) (hpic) (hpic.recv hK) rfl hl.1 rfl (Nat.le_of_ble_eq_true rfl) dX6_rank_6 ⟨Nat.zero_le _, Nat.zero_le _⟩ (fun r6 hr6 => ?_)
      obtain rfl := hr6
      refine zv_icmp_ge (tgt := 35) hx hb dX6_rank_9 (by decide) (by omega) (by omega) (fun c9 => ?_) (fun c9 => ?_)
      · have e9 : o = zRank w n i := by rw [h1, show q = n by omega]; rfl
        refine lv_iload_n hx hb dX6_rank_35 rfl (lv_at hl 2 rfl) ?_
        exact zr_i hx hb hr hlocks dX6_rank_36 (⟨_, rfl, e9, by omega, by omega⟩)
      · refine lv_iload_n hx hb dX6_rank_12 rfl (lv_at hl 3 rfl) ?_
        refine lv_iload_n hx hb dX6_rank_13 rfl (lv_at hl 1 rfl) ?_
        refine zv_icmp_eq (tgt := 29) hx hb dX6_rank_14 (by decide) (by omega) (by omega) (fun c14 => ?_) (fun c14 => ?_)
        · refine zv_iinc (lv' := [(3, .int (zI (q + 1))), (0, .ref h), (1, .int (zI i)), (2, .int (zI o))]) hx hb dX6_rank_29 hl (k := 3) rfl (by decide) rfl (fun ls hl => ?_)
          refine lv_goto (tgt := 4) hx hb dX6_rank_32 (by decide) ?_
          exact ih4 o (q + 1) (by omega) (by rw [zC_f (P := fun q => zAh w n q i) (b := q) (by omega) (by first | exact c23 | (rw [c14]; exact zAh_irr w n i))]; exact h1) (by omega) _ (lv_sub hl [1, 2, 3, 0] rfl)
        · refine lv_aload_n hx hb dX6_rank_17 rfl (lv_at hl 0 rfl) ?_
          refine lv_iload_n hx hb dX6_rank_18 rfl (lv_at hl 3 rfl) ?_
          refine lv_iload_n hx hb dX6_rank_19 rfl (lv_at hl 1 rfl) ?_
          refine zc_S (As := [.ref h, .int (zI q), .int (zI i)]) (rest := []) S hK (kX6_isAhead l g h a w n q i (by omega) (by omega)) (va_cwS 3 hts gX6_rank_X6_isAhead rfl rfl rfl (by decide +kernel) ⟨Nat.le_of_ble_eq_true rfl, Nat.le_of_ble_eq_true rfl⟩) (hpic) rfl hl.1 rfl (Nat.le_of_ble_eq_true rfl) dX6_rank_20 ⟨Nat.zero_le _, Nat.zero_le _⟩ (fun r20 hr20 => ?_)
          obtain rfl := hr20
          refine zv_ifB_eq (tgt := 29) hx hb dX6_rank_23 (by decide) (fun c23 => ?_) (fun c23 => ?_)
          · refine zv_iinc (lv' := [(3, .int (zI (q + 1))), (0, .ref h), (1, .int (zI i)), (2, .int (zI o))]) hx hb dX6_rank_29 hl (k := 3) rfl (by decide) rfl (fun ls hl => ?_)
            refine lv_goto (tgt := 4) hx hb dX6_rank_32 (by decide) ?_
            exact ih4 o (q + 1) (by omega) (by rw [zC_f (P := fun q => zAh w n q i) (b := q) (by omega) (by first | exact c23 | (rw [c14]; exact zAh_irr w n i))]; exact h1) (by omega) _ (lv_sub hl [1, 2, 3, 0] rfl)
          · refine zv_iinc (lv' := [(2, .int (zI (o + 1))), (0, .ref h), (1, .int (zI i)), (3, .int (zI q))]) hx hb dX6_rank_26 hl (k := 2) rfl (by decide) rfl (fun ls hl => ?_)
            refine zv_iinc (lv' := [(3, .int (zI (q + 1))), (2, .int (zI (o + 1))), (0, .ref h), (1, .int (zI i))]) hx hb dX6_rank_29 hl (k := 3) rfl (by decide) rfl (fun ls hl => ?_)
            refine lv_goto (tgt := 4) hx hb dX6_rank_32 (by decide) ?_
            exact ih4 (o + 1) (q + 1) (by omega) (by rw [zC_t (P := fun q => zAh w n q i) (b := q) (by omega) c23]; omega) (by omega) _ (lv_sub hl [2, 3, 1, 0] rfl)
  exact lp4 _ 0 0 (by omega) ((zC_nil _ (by omega)).symm) (Nat.lt_succ_self _) _ (lv_sub hl [2, 3, 1, 0] rfl)

set_option maxHeartbeats 4000000 in
set_option maxRecDepth 100000 in
/-- Suffixes.placeOf -/
theorem kX6_placeOf (l : Launch) (g : zG) (h a : Nat) (w : Int → Int) (n : Int) (r : Int) (hr0 : 0 ≤ r ∧ r < 2147483648) : Met l yX6_placeOf wsX6_placeOf (zRm 4 91) (zP g [.ref h, .int (zI r)] (PW g h a w n)) (vp_Si (fun v => ∃ z : Int, v = zI z ∧ z = zPl w n r ∧ -4 ≤ z ∧ z ≤ 40)) 0 0 (fun _ => False) := by
  refine Met.ofZ (cc := cX6_placeOf) (maxL := 3) (ret := (some .int)) (by decide) rfl (Nat.le_of_ble_eq_true rfl) ?_
  intro p e s m args below meth c ls hx hb hr hlocks S hin hK hpic hl
  have hown := S.2.2.2.1
  have hts := S.2.2.2.2
  have hl : lv_has ls 3 [(0, .ref h), (1, .int (zI r))] := hl
  have hn := hpic.1
  refine zv_iconst hx hb dX6_placeOf_0 ?_
  refine lv_istore_n (lv' := [(2, .int (zI 0)), (0, .ref h), (1, .int (zI r))]) hx hb dX6_placeOf_1 rfl hl (by decide) rfl (fun ls hl => ?_)
  have lp2 : ∀ (z_f : Nat) (q : Int), (0 ≤ q ∧ q ≤ n) → (∀ x, 0 ≤ x → x < q → zRank w n x ≠ r) → ((n - q).toNat) < z_f → ∀ (ls : Array Slot), lv_has ls 3 [(0, .ref h), (1, .int (zI r)), (2, .int (zI q))] → W p l e (zRm 4 91) s m args below meth c s.heap [] 0 0 (MQ below (vp_Si (fun v => ∃ z : Int, v = zI z ∧ z = zPl w n r ∧ -4 ≤ z ∧ z ≤ 40)) args s 0 0 (fun _ => False)) (F0 m 2 ls []) := by
    intro z_f
    induction z_f with
    | zero => intro q h0 h1 z_m; exact absurd z_m (Nat.not_lt_zero _)
    | succ z_f ih2 =>
      intro q h0 h1 z_m2 ls hl
      refine lv_iload_n hx hb dX6_placeOf_2 rfl (lv_at hl 2 rfl) ?_
      refine lv_aload_n hx hb dX6_placeOf_3 rfl (lv_at hl 0 rfl) ?_
      refine zc_V (As := []) (rest := [.int (zI q)]) S hK (kX8_length l g h a w n) (cwV 0 hts gX6_placeOf_X8_length rfl rfl rfl (by decide +kernel) ⟨Nat.le_of_ble_eq_true rfl, Nat.le_of_ble_eq_true rfl⟩) (hpic) (hpic.recv hK) rfl hl.1 rfl (Nat.le_of_ble_eq_true rfl) dX6_placeOf_4 ⟨Nat.zero_le _, Nat.zero_le _⟩ (fun r4 hr4 => ?_)
      obtain rfl := hr4
      refine zv_icmp_ge (tgt := 27) hx hb dX6_placeOf_7 (by decide) (by omega) (by omega) (fun c7 => ?_) (fun c7 => ?_)
      · have e9 : zPl w n r = -4 := zPl_none (fun x h1x h2x => h1 x h1x (by omega))
        refine zv_bipush hx hb dX6_placeOf_27 (by decide +kernel) ?_
        exact zr_i hx hb hr hlocks dX6_placeOf_29 (⟨_, rfl, e9.symm, by omega, by omega⟩)
      · refine lv_aload_n hx hb dX6_placeOf_10 rfl (lv_at hl 0 rfl) ?_
        refine lv_iload_n hx hb dX6_placeOf_11 rfl (lv_at hl 2 rfl) ?_
        refine zc_S (As := [.ref h, .int (zI q)]) (rest := []) S hK (kX6_rank l g h a w n q (by omega)) (va_cwS 2 hts gX6_placeOf_X6_rank rfl rfl rfl (by decide +kernel) ⟨Nat.le_of_ble_eq_true rfl, Nat.le_of_ble_eq_true rfl⟩) (hpic) rfl hl.1 rfl (Nat.le_of_ble_eq_true rfl) dX6_placeOf_12 ⟨Nat.zero_le _, Nat.zero_le _⟩ (fun r12 hr12 => ?_)
        obtain ⟨z12, rfl, hz12⟩ := hr12
        refine lv_iload_n hx hb dX6_placeOf_15 rfl (lv_at hl 1 rfl) ?_
        refine zv_icmp_ne (tgt := 21) hx hb dX6_placeOf_16 (by decide) (by omega) (by omega) (fun c16 => ?_) (fun c16 => ?_)
        · refine zv_iinc (lv' := [(2, .int (zI (q + 1))), (0, .ref h), (1, .int (zI r))]) hx hb dX6_placeOf_21 hl (k := 2) rfl (by decide) rfl (fun ls hl => ?_)
          refine lv_goto (tgt := 2) hx hb dX6_placeOf_24 (by decide) ?_
          exact ih2 (q + 1) (by omega) (fun x h1x h2x => (show x < q ∨ x = q by omega).elim (fun h8 => by exact h1 x h1x h8) (fun h8 => by subst h8; omega)) (by omega) _ (lv_sub hl [1, 2, 0] rfl)
        · have e9 : zPl w n r = q := zPl_hit ⟨by omega, by omega, by omega⟩
          refine lv_iload_n hx hb dX6_placeOf_19 rfl (lv_at hl 2 rfl) ?_
          exact zr_i hx hb hr hlocks dX6_placeOf_20 (⟨_, rfl, e9.symm, by omega, by omega⟩)
  exact lp2 _ 0 (by omega) (fun x h1x h2x => absurd h2x (by omega)) (Nat.lt_succ_self _) _ (lv_sub hl [1, 2, 0] rfl)

set_option maxHeartbeats 4000000 in
set_option maxRecDepth 100000 in
/-- Runs.endOf -/
theorem kX4_endOf (l : Launch) (g : zG) (h a : Nat) (w : Int → Int) (n : Int) (i d : Int) (hi : 0 ≤ i ∧ 1 ≤ d ∧ i + 2 * d ≤ n) : Met l yX4_endOf wsX4_endOf (zRm 3 69) (zP g [.ref h, .int (zI i), .int (zI d)] (PW g h a w n)) (vp_Si (fun r => ∃ z : Int, r = zI z ∧ ((zRun w n i d ∧ z = zRT w n i d ∧ i + 2 * d ≤ z ∧ z ≤ n) ∨ (¬ zRun w n i d ∧ z = -1)))) 0 0 (fun _ => False) := by
  refine Met.ofZ (cc := cX4_endOf) (maxL := 5) (ret := (some .int)) (by decide) rfl (Nat.le_of_ble_eq_true rfl) ?_
  intro p e s m args below meth c ls hx hb hr hlocks S hin hK hpic hl
  have hown := S.2.2.2.1
  have hts := S.2.2.2.2
  have hl : lv_has ls 5 [(0, .ref h), (1, .int (zI i)), (2, .int (zI d))] := hl
  have hn := hpic.1
  refine lv_iload_n hx hb dX4_endOf_0 rfl (lv_at hl 1 rfl) ?_
  refine zv_if_le (tgt := 25) hx hb dX4_endOf_1 (by decide) (by omega) (fun c1 => ?_) (fun c1 => ?_)
  · have q1 : ¬ (0 < i ∧ w (i - 1) = w (i - 1 + d)) := fun q => by omega
    refine lv_iload_n hx hb dX4_endOf_25 rfl (lv_at hl 1 rfl) ?_
    refine lv_iload_n hx hb dX4_endOf_26 rfl (lv_at hl 2 rfl) ?_
    refine zv_iadd hx hb dX4_endOf_27 ?_
    refine lv_aload_n hx hb dX4_endOf_28 rfl (lv_at hl 0 rfl) ?_
    refine lv_iload_n hx hb dX4_endOf_29 rfl (lv_at hl 1 rfl) ?_
    refine lv_iload_n hx hb dX4_endOf_30 rfl (lv_at hl 1 rfl) ?_
    refine lv_iload_n hx hb dX4_endOf_31 rfl (lv_at hl 2 rfl) ?_
    refine zv_iadd hx hb dX4_endOf_32 ?_
    refine zc_V (As := [.int (zI i), .int (zI (i + d))]) (rest := [.int (zI (i + d))]) S hK (kX8_alikeFrom l g h a w n i (i + d) (by omega) (by omega)) (cwV 2 hts gX4_endOf_X8_alikeFrom rfl rfl rfl (by decide +kernel) ⟨Nat.le_of_ble_eq_true rfl, Nat.le_of_ble_eq_true rfl⟩) (hpic) (hpic.recv hK) rfl hl.1 rfl (Nat.le_of_ble_eq_true rfl) dX4_endOf_33 ⟨Nat.zero_le _, Nat.zero_le _⟩ (fun r33 hr33 => ?_)
    obtain ⟨z33, rfl, hz33⟩ := hr33
    have e8 : i + d + z33 = zRT w n i d := by unfold zRT; omega
    refine zv_iadd hx hb dX4_endOf_36 ?_
    refine lv_istore_n (lv' := [(3, .int (zI ((i + d) + z33))), (0, .ref h), (1, .int (zI i)), (2, .int (zI d))]) hx hb dX4_endOf_37 rfl hl (by decide) rfl (fun ls hl => ?_)
    refine lv_iload_n hx hb dX4_endOf_38 rfl (lv_at hl 0 rfl) ?_
    refine lv_iload_n hx hb dX4_endOf_39 rfl (lv_at hl 2 rfl) ?_
    refine zv_isub hx hb dX4_endOf_40 ?_
    refine zv_iconst hx hb dX4_endOf_41 ?_
    refine lv_iload_n hx hb dX4_endOf_42 rfl (lv_at hl 3 rfl) ?_
    refine zv_imul hx hb dX4_endOf_43 ?_
    refine zv_icmp_lt (tgt := 61) hx hb dX4_endOf_44 (by decide) (by omega) (by omega) (fun c44 => ?_) (fun c44 => ?_)
    · have e9 : ¬ zRun w n i d := fun q => by have := q.2.1; omega
      refine zv_iconst hx hb dX4_endOf_61 ?_
      refine lv_istore (lv' := [(4, .int (zI 0)), (3, .int (zI ((i + d) + z33))), (0, .ref h), (1, .int (zI i)), (2, .int (zI d))]) hx hb dX4_endOf_62 hl (by decide) rfl (fun ls hl => ?_)
      refine lv_iload hx hb dX4_endOf_64 (lv_at hl 0 rfl) ?_
      refine zv_if_eq (tgt := 73) hx hb dX4_endOf_66 (by decide) (by omega) (fun c66 => ?_) (fun c66 => ?_)
      · refine zv_iconst hx hb dX4_endOf_73 ?_
        exact zr_i hx hb hr hlocks dX4_endOf_74 (⟨_, rfl, Or.inr ⟨e9, rfl⟩⟩)
      · exfalso; omega
    · refine lv_aload_n hx hb dX4_endOf_47 rfl (lv_at hl 1 rfl) ?_
      refine lv_iload_n hx hb dX4_endOf_48 rfl (lv_at hl 2 rfl) ?_
      refine lv_iload_n hx hb dX4_endOf_49 rfl (lv_at hl 0 rfl) ?_
      refine zc_S (As := [.ref h, .int (zI i), .int (zI ((i + d) + z33))]) (rest := []) S hK (kX2_least l g h a w n i ((i + d) + z33) (by omega)) (va_cwS 3 hts gX4_endOf_X2_least rfl rfl rfl (by decide +kernel) ⟨Nat.le_of_ble_eq_true rfl, Nat.le_of_ble_eq_true rfl⟩) (hpic) rfl hl.1 rfl (Nat.le_of_ble_eq_true rfl) dX4_endOf_50 ⟨Nat.zero_le _, Nat.zero_le _⟩ (fun r50 hr50 => ?_)
      obtain ⟨z50, rfl, hz50⟩ := hr50
      refine lv_iload_n hx hb dX4_endOf_53 rfl (lv_at hl 3 rfl) ?_
      refine zv_icmp_ne (tgt := 61) hx hb dX4_endOf_54 (by decide) (by omega) (by omega) (fun c54 => ?_) (fun c54 => ?_)
      · have e9 : ¬ zRun w n i d := fun q => by have := q.2.2; rw [← e8] at this; omega
        refine zv_iconst hx hb dX4_endOf_61 ?_
        refine lv_istore (lv' := [(4, .int (zI 0)), (3, .int (zI ((i + d) + z33))), (0, .ref h), (1, .int (zI i)), (2, .int (zI d))]) hx hb dX4_endOf_62 hl (by decide) rfl (fun ls hl => ?_)
        refine lv_iload hx hb dX4_endOf_64 (lv_at hl 0 rfl) ?_
        refine zv_if_eq (tgt := 73) hx hb dX4_endOf_66 (by decide) (by omega) (fun c66 => ?_) (fun c66 => ?_)
        · refine zv_iconst hx hb dX4_endOf_73 ?_
          exact zr_i hx hb hr hlocks dX4_endOf_74 (⟨_, rfl, Or.inr ⟨e9, rfl⟩⟩)
        · exfalso; omega
      · have e9 : zRun w n i d := ⟨q1, by omega, by rw [← e8]; omega⟩
        refine zv_iconst hx hb dX4_endOf_57 ?_
        refine lv_goto (tgt := 62) hx hb dX4_endOf_58 (by decide) ?_
        refine lv_istore (lv' := [(4, .int (zI 1)), (3, .int (zI ((i + d) + z33))), (0, .ref h), (1, .int (zI i)), (2, .int (zI d))]) hx hb dX4_endOf_62 hl (by decide) rfl (fun ls hl => ?_)
        refine lv_iload hx hb dX4_endOf_64 (lv_at hl 0 rfl) ?_
        refine zv_if_eq (tgt := 73) hx hb dX4_endOf_66 (by decide) (by omega) (fun c66 => ?_) (fun c66 => ?_)
        · exfalso; omega
        · refine lv_iload_n hx hb dX4_endOf_69 rfl (lv_at hl 1 rfl) ?_
          refine lv_goto (tgt := 74) hx hb dX4_endOf_70 (by decide) ?_
          exact zr_i hx hb hr hlocks dX4_endOf_74 (⟨_, rfl, Or.inl ⟨e9, e8, by omega, by omega⟩⟩)
  · refine lv_aload_n hx hb dX4_endOf_4 rfl (lv_at hl 0 rfl) ?_
    refine lv_iload_n hx hb dX4_endOf_5 rfl (lv_at hl 1 rfl) ?_
    refine zv_iconst hx hb dX4_endOf_6 ?_
    refine zv_isub hx hb dX4_endOf_7 ?_
    refine zc_V (As := [.int (zI (i - 1))]) (rest := []) S hK (kX8_letterAt l g h a w n (i - 1) (by omega)) (cwV 1 hts gX4_endOf_X8_letterAt rfl rfl rfl (by decide +kernel) ⟨Nat.le_of_ble_eq_true rfl, Nat.le_of_ble_eq_true rfl⟩) (hpic) (hpic.recv hK) rfl hl.1 rfl (Nat.le_of_ble_eq_true rfl) dX4_endOf_8 ⟨Nat.zero_le _, Nat.zero_le _⟩ (fun r8 hr8 => ?_)
    obtain ⟨z8, rfl, hz8⟩ := hr8
    refine lv_aload_n hx hb dX4_endOf_11 rfl (lv_at hl 0 rfl) ?_
    refine lv_iload_n hx hb dX4_endOf_12 rfl (lv_at hl 1 rfl) ?_
    refine zv_iconst hx hb dX4_endOf_13 ?_
    refine zv_isub hx hb dX4_endOf_14 ?_
    refine lv_iload_n hx hb dX4_endOf_15 rfl (lv_at hl 2 rfl) ?_
    refine zv_iadd hx hb dX4_endOf_16 ?_
    refine zc_V (As := [.int (zI ((i - 1) + d))]) (rest := [.int (zI z8)]) S hK (kX8_letterAt l g h a w n ((i - 1) + d) (by omega)) (cwV 1 hts gX4_endOf_X8_letterAt rfl rfl rfl (by decide +kernel) ⟨Nat.le_of_ble_eq_true rfl, Nat.le_of_ble_eq_true rfl⟩) (hpic) (hpic.recv hK) rfl hl.1 rfl (Nat.le_of_ble_eq_true rfl) dX4_endOf_17 ⟨Nat.zero_le _, Nat.zero_le _⟩ (fun r17 hr17 => ?_)
    obtain ⟨z17, rfl, hz17⟩ := hr17
    refine zv_icmp_ne (tgt := 25) hx hb dX4_endOf_20 (by decide) (by omega) (by omega) (fun c20 => ?_) (fun c20 => ?_)
    · have q1 : ¬ (0 < i ∧ w (i - 1) = w (i - 1 + d)) := fun q => by omega
      refine lv_iload_n hx hb dX4_endOf_25 rfl (lv_at hl 1 rfl) ?_
      refine lv_iload_n hx hb dX4_endOf_26 rfl (lv_at hl 2 rfl) ?_
      refine zv_iadd hx hb dX4_endOf_27 ?_
      refine lv_aload_n hx hb dX4_endOf_28 rfl (lv_at hl 0 rfl) ?_
      refine lv_iload_n hx hb dX4_endOf_29 rfl (lv_at hl 1 rfl) ?_
      refine lv_iload_n hx hb dX4_endOf_30 rfl (lv_at hl 1 rfl) ?_
      refine lv_iload_n hx hb dX4_endOf_31 rfl (lv_at hl 2 rfl) ?_
      refine zv_iadd hx hb dX4_endOf_32 ?_
      refine zc_V (As := [.int (zI i), .int (zI (i + d))]) (rest := [.int (zI (i + d))]) S hK (kX8_alikeFrom l g h a w n i (i + d) (by omega) (by omega)) (cwV 2 hts gX4_endOf_X8_alikeFrom rfl rfl rfl (by decide +kernel) ⟨Nat.le_of_ble_eq_true rfl, Nat.le_of_ble_eq_true rfl⟩) (hpic) (hpic.recv hK) rfl hl.1 rfl (Nat.le_of_ble_eq_true rfl) dX4_endOf_33 ⟨Nat.zero_le _, Nat.zero_le _⟩ (fun r33 hr33 => ?_)
      obtain ⟨z33, rfl, hz33⟩ := hr33
      have e8 : i + d + z33 = zRT w n i d := by unfold zRT; omega
      refine zv_iadd hx hb dX4_endOf_36 ?_
      refine lv_istore_n (lv' := [(3, .int (zI ((i + d) + z33))), (0, .ref h), (1, .int (zI i)), (2, .int (zI d))]) hx hb dX4_endOf_37 rfl hl (by decide) rfl (fun ls hl => ?_)
      refine lv_iload_n hx hb dX4_endOf_38 rfl (lv_at hl 0 rfl) ?_
      refine lv_iload_n hx hb dX4_endOf_39 rfl (lv_at hl 2 rfl) ?_
      refine zv_isub hx hb dX4_endOf_40 ?_
      refine zv_iconst hx hb dX4_endOf_41 ?_
      refine lv_iload_n hx hb dX4_endOf_42 rfl (lv_at hl 3 rfl) ?_
      refine zv_imul hx hb dX4_endOf_43 ?_
      refine zv_icmp_lt (tgt := 61) hx hb dX4_endOf_44 (by decide) (by omega) (by omega) (fun c44 => ?_) (fun c44 => ?_)
      · have e9 : ¬ zRun w n i d := fun q => by have := q.2.1; omega
        refine zv_iconst hx hb dX4_endOf_61 ?_
        refine lv_istore (lv' := [(4, .int (zI 0)), (3, .int (zI ((i + d) + z33))), (0, .ref h), (1, .int (zI i)), (2, .int (zI d))]) hx hb dX4_endOf_62 hl (by decide) rfl (fun ls hl => ?_)
        refine lv_iload hx hb dX4_endOf_64 (lv_at hl 0 rfl) ?_
        refine zv_if_eq (tgt := 73) hx hb dX4_endOf_66 (by decide) (by omega) (fun c66 => ?_) (fun c66 => ?_)
        · refine zv_iconst hx hb dX4_endOf_73 ?_
          exact zr_i hx hb hr hlocks dX4_endOf_74 (⟨_, rfl, Or.inr ⟨e9, rfl⟩⟩)
        · exfalso; omega
      · refine lv_aload_n hx hb dX4_endOf_47 rfl (lv_at hl 1 rfl) ?_
        refine lv_iload_n hx hb dX4_endOf_48 rfl (lv_at hl 2 rfl) ?_
        refine lv_iload_n hx hb dX4_endOf_49 rfl (lv_at hl 0 rfl) ?_
        refine zc_S (As := [.ref h, .int (zI i), .int (zI ((i + d) + z33))]) (rest := []) S hK (kX2_least l g h a w n i ((i + d) + z33) (by omega)) (va_cwS 3 hts gX4_endOf_X2_least rfl rfl rfl (by decide +kernel) ⟨Nat.le_of_ble_eq_true rfl, Nat.le_of_ble_eq_true rfl⟩) (hpic) rfl hl.1 rfl (Nat.le_of_ble_eq_true rfl) dX4_endOf_50 ⟨Nat.zero_le _, Nat.zero_le _⟩ (fun r50 hr50 => ?_)
        obtain ⟨z50, rfl, hz50⟩ := hr50
        refine lv_iload_n hx hb dX4_endOf_53 rfl (lv_at hl 3 rfl) ?_
        refine zv_icmp_ne (tgt := 61) hx hb dX4_endOf_54 (by decide) (by omega) (by omega) (fun c54 => ?_) (fun c54 => ?_)
        · have e9 : ¬ zRun w n i d := fun q => by have := q.2.2; rw [← e8] at this; omega
          refine zv_iconst hx hb dX4_endOf_61 ?_
          refine lv_istore (lv' := [(4, .int (zI 0)), (3, .int (zI ((i + d) + z33))), (0, .ref h), (1, .int (zI i)), (2, .int (zI d))]) hx hb dX4_endOf_62 hl (by decide) rfl (fun ls hl => ?_)
          refine lv_iload hx hb dX4_endOf_64 (lv_at hl 0 rfl) ?_
          refine zv_if_eq (tgt := 73) hx hb dX4_endOf_66 (by decide) (by omega) (fun c66 => ?_) (fun c66 => ?_)
          · refine zv_iconst hx hb dX4_endOf_73 ?_
            exact zr_i hx hb hr hlocks dX4_endOf_74 (⟨_, rfl, Or.inr ⟨e9, rfl⟩⟩)
          · exfalso; omega
        · have e9 : zRun w n i d := ⟨q1, by omega, by rw [← e8]; omega⟩
          refine zv_iconst hx hb dX4_endOf_57 ?_
          refine lv_goto (tgt := 62) hx hb dX4_endOf_58 (by decide) ?_
          refine lv_istore (lv' := [(4, .int (zI 1)), (3, .int (zI ((i + d) + z33))), (0, .ref h), (1, .int (zI i)), (2, .int (zI d))]) hx hb dX4_endOf_62 hl (by decide) rfl (fun ls hl => ?_)
          refine lv_iload hx hb dX4_endOf_64 (lv_at hl 0 rfl) ?_
          refine zv_if_eq (tgt := 73) hx hb dX4_endOf_66 (by decide) (by omega) (fun c66 => ?_) (fun c66 => ?_)
          · exfalso; omega
          · refine lv_iload_n hx hb dX4_endOf_69 rfl (lv_at hl 1 rfl) ?_
            refine lv_goto (tgt := 74) hx hb dX4_endOf_70 (by decide) ?_
            exact zr_i hx hb hr hlocks dX4_endOf_74 (⟨_, rfl, Or.inl ⟨e9, e8, by omega, by omega⟩⟩)
    · have e9 : ¬ zRun w n i d := fun q => q.1 ⟨by omega, by rw [show i - 1 + d = i - 1 + d from rfl]; omega⟩
      refine zv_iconst hx hb dX4_endOf_23 ?_
      exact zr_i hx hb hr hlocks dX4_endOf_24 (⟨_, rfl, Or.inr ⟨e9, rfl⟩⟩)

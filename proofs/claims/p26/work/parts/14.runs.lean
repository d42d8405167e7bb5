set_option maxHeartbeats 4000000 in
set_option maxRecDepth 100000 in
/-- Runs.rootOf -/
theorem kX4_rootOf (l : Launch) (g : zG) (h a : Nat) (w : Int → Int) (n : Int) (i t d : Int) (hi : 0 ≤ i ∧ 1 ≤ d ∧ i + d ≤ t ∧ t ≤ n) : Met l yX4_rootOf wsX4_rootOf (zRm 2 45) (zP g [.ref h, .int (zI i), .int (zI t), .int (zI d)] (PW g h a w n)) (vp_Si (fun r => ∃ z : Int, r = zI z ∧ z = zRootTo w d i (t - d + 1) ∧ i ≤ z ∧ z ≤ t - d)) 0 0 (fun _ => False) := by
  refine Met.ofZ (cc := cX4_rootOf) (maxL := 7) (ret := (some .int)) (by decide) rfl (Nat.le_of_ble_eq_true rfl) ?_
  intro p e s m args below meth c ls hx hb hr hlocks S hin hK hpic hl
  have hown := S.2.2.2.1
  have hts := S.2.2.2.2
  have hl : lv_has ls 7 [(0, .ref h), (1, .int (zI i)), (2, .int (zI t)), (3, .int (zI d))] := hl
  have hn := hpic.1
  refine lv_iload_n hx hb dX4_rootOf_0 rfl (lv_at hl 1 rfl) ?_
  refine lv_istore (lv' := [(4, .int (zI i)), (0, .ref h), (1, .int (zI i)), (2, .int (zI t)), (3, .int (zI d))]) hx hb dX4_rootOf_1 hl (by decide) rfl (fun ls hl => ?_)
  refine lv_iload_n hx hb dX4_rootOf_3 rfl (lv_at hl 2 rfl) ?_
  refine zv_iconst hx hb dX4_rootOf_4 ?_
  refine zv_iadd hx hb dX4_rootOf_5 ?_
  refine lv_istore (lv' := [(5, .int (zI (i + 1))), (4, .int (zI i)), (0, .ref h), (1, .int (zI i)), (2, .int (zI t)), (3, .int (zI d))]) hx hb dX4_rootOf_6 hl (by decide) rfl (fun ls hl => ?_)
  have lp8 : ∀ (z_f : Nat) (o : Int) (k : Int), (i < k ∧ k ≤ t - d + 1 ∧ i ≤ o ∧ o < k) → (o = zRootTo w d i k) → ((t - d + 1 - k).toNat) < z_f → ∀ (ls : Array Slot), lv_has ls 7 [(0, .ref h), (1, .int (zI i)), (2, .int (zI t)), (3, .int (zI d)), (4, .int (zI o)), (5, .int (zI k))] → W p l e (zRm 2 45) s m args below meth c s.heap [] 0 0 (MQ below (vp_Si (fun r => ∃ z : Int, r = zI z ∧ z = zRootTo w d i (t - d + 1) ∧ i ≤ z ∧ z ≤ t - d)) args s 0 0 (fun _ => False)) (F0 m 8 ls []) := by
    intro z_f
    induction z_f with
    | zero => intro o k h0 h1 z_m; exact absurd z_m (Nat.not_lt_zero _)
    | succ z_f ih8 =>
      intro o k h0 h1 z_m8 ls hl
      refine lv_iload hx hb dX4_rootOf_8 (lv_at hl 5 rfl) ?_
      refine lv_iload_n hx hb dX4_rootOf_10 rfl (lv_at hl 3 rfl) ?_
      refine zv_iadd hx hb dX4_rootOf_11 ?_
      refine lv_iload_n hx hb dX4_rootOf_12 rfl (lv_at hl 2 rfl) ?_
      refine zv_icmp_gt (tgt := 63) hx hb dX4_rootOf_13 (by decide) (by omega) (by omega) (fun c13 => ?_) (fun c13 => ?_)
      · have e9 : o = zRootTo w d i (t - d + 1) := by rw [h1, show k = t - d + 1 by omega]
        refine lv_iload hx hb dX4_rootOf_63 (lv_at hl 4 rfl) ?_
        exact zr_i hx hb hr hlocks dX4_rootOf_65 (⟨_, rfl, e9, by omega, by omega⟩)
      · refine lv_aload_n hx hb dX4_rootOf_16 rfl (lv_at hl 0 rfl) ?_
        refine lv_iload hx hb dX4_rootOf_17 (lv_at hl 5 rfl) ?_
        refine lv_iload hx hb dX4_rootOf_19 (lv_at hl 4 rfl) ?_
        refine zc_V (As := [.int (zI k), .int (zI o)]) (rest := []) S hK (kX8_alikeFrom l g h a w n k o (by omega) (by omega)) (cwV 2 hts gX4_rootOf_X8_alikeFrom rfl rfl rfl (by decide +kernel) ⟨Nat.le_of_ble_eq_true rfl, Nat.le_of_ble_eq_true rfl⟩) (hpic) (hpic.recv hK) rfl hl.1 rfl (Nat.le_of_ble_eq_true rfl) dX4_rootOf_21 ⟨Nat.zero_le _, Nat.zero_le _⟩ (fun r21 hr21 => ?_)
        obtain ⟨z21, rfl, hz21⟩ := hr21
        refine lv_istore (lv' := [(6, .int (zI z21)), (0, .ref h), (1, .int (zI i)), (2, .int (zI t)), (3, .int (zI d)), (4, .int (zI o)), (5, .int (zI k))]) hx hb dX4_rootOf_24 hl (by decide) rfl (fun ls hl => ?_)
        refine lv_iload hx hb dX4_rootOf_26 (lv_at hl 0 rfl) ?_
        refine lv_iload_n hx hb dX4_rootOf_28 rfl (lv_at hl 4 rfl) ?_
        refine zv_icmp_ge (tgt := 57) hx hb dX4_rootOf_29 (by decide) (by omega) (by omega) (fun c29 => ?_) (fun c29 => ?_)
        · refine zv_iinc (lv' := [(5, .int (zI (k + 1))), (6, .int (zI z21)), (0, .ref h), (1, .int (zI i)), (2, .int (zI t)), (3, .int (zI d)), (4, .int (zI o))]) hx hb dX4_rootOf_57 hl (k := 6) rfl (by decide) rfl (fun ls hl => ?_)
          refine lv_goto (tgt := 8) hx hb dX4_rootOf_60 (by decide) ?_
          exact ih8 o (k + 1) (by omega) (by rw [zRootTo_f (by omega) (by rw [← h1]; exact fun q => by have q9 := (zLs_AF (n := n) (by omega) (by omega) (by omega)).mp q; rw [← hz21.1] at q9; omega)]; exact h1) (by omega) _ (lv_sub hl [2, 3, 4, 5, 6, 0] rfl)
        · refine lv_aload_n hx hb dX4_rootOf_32 rfl (lv_at hl 1 rfl) ?_
          refine lv_iload hx hb dX4_rootOf_33 (lv_at hl 6 rfl) ?_
          refine lv_iload hx hb dX4_rootOf_35 (lv_at hl 0 rfl) ?_
          refine zv_iadd hx hb dX4_rootOf_37 ?_
          refine zc_V (As := [.int (zI (k + z21))]) (rest := []) S hK (kX8_letterAt l g h a w n (k + z21) (by omega)) (cwV 1 hts gX4_rootOf_X8_letterAt rfl rfl rfl (by decide +kernel) ⟨Nat.le_of_ble_eq_true rfl, Nat.le_of_ble_eq_true rfl⟩) (hpic) (hpic.recv hK) rfl hl.1 rfl (Nat.le_of_ble_eq_true rfl) dX4_rootOf_38 ⟨Nat.zero_le _, Nat.zero_le _⟩ (fun r38 hr38 => ?_)
          obtain ⟨z38, rfl, hz38⟩ := hr38
          refine lv_aload_n hx hb dX4_rootOf_41 rfl (lv_at hl 1 rfl) ?_
          refine lv_iload hx hb dX4_rootOf_42 (lv_at hl 5 rfl) ?_
          refine lv_iload hx hb dX4_rootOf_44 (lv_at hl 0 rfl) ?_
          refine zv_iadd hx hb dX4_rootOf_46 ?_
          refine zc_V (As := [.int (zI (o + z21))]) (rest := [.int (zI z38)]) S hK (kX8_letterAt l g h a w n (o + z21) (by omega)) (cwV 1 hts gX4_rootOf_X8_letterAt rfl rfl rfl (by decide +kernel) ⟨Nat.le_of_ble_eq_true rfl, Nat.le_of_ble_eq_true rfl⟩) (hpic) (hpic.recv hK) rfl hl.1 rfl (Nat.le_of_ble_eq_true rfl) dX4_rootOf_47 ⟨Nat.zero_le _, Nat.zero_le _⟩ (fun r47 hr47 => ?_)
          obtain ⟨z47, rfl, hz47⟩ := hr47
          refine zv_icmp_ge (tgt := 57) hx hb dX4_rootOf_50 (by decide) (by omega) (by omega) (fun c50 => ?_) (fun c50 => ?_)
          · refine zv_iinc (lv' := [(5, .int (zI (k + 1))), (6, .int (zI z21)), (0, .ref h), (1, .int (zI i)), (2, .int (zI t)), (3, .int (zI d)), (4, .int (zI o))]) hx hb dX4_rootOf_57 hl (k := 6) rfl (by decide) rfl (fun ls hl => ?_)
            refine lv_goto (tgt := 8) hx hb dX4_rootOf_60 (by decide) ?_
            exact ih8 o (k + 1) (by omega) (by rw [zRootTo_f (by omega) (by rw [← h1]; exact fun q => by have q9 := (zLs_AF (n := n) (by omega) (by omega) (by omega)).mp q; rw [← hz21.1] at q9; omega)]; exact h1) (by omega) _ (lv_sub hl [2, 3, 4, 5, 6, 0] rfl)
          · refine lv_iload hx hb dX4_rootOf_53 (lv_at hl 6 rfl) ?_
            refine lv_istore (lv' := [(4, .int (zI k)), (6, .int (zI z21)), (0, .ref h), (1, .int (zI i)), (2, .int (zI t)), (3, .int (zI d)), (5, .int (zI k))]) hx hb dX4_rootOf_55 hl (by decide) rfl (fun ls hl => ?_)
            refine zv_iinc (lv' := [(5, .int (zI (k + 1))), (4, .int (zI k)), (6, .int (zI z21)), (0, .ref h), (1, .int (zI i)), (2, .int (zI t)), (3, .int (zI d))]) hx hb dX4_rootOf_57 hl (k := 6) rfl (by decide) rfl (fun ls hl => ?_)
            refine lv_goto (tgt := 8) hx hb dX4_rootOf_60 (by decide) ?_
            exact ih8 k (k + 1) (by omega) (by rw [zRootTo_t (by omega) (by rw [← h1]; exact (zLs_AF (n := n) (by omega) (by omega) (by omega)).mpr ⟨by omega, by rw [← hz21.1]; omega⟩)]) (by omega) _ (lv_sub hl [3, 4, 5, 6, 1, 0] rfl)
  exact lp8 _ i (i + 1) (by omega) ((zRootTo_0 w d i).symm) (Nat.lt_succ_self _) _ (lv_sub hl [2, 3, 4, 5, 1, 0] rfl)

set_option maxHeartbeats 4000000 in
set_option maxRecDepth 100000 in
/-- Runs.told -/
theorem kX4_told (l : Launch) (g : zG) (h a : Nat) (w : Int → Int) (n : Int) (i t d u : Int) (hi : 0 ≤ i ∧ 1 ≤ d ∧ i + 2 * d ≤ t ∧ t ≤ n) (hu : 0 ≤ u ∧ u ≤ 4) : Met l yX4_told wsX4_told (zRm 3 71) (zP g [.ref h, .int (zI i), .int (zI t), .int (zI d), .int (zI u)] (PW g h a w n)) (vp_Si (fun r => ∃ z : Int, r = zI z ∧ z = zTold w i t d u ∧ 0 ≤ z ∧ z ≤ 40)) 0 0 (fun _ => False) := by
  refine Met.ofZ (cc := cX4_told) (maxL := 5) (ret := (some .int)) (by decide) rfl (Nat.le_of_ble_eq_true rfl) ?_
  intro p e s m args below meth c ls hx hb hr hlocks S hin hK hpic hl
  have hown := S.2.2.2.1
  have hts := S.2.2.2.2
  have hl : lv_has ls 5 [(0, .ref h), (1, .int (zI i)), (2, .int (zI t)), (3, .int (zI d)), (4, .int (zI u))] := hl
  have hn := hpic.1
  refine lv_iload hx hb dX4_told_0 (lv_at hl 4 rfl) ?_
  rcases (show u = 0 ∨ u = 1 ∨ u = 2 ∨ u = 3 ∨ (u < 0 ∨ 3 < u) by omega) with c2 | c2 | c2 | c2 | c2
  · subst c2
    refine zv_tableIn (a := 0) (tgt := 32) hx hb dX4_told_2 (by omega) (by omega) (by omega) rfl (by decide) ?_
    refine lv_iload_n hx hb dX4_told_32 rfl (lv_at hl 1 rfl) ?_
    exact zr_i hx hb hr hlocks dX4_told_33 (⟨_, rfl, (zTold_0 w i t d).symm, by omega, by omega⟩)
  · subst c2
    refine zv_tableIn (a := 1) (tgt := 34) hx hb dX4_told_2 (by omega) (by omega) (by omega) rfl (by decide) ?_
    refine lv_iload_n hx hb dX4_told_34 rfl (lv_at hl 2 rfl) ?_
    exact zr_i hx hb hr hlocks dX4_told_35 (⟨_, rfl, (zTold_1 w i t d).symm, by omega, by omega⟩)
  · subst c2
    refine zv_tableIn (a := 2) (tgt := 36) hx hb dX4_told_2 (by omega) (by omega) (by omega) rfl (by decide) ?_
    refine lv_iload_n hx hb dX4_told_36 rfl (lv_at hl 3 rfl) ?_
    exact zr_i hx hb hr hlocks dX4_told_37 (⟨_, rfl, (zTold_2 w i t d).symm, by omega, by omega⟩)
  · subst c2
    refine zv_tableIn (a := 3) (tgt := 38) hx hb dX4_told_2 (by omega) (by omega) (by omega) rfl (by decide) ?_
    refine lv_aload_n hx hb dX4_told_38 rfl (lv_at hl 0 rfl) ?_
    refine lv_iload_n hx hb dX4_told_39 rfl (lv_at hl 1 rfl) ?_
    refine lv_iload_n hx hb dX4_told_40 rfl (lv_at hl 2 rfl) ?_
    refine lv_iload_n hx hb dX4_told_41 rfl (lv_at hl 3 rfl) ?_
    refine zc_S (As := [.ref h, .int (zI i), .int (zI t), .int (zI d)]) (rest := []) S hK (kX4_rootOf l g h a w n i t d (by omega)) (va_cwS 4 hts gX4_told_X4_rootOf rfl rfl rfl (by decide +kernel) ⟨Nat.le_of_ble_eq_true rfl, Nat.le_of_ble_eq_true rfl⟩) (hpic) rfl hl.1 rfl (Nat.le_of_ble_eq_true rfl) dX4_told_42 ⟨Nat.zero_le _, Nat.zero_le _⟩ (fun r42 hr42 => ?_)
    obtain ⟨z42, rfl, hz42⟩ := hr42
    exact zr_i hx hb hr hlocks dX4_told_45 (⟨_, rfl, by rw [zTold_3]; exact hz42.1, by omega, by omega⟩)
  · refine zv_tableOut (tgt := 46) hx hb dX4_told_2 (by omega) (by omega) (by decide) ?_
    refine lv_iload_n hx hb dX4_told_46 rfl (lv_at hl 2 rfl) ?_
    refine lv_iload_n hx hb dX4_told_47 rfl (lv_at hl 1 rfl) ?_
    refine zv_isub hx hb dX4_told_48 ?_
    refine zv_iconst hx hb dX4_told_49 ?_
    refine lv_iload_n hx hb dX4_told_50 rfl (lv_at hl 3 rfl) ?_
    refine zv_imul hx hb dX4_told_51 ?_
    refine zv_isub hx hb dX4_told_52 ?_
    refine zv_iconst hx hb dX4_told_53 ?_
    refine zv_iadd hx hb dX4_told_54 ?_
    exact zr_i hx hb hr hlocks dX4_told_55 (⟨_, rfl, (zTold_4 w i t d c2).symm, by omega, by omega⟩)

set_option maxHeartbeats 4000000 in
set_option maxRecDepth 100000 in
/-- Runs.total -/
theorem kX4_total (l : Launch) (g : zG) (h a : Nat) (w : Int → Int) (n : Int) : Met l yX4_total wsX4_total (zRm 4 93) (zP g [.ref h] (PW g h a w n)) (vp_Si (fun r => ∃ z : Int, r = zI z ∧ z = zCC (zRun w n) n n ∧ 0 ≤ z ∧ z ≤ 1640)) 0 0 (fun _ => False) := by
  refine Met.ofZ (cc := cX4_total) (maxL := 4) (ret := (some .int)) (by decide) rfl (Nat.le_of_ble_eq_true rfl) ?_
  intro p e s m args below meth c ls hx hb hr hlocks S hin hK hpic hl
  have hown := S.2.2.2.1
  have hts := S.2.2.2.2
  have hl : lv_has ls 4 [(0, .ref h)] := hl
  have hn := hpic.1
  refine zv_iconst hx hb dX4_total_0 ?_
  refine lv_istore_n (lv' := [(1, .int (zI 0)), (0, .ref h)]) hx hb dX4_total_1 rfl hl (by decide) rfl (fun ls hl => ?_)
  refine zv_iconst hx hb dX4_total_2 ?_
  refine lv_istore_n (lv' := [(2, .int (zI 0)), (1, .int (zI 0)), (0, .ref h)]) hx hb dX4_total_3 rfl hl (by decide) rfl (fun ls hl => ?_)
  have lp4 : ∀ (z_f : Nat) (o : Int) (i : Int), (0 ≤ i ∧ i ≤ n ∧ 0 ≤ o ∧ o ≤ 40 * i) → (o = zCC (zRun w n) n i) → ((n - i).toNat) < z_f → ∀ (ls : Array Slot), lv_has ls 4 [(0, .ref h), (1, .int (zI o)), (2, .int (zI i))] → W p l e (zRm 4 93) s m args below meth c s.heap [] 0 0 (MQ below (vp_Si (fun r => ∃ z : Int, r = zI z ∧ z = zCC (zRun w n) n n ∧ 0 ≤ z ∧ z ≤ 1640)) args s 0 0 (fun _ => False)) (F0 m 4 ls []) := by
    intro z_f
    induction z_f with
    | zero => intro o i h0 h1 z_m; exact absurd z_m (Nat.not_lt_zero _)
    | succ z_f ih4 =>
      intro o i h0 h1 z_m4 ls hl
      refine lv_iload_n hx hb dX4_total_4 rfl (lv_at hl 2 rfl) ?_
      refine lv_aload_n hx hb dX4_total_5 rfl (lv_at hl 0 rfl) ?_
      refine zc_V (As := []) (rest := [.int (zI i)]) S hK (kX8_length l g h a w n) (cwV 0 hts gX4_total_X8_length rfl rfl rfl (by decide +kernel) ⟨Nat.le_of_ble_eq_true rfl, Nat.le_of_ble_eq_true rfl⟩) (hpic) (hpic.recv hK) rfl hl.1 rfl (Nat.le_of_ble_eq_true rfl) dX4_total_6 ⟨Nat.zero_le _, Nat.zero_le _⟩ (fun r6 hr6 => ?_)
      obtain rfl := hr6
      refine zv_icmp_ge (tgt := 51) hx hb dX4_total_9 (by decide) (by omega) (by omega) (fun c9 => ?_) (fun c9 => ?_)
      · have e9 : o = zCC (zRun w n) n n := by rw [h1, show i = n by omega]
        refine lv_iload_n hx hb dX4_total_51 rfl (lv_at hl 1 rfl) ?_
        exact zr_i hx hb hr hlocks dX4_total_52 (⟨_, rfl, e9, by omega, by omega⟩)
      · refine zv_iconst hx hb dX4_total_12 ?_
        refine lv_istore_n (lv' := [(3, .int (zI 1)), (0, .ref h), (1, .int (zI o)), (2, .int (zI i))]) hx hb dX4_total_13 rfl hl (by decide) rfl (fun ls hl => ?_)
        have lp14 : ∀ (z_f : Nat) (o2 : Int) (d : Int), (1 ≤ d ∧ d ≤ (n - i) / 2 + 1 ∧ 0 ≤ o2 ∧ o2 ≤ 40 * i + d) → (o2 = zCC (zRun w n) n i + zC ((zRun w n) i) 1 d) → ((n + 1 - d).toNat) < z_f → ∀ (ls : Array Slot), lv_has ls 4 [(0, .ref h), (1, .int (zI o2)), (2, .int (zI i)), (3, .int (zI d))] → W p l e (zRm 4 93) s m args below meth c s.heap [] 0 0 (MQ below (vp_Si (fun r => ∃ z : Int, r = zI z ∧ z = zCC (zRun w n) n n ∧ 0 ≤ z ∧ z ≤ 1640)) args s 0 0 (fun _ => False)) (F0 m 14 ls []) := by
          intro z_f
          induction z_f with
          | zero => intro o2 d k0 k1 z_m; exact absurd z_m (Nat.not_lt_zero _)
          | succ z_f ih14 =>
            intro o2 d k0 k1 z_m14 ls hl
            refine lv_iload_n hx hb dX4_total_14 rfl (lv_at hl 2 rfl) ?_
            refine zv_iconst hx hb dX4_total_15 ?_
            refine lv_iload_n hx hb dX4_total_16 rfl (lv_at hl 3 rfl) ?_
            refine zv_imul hx hb dX4_total_17 ?_
            refine zv_iadd hx hb dX4_total_18 ?_
            refine lv_aload_n hx hb dX4_total_19 rfl (lv_at hl 0 rfl) ?_
            refine zc_V (As := []) (rest := [.int (zI (i + (2 * d)))]) S hK (kX8_length l g h a w n) (cwV 0 hts gX4_total_X8_length rfl rfl rfl (by decide +kernel) ⟨Nat.le_of_ble_eq_true rfl, Nat.le_of_ble_eq_true rfl⟩) (hpic) (hpic.recv hK) rfl hl.1 rfl (Nat.le_of_ble_eq_true rfl) dX4_total_20 ⟨Nat.zero_le _, Nat.zero_le _⟩ (fun r20 hr20 => ?_)
            obtain rfl := hr20
            refine zv_icmp_gt (tgt := 45) hx hb dX4_total_23 (by decide) (by omega) (by omega) (fun c23 => ?_) (fun c23 => ?_)
            · refine zv_iinc (lv' := [(2, .int (zI (i + 1))), (0, .ref h), (1, .int (zI o2)), (3, .int (zI d))]) hx hb dX4_total_45 hl (k := 2) rfl (by decide) rfl (fun ls hl => ?_)
              refine lv_goto (tgt := 4) hx hb dX4_total_48 (by decide) ?_
              exact ih4 o2 (i + 1) ((by have q9 := zRow_bd (zRun w n) (n := n) (i := i) (by omega); have q8 : zRow (zRun w n) n i = zC ((zRun w n) i) 1 ((n - i) / 2 + 1) := rfl; omega)) ((by rw [zCC_succ _ (by omega), k1, show d = (n - i) / 2 + 1 by omega]; rfl)) (by omega) _ (lv_sub hl [1, 2, 0] rfl)
            · refine lv_aload_n hx hb dX4_total_26 rfl (lv_at hl 0 rfl) ?_
              refine lv_iload_n hx hb dX4_total_27 rfl (lv_at hl 2 rfl) ?_
              refine lv_iload_n hx hb dX4_total_28 rfl (lv_at hl 3 rfl) ?_
              refine zc_S (As := [.ref h, .int (zI i), .int (zI d)]) (rest := []) S hK (kX4_endOf l g h a w n i d (by omega)) (va_cwS 3 hts gX4_total_X4_endOf rfl rfl rfl (by decide +kernel) ⟨Nat.le_of_ble_eq_true rfl, Nat.le_of_ble_eq_true rfl⟩) (hpic) rfl hl.1 rfl (Nat.le_of_ble_eq_true rfl) dX4_total_29 ⟨Nat.zero_le _, Nat.zero_le _⟩ (fun r29 hr29 => ?_)
              obtain ⟨z29, rfl, hz29⟩ := hr29
              refine zv_iconst hx hb dX4_total_32 ?_
              refine zv_icmp_eq (tgt := 39) hx hb dX4_total_33 (by decide) (hz29.elim (fun q => by omega) (fun q => by omega)) (by omega) (fun c33 => ?_) (fun c33 => ?_)
              · have q33 : ¬ zRun w n i d := hz29.elim (fun q => by omega) (fun q => q.1)
                refine zv_iinc (lv' := [(3, .int (zI (d + 1))), (0, .ref h), (1, .int (zI o2)), (2, .int (zI i))]) hx hb dX4_total_39 hl (k := 3) rfl (by decide) rfl (fun ls hl => ?_)
                refine lv_goto (tgt := 14) hx hb dX4_total_42 (by decide) ?_
                exact ih14 o2 (d + 1) (by omega) (by rw [zC_f (P := zRun w n i) (b := d) (by omega) q33]; exact k1) (by omega) _ (lv_sub hl [1, 2, 3, 0] rfl)
              · have q33 := hz29.resolve_right (fun q => c33 q.2)
                refine zv_iinc (lv' := [(1, .int (zI (o2 + 1))), (0, .ref h), (2, .int (zI i)), (3, .int (zI d))]) hx hb dX4_total_36 hl (k := 1) rfl (by decide) rfl (fun ls hl => ?_)
                refine zv_iinc (lv' := [(3, .int (zI (d + 1))), (1, .int (zI (o2 + 1))), (0, .ref h), (2, .int (zI i))]) hx hb dX4_total_39 hl (k := 3) rfl (by decide) rfl (fun ls hl => ?_)
                refine lv_goto (tgt := 14) hx hb dX4_total_42 (by decide) ?_
                exact ih14 (o2 + 1) (d + 1) (by omega) (by rw [zC_t (P := zRun w n i) (b := d) (by omega) q33.1]; omega) (by omega) _ (lv_sub hl [2, 1, 3, 0] rfl)
        exact lp14 _ o 1 (by omega) (by rw [zC_nil _ (by omega)]; omega) (Nat.lt_succ_self _) _ (lv_sub hl [1, 2, 3, 0] rfl)
  exact lp4 _ 0 0 (by omega) ((zCC_0 _ n).symm) (Nat.lt_succ_self _) _ (lv_sub hl [2, 1, 0] rfl)

set_option maxHeartbeats 4000000 in
set_option maxRecDepth 100000 in
/-- Runs.over -/
theorem kX4_over (l : Launch) (g : zG) (h a : Nat) (w : Int → Int) (n : Int) (x : Int) (hx0 : 0 ≤ x ∧ x < n) : Met l yX4_over wsX4_over (zRm 4 93) (zP g [.ref h, .int (zI x)] (PW g h a w n)) (vp_Si (fun r => ∃ z : Int, r = zI z ∧ z = zCC (zOvP w n x) n (x + 1) ∧ 0 ≤ z ∧ z ≤ 1640)) 0 0 (fun _ => False) := by
  refine Met.ofZ (cc := cX4_over) (maxL := 5) (ret := (some .int)) (by decide) rfl (Nat.le_of_ble_eq_true rfl) ?_
  intro p e s m args below meth c ls hx hb hr hlocks S hin hK hpic hl
  have hown := S.2.2.2.1
  have hts := S.2.2.2.2
  have hl : lv_has ls 5 [(0, .ref h), (1, .int (zI x))] := hl
  have hn := hpic.1
  refine zv_iconst hx hb dX4_over_0 ?_
  refine lv_istore_n (lv' := [(2, .int (zI 0)), (0, .ref h), (1, .int (zI x))]) hx hb dX4_over_1 rfl hl (by decide) rfl (fun ls hl => ?_)
  refine zv_iconst hx hb dX4_over_2 ?_
  refine lv_istore_n (lv' := [(3, .int (zI 0)), (2, .int (zI 0)), (0, .ref h), (1, .int (zI x))]) hx hb dX4_over_3 rfl hl (by decide) rfl (fun ls hl => ?_)
  have lp4 : ∀ (z_f : Nat) (o : Int) (i : Int), (0 ≤ i ∧ i ≤ (x + 1) ∧ 0 ≤ o ∧ o ≤ 40 * i) → (o = zCC (zOvP w n x) n i) → (((x + 1) - i).toNat) < z_f → ∀ (ls : Array Slot), lv_has ls 5 [(0, .ref h), (1, .int (zI x)), (2, .int (zI o)), (3, .int (zI i))] → W p l e (zRm 4 93) s m args below meth c s.heap [] 0 0 (MQ below (vp_Si (fun r => ∃ z : Int, r = zI z ∧ z = zCC (zOvP w n x) n (x + 1) ∧ 0 ≤ z ∧ z ≤ 1640)) args s 0 0 (fun _ => False)) (F0 m 4 ls []) := by
    intro z_f
    induction z_f with
    | zero => intro o i h0 h1 z_m; exact absurd z_m (Nat.not_lt_zero _)
    | succ z_f ih4 =>
      intro o i h0 h1 z_m4 ls hl
      refine lv_iload_n hx hb dX4_over_4 rfl (lv_at hl 3 rfl) ?_
      refine lv_iload_n hx hb dX4_over_5 rfl (lv_at hl 1 rfl) ?_
      refine zv_icmp_gt (tgt := 51) hx hb dX4_over_6 (by decide) (by omega) (by omega) (fun c6 => ?_) (fun c6 => ?_)
      · have e9 : o = zCC (zOvP w n x) n (x + 1) := by rw [h1, show i = x + 1 by omega]
        refine lv_iload_n hx hb dX4_over_51 rfl (lv_at hl 2 rfl) ?_
        exact zr_i hx hb hr hlocks dX4_over_52 (⟨_, rfl, e9, by omega, by omega⟩)
      · refine zv_iconst hx hb dX4_over_9 ?_
        refine lv_istore (lv' := [(4, .int (zI 1)), (0, .ref h), (1, .int (zI x)), (2, .int (zI o)), (3, .int (zI i))]) hx hb dX4_over_10 hl (by decide) rfl (fun ls hl => ?_)
        have lp12 : ∀ (z_f : Nat) (o2 : Int) (d : Int), (1 ≤ d ∧ d ≤ (n - i) / 2 + 1 ∧ 0 ≤ o2 ∧ o2 ≤ 40 * i + d) → (o2 = zCC (zOvP w n x) n i + zC ((zOvP w n x) i) 1 d) → ((n + 1 - d).toNat) < z_f → ∀ (ls : Array Slot), lv_has ls 5 [(0, .ref h), (1, .int (zI x)), (2, .int (zI o2)), (3, .int (zI i)), (4, .int (zI d))] → W p l e (zRm 4 93) s m args below meth c s.heap [] 0 0 (MQ below (vp_Si (fun r => ∃ z : Int, r = zI z ∧ z = zCC (zOvP w n x) n (x + 1) ∧ 0 ≤ z ∧ z ≤ 1640)) args s 0 0 (fun _ => False)) (F0 m 12 ls []) := by
          intro z_f
          induction z_f with
          | zero => intro o2 d k0 k1 z_m; exact absurd z_m (Nat.not_lt_zero _)
          | succ z_f ih12 =>
            intro o2 d k0 k1 z_m12 ls hl
            refine lv_iload_n hx hb dX4_over_12 rfl (lv_at hl 3 rfl) ?_
            refine zv_iconst hx hb dX4_over_13 ?_
            refine lv_iload hx hb dX4_over_14 (lv_at hl 4 rfl) ?_
            refine zv_imul hx hb dX4_over_16 ?_
            refine zv_iadd hx hb dX4_over_17 ?_
            refine lv_aload_n hx hb dX4_over_18 rfl (lv_at hl 0 rfl) ?_
            refine zc_V (As := []) (rest := [.int (zI (i + (2 * d)))]) S hK (kX8_length l g h a w n) (cwV 0 hts gX4_over_X8_length rfl rfl rfl (by decide +kernel) ⟨Nat.le_of_ble_eq_true rfl, Nat.le_of_ble_eq_true rfl⟩) (hpic) (hpic.recv hK) rfl hl.1 rfl (Nat.le_of_ble_eq_true rfl) dX4_over_19 ⟨Nat.zero_le _, Nat.zero_le _⟩ (fun r19 hr19 => ?_)
            obtain rfl := hr19
            refine zv_icmp_gt (tgt := 45) hx hb dX4_over_22 (by decide) (by omega) (by omega) (fun c22 => ?_) (fun c22 => ?_)
            · refine zv_iinc (lv' := [(3, .int (zI (i + 1))), (0, .ref h), (1, .int (zI x)), (2, .int (zI o2)), (4, .int (zI d))]) hx hb dX4_over_45 hl (k := 3) rfl (by decide) rfl (fun ls hl => ?_)
              refine lv_goto (tgt := 4) hx hb dX4_over_48 (by decide) ?_
              exact ih4 o2 (i + 1) ((by have q9 := zRow_bd (zOvP w n x) (n := n) (i := i) (by omega); have q8 : zRow (zOvP w n x) n i = zC ((zOvP w n x) i) 1 ((n - i) / 2 + 1) := rfl; omega)) ((by rw [zCC_succ _ (by omega), k1, show d = (n - i) / 2 + 1 by omega]; rfl)) (by omega) _ (lv_sub hl [1, 2, 3, 0] rfl)
            · refine lv_aload_n hx hb dX4_over_25 rfl (lv_at hl 0 rfl) ?_
              refine lv_iload_n hx hb dX4_over_26 rfl (lv_at hl 3 rfl) ?_
              refine lv_iload hx hb dX4_over_27 (lv_at hl 4 rfl) ?_
              refine zc_S (As := [.ref h, .int (zI i), .int (zI d)]) (rest := []) S hK (kX4_endOf l g h a w n i d (by omega)) (va_cwS 3 hts gX4_over_X4_endOf rfl rfl rfl (by decide +kernel) ⟨Nat.le_of_ble_eq_true rfl, Nat.le_of_ble_eq_true rfl⟩) (hpic) rfl hl.1 rfl (Nat.le_of_ble_eq_true rfl) dX4_over_29 ⟨Nat.zero_le _, Nat.zero_le _⟩ (fun r29 hr29 => ?_)
              obtain ⟨z29, rfl, hz29⟩ := hr29
              refine lv_iload_n hx hb dX4_over_32 rfl (lv_at hl 1 rfl) ?_
              refine zv_icmp_le (tgt := 39) hx hb dX4_over_33 (by decide) (hz29.elim (fun q => by omega) (fun q => by omega)) (by omega) (fun c33 => ?_) (fun c33 => ?_)
              · have q33 : ¬ zOvP w n x i d := fun z => hz29.elim (fun q => by have := z.2; omega) (fun q => q.1 z.1)
                refine zv_iinc (lv' := [(4, .int (zI (d + 1))), (0, .ref h), (1, .int (zI x)), (2, .int (zI o2)), (3, .int (zI i))]) hx hb dX4_over_39 hl (k := 4) rfl (by decide) rfl (fun ls hl => ?_)
                refine lv_goto (tgt := 12) hx hb dX4_over_42 (by decide) ?_
                exact ih12 o2 (d + 1) (by omega) (by rw [zC_f (P := zOvP w n x i) (b := d) (by omega) q33]; exact k1) (by omega) _ (lv_sub hl [1, 2, 3, 4, 0] rfl)
              · have q33 : zOvP w n x i d := hz29.elim (fun q => ⟨q.1, by omega⟩) (fun q => by omega)
                refine zv_iinc (lv' := [(2, .int (zI (o2 + 1))), (0, .ref h), (1, .int (zI x)), (3, .int (zI i)), (4, .int (zI d))]) hx hb dX4_over_36 hl (k := 2) rfl (by decide) rfl (fun ls hl => ?_)
                refine zv_iinc (lv' := [(4, .int (zI (d + 1))), (2, .int (zI (o2 + 1))), (0, .ref h), (1, .int (zI x)), (3, .int (zI i))]) hx hb dX4_over_39 hl (k := 4) rfl (by decide) rfl (fun ls hl => ?_)
                refine lv_goto (tgt := 12) hx hb dX4_over_42 (by decide) ?_
                exact ih12 (o2 + 1) (d + 1) (by omega) (by rw [zC_t (P := zOvP w n x i) (b := d) (by omega) q33]; omega) (by omega) _ (lv_sub hl [2, 3, 1, 4, 0] rfl)
        exact lp12 _ o 1 (by omega) (by rw [zC_nil _ (by omega)]; omega) (Nat.lt_succ_self _) _ (lv_sub hl [1, 2, 3, 4, 0] rfl)
  exact lp4 _ 0 0 (by omega) ((zCC_0 _ n).symm) (Nat.lt_succ_self _) _ (lv_sub hl [2, 3, 1, 0] rfl)

set_option maxHeartbeats 4000000 in
set_option maxRecDepth 100000 in
/-- Runs.ranked -/
theorem kX4_ranked (l : Launch) (g : zG) (h a : Nat) (w : Int → Int) (n : Int) (r u : Int) (hr0 : 0 ≤ r ∧ r < 2147483648) (hu : 0 ≤ u ∧ u ≤ 4) : Met l yX4_ranked wsX4_ranked (zRm 4 95) (zP g [.ref h, .int (zI r), .int (zI u)] (PW g h a w n)) (vp_Si (fun v => ∃ z : Int, v = zI z ∧ z = zRk (zRun w n) n r (fun i d => zTold w i (zRT w n i d) d u) ∧ -4 ≤ z ∧ z ≤ 40)) 0 0 (fun _ => False) := by
  refine Met.ofZ (cc := cX4_ranked) (maxL := 7) (ret := (some .int)) (by decide) rfl (Nat.le_of_ble_eq_true rfl) ?_
  intro p e s m args below meth c ls hx hb hr hlocks S hin hK hpic hl
  have hown := S.2.2.2.1
  have hts := S.2.2.2.2
  have hl : lv_has ls 7 [(0, .ref h), (1, .int (zI r)), (2, .int (zI u))] := hl
  have hn := hpic.1
  refine zv_iconst hx hb dX4_ranked_0 ?_
  refine lv_istore_n (lv' := [(3, .int (zI 0)), (0, .ref h), (1, .int (zI r)), (2, .int (zI u))]) hx hb dX4_ranked_1 rfl hl (by decide) rfl (fun ls hl => ?_)
  refine zv_iconst hx hb dX4_ranked_2 ?_
  refine lv_istore (lv' := [(4, .int (zI 0)), (3, .int (zI 0)), (0, .ref h), (1, .int (zI r)), (2, .int (zI u))]) hx hb dX4_ranked_3 hl (by decide) rfl (fun ls hl => ?_)
  have lp5 : ∀ (z_f : Nat) (o : Int) (i : Int), (0 ≤ i ∧ i ≤ n ∧ 0 ≤ o ∧ o ≤ 40 * i) → (o = zCC (zRun w n) n i) → (o ≤ r) → ((n - i).toNat) < z_f → ∀ (ls : Array Slot), lv_has ls 7 [(0, .ref h), (1, .int (zI r)), (2, .int (zI u)), (3, .int (zI o)), (4, .int (zI i))] → W p l e (zRm 4 95) s m args below meth c s.heap [] 0 0 (MQ below (vp_Si (fun v => ∃ z : Int, v = zI z ∧ z = zRk (zRun w n) n r (fun i d => zTold w i (zRT w n i d) d u) ∧ -4 ≤ z ∧ z ≤ 40)) args s 0 0 (fun _ => False)) (F0 m 5 ls []) := by
    intro z_f
    induction z_f with
    | zero => intro o i h0 h1 h2 z_m; exact absurd z_m (Nat.not_lt_zero _)
    | succ z_f ih5 =>
      intro o i h0 h1 h2 z_m5 ls hl
      refine lv_iload hx hb dX4_ranked_5 (lv_at hl 4 rfl) ?_
      refine lv_aload_n hx hb dX4_ranked_7 rfl (lv_at hl 0 rfl) ?_
      refine zc_V (As := []) (rest := [.int (zI i)]) S hK (kX8_length l g h a w n) (cwV 0 hts gX4_ranked_X8_length rfl rfl rfl (by decide +kernel) ⟨Nat.le_of_ble_eq_true rfl, Nat.le_of_ble_eq_true rfl⟩) (hpic) (hpic.recv hK) rfl hl.1 rfl (Nat.le_of_ble_eq_true rfl) dX4_ranked_8 ⟨Nat.zero_le _, Nat.zero_le _⟩ (fun r8 hr8 => ?_)
      obtain rfl := hr8
      refine zv_icmp_ge (tgt := 79) hx hb dX4_ranked_11 (by decide) (by omega) (by omega) (fun c11 => ?_) (fun c11 => ?_)
      · have e9 : zRk (zRun w n) n r (fun i d => zTold w i (zRT w n i d) d u) = -4 := zRk_none _ (by have e8 := congrArg (zCC (zRun w n) n) (show n = i by omega); omega)
        refine zv_bipush hx hb dX4_ranked_79 (by decide +kernel) ?_
        exact zr_i hx hb hr hlocks dX4_ranked_81 (⟨_, rfl, e9.symm, by omega, by omega⟩)
      · refine zv_iconst hx hb dX4_ranked_14 ?_
        refine lv_istore (lv' := [(5, .int (zI 1)), (0, .ref h), (1, .int (zI r)), (2, .int (zI u)), (3, .int (zI o)), (4, .int (zI i))]) hx hb dX4_ranked_15 hl (by decide) rfl (fun ls hl => ?_)
        have lp17 : ∀ (z_f : Nat) (o2 : Int) (d : Int), (1 ≤ d ∧ d ≤ (n - i) / 2 + 1 ∧ 0 ≤ o2 ∧ o2 ≤ 40 * i + d) → (o2 = zCC (zRun w n) n i + zC ((zRun w n) i) 1 d) → (o2 ≤ r) → ((n + 1 - d).toNat) < z_f → ∀ (ls : Array Slot), lv_has ls 7 [(0, .ref h), (1, .int (zI r)), (2, .int (zI u)), (3, .int (zI o2)), (4, .int (zI i)), (5, .int (zI d))] → W p l e (zRm 4 95) s m args below meth c s.heap [] 0 0 (MQ below (vp_Si (fun v => ∃ z : Int, v = zI z ∧ z = zRk (zRun w n) n r (fun i d => zTold w i (zRT w n i d) d u) ∧ -4 ≤ z ∧ z ≤ 40)) args s 0 0 (fun _ => False)) (F0 m 17 ls []) := by
          intro z_f
          induction z_f with
          | zero => intro o2 d k0 k1 k2 z_m; exact absurd z_m (Nat.not_lt_zero _)
          | succ z_f ih17 =>
            intro o2 d k0 k1 k2 z_m17 ls hl
            refine lv_iload hx hb dX4_ranked_17 (lv_at hl 4 rfl) ?_
            refine zv_iconst hx hb dX4_ranked_19 ?_
            refine lv_iload hx hb dX4_ranked_20 (lv_at hl 5 rfl) ?_
            refine zv_imul hx hb dX4_ranked_22 ?_
            refine zv_iadd hx hb dX4_ranked_23 ?_
            refine lv_aload_n hx hb dX4_ranked_24 rfl (lv_at hl 0 rfl) ?_
            refine zc_V (As := []) (rest := [.int (zI (i + (2 * d)))]) S hK (kX8_length l g h a w n) (cwV 0 hts gX4_ranked_X8_length rfl rfl rfl (by decide +kernel) ⟨Nat.le_of_ble_eq_true rfl, Nat.le_of_ble_eq_true rfl⟩) (hpic) (hpic.recv hK) rfl hl.1 rfl (Nat.le_of_ble_eq_true rfl) dX4_ranked_25 ⟨Nat.zero_le _, Nat.zero_le _⟩ (fun r25 hr25 => ?_)
            obtain rfl := hr25
            refine zv_icmp_gt (tgt := 73) hx hb dX4_ranked_28 (by decide) (by omega) (by omega) (fun c28 => ?_) (fun c28 => ?_)
            · refine zv_iinc (lv' := [(4, .int (zI (i + 1))), (0, .ref h), (1, .int (zI r)), (2, .int (zI u)), (3, .int (zI o2)), (5, .int (zI d))]) hx hb dX4_ranked_73 hl (k := 4) rfl (by decide) rfl (fun ls hl => ?_)
              refine lv_goto (tgt := 5) hx hb dX4_ranked_76 (by decide) ?_
              exact ih5 o2 (i + 1) ((by have q9 := zRow_bd (zRun w n) (n := n) (i := i) (by omega); have q8 : zRow (zRun w n) n i = zC ((zRun w n) i) 1 ((n - i) / 2 + 1) := rfl; omega)) ((by rw [zCC_succ _ (by omega), k1, show d = (n - i) / 2 + 1 by omega]; rfl)) (by omega) (by omega) _ (lv_sub hl [1, 2, 3, 4, 0] rfl)
            · refine lv_aload_n hx hb dX4_ranked_31 rfl (lv_at hl 0 rfl) ?_
              refine lv_iload hx hb dX4_ranked_32 (lv_at hl 4 rfl) ?_
              refine lv_iload hx hb dX4_ranked_34 (lv_at hl 5 rfl) ?_
              refine zc_S (As := [.ref h, .int (zI i), .int (zI d)]) (rest := []) S hK (kX4_endOf l g h a w n i d (by omega)) (va_cwS 3 hts gX4_ranked_X4_endOf rfl rfl rfl (by decide +kernel) ⟨Nat.le_of_ble_eq_true rfl, Nat.le_of_ble_eq_true rfl⟩) (hpic) rfl hl.1 rfl (Nat.le_of_ble_eq_true rfl) dX4_ranked_36 ⟨Nat.zero_le _, Nat.zero_le _⟩ (fun r36 hr36 => ?_)
              obtain ⟨z36, rfl, hz36⟩ := hr36
              refine lv_istore (lv' := [(6, .int (zI z36)), (0, .ref h), (1, .int (zI r)), (2, .int (zI u)), (3, .int (zI o2)), (4, .int (zI i)), (5, .int (zI d))]) hx hb dX4_ranked_39 hl (by decide) rfl (fun ls hl => ?_)
              refine lv_iload hx hb dX4_ranked_41 (lv_at hl 0 rfl) ?_
              refine zv_iconst hx hb dX4_ranked_43 ?_
              refine zv_icmp_eq (tgt := 67) hx hb dX4_ranked_44 (by decide) (hz36.elim (fun q => by omega) (fun q => by omega)) (by omega) (fun c44 => ?_) (fun c44 => ?_)
              · have q33 : ¬ zRun w n i d := hz36.elim (fun q => by omega) (fun q => q.1)
                refine zv_iinc (lv' := [(5, .int (zI (d + 1))), (6, .int (zI z36)), (0, .ref h), (1, .int (zI r)), (2, .int (zI u)), (3, .int (zI o2)), (4, .int (zI i))]) hx hb dX4_ranked_67 hl (k := 6) rfl (by decide) rfl (fun ls hl => ?_)
                refine lv_goto (tgt := 17) hx hb dX4_ranked_70 (by decide) ?_
                exact ih17 o2 (d + 1) (by omega) (by rw [zC_f (P := zRun w n i) (b := d) (by omega) q33]; exact k1) (by omega) (by omega) _ (lv_sub hl [2, 3, 4, 5, 6, 0] rfl)
              · have q33 := hz36.resolve_right (fun q => c44 q.2)
                refine lv_iload_n hx hb dX4_ranked_47 rfl (lv_at hl 4 rfl) ?_
                refine lv_iload_n hx hb dX4_ranked_48 rfl (lv_at hl 2 rfl) ?_
                refine zv_icmp_ne (tgt := 64) hx hb dX4_ranked_49 (by decide) (by omega) (by omega) (fun c49 => ?_) (fun c49 => ?_)
                · refine zv_iinc (lv' := [(3, .int (zI (o2 + 1))), (6, .int (zI z36)), (0, .ref h), (1, .int (zI r)), (2, .int (zI u)), (4, .int (zI i)), (5, .int (zI d))]) hx hb dX4_ranked_64 hl (k := 4) rfl (by decide) rfl (fun ls hl => ?_)
                  refine zv_iinc (lv' := [(5, .int (zI (d + 1))), (3, .int (zI (o2 + 1))), (6, .int (zI z36)), (0, .ref h), (1, .int (zI r)), (2, .int (zI u)), (4, .int (zI i))]) hx hb dX4_ranked_67 hl (k := 6) rfl (by decide) rfl (fun ls hl => ?_)
                  refine lv_goto (tgt := 17) hx hb dX4_ranked_70 (by decide) ?_
                  exact ih17 (o2 + 1) (d + 1) (by omega) (by rw [zC_t (P := zRun w n i) (b := d) (by omega) q33.1]; omega) (by omega) (by omega) _ (lv_sub hl [3, 4, 5, 1, 6, 0] rfl)
                · have e9 := zRk_hit (fun i d => zTold w i (zRT w n i d) d u) (show zIsRk (zRun w n) n r i d from ⟨by omega, q33.1, by omega⟩)
                  refine lv_aload_n hx hb dX4_ranked_52 rfl (lv_at hl 1 rfl) ?_
                  refine lv_iload hx hb dX4_ranked_53 (lv_at hl 5 rfl) ?_
                  refine lv_iload hx hb dX4_ranked_55 (lv_at hl 0 rfl) ?_
                  refine lv_iload hx hb dX4_ranked_57 (lv_at hl 6 rfl) ?_
                  refine lv_iload_n hx hb dX4_ranked_59 rfl (lv_at hl 3 rfl) ?_
                  refine zc_S (As := [.ref h, .int (zI i), .int (zI z36), .int (zI d), .int (zI u)]) (rest := []) S hK (kX4_told l g h a w n i z36 d u (by omega) (by omega)) (va_cwS 5 hts gX4_ranked_X4_told rfl rfl rfl (by decide +kernel) ⟨Nat.le_of_ble_eq_true rfl, Nat.le_of_ble_eq_true rfl⟩) (hpic) rfl hl.1 rfl (Nat.le_of_ble_eq_true rfl) dX4_ranked_60 ⟨Nat.zero_le _, Nat.zero_le _⟩ (fun r60 hr60 => ?_)
                  obtain ⟨z60, rfl, hz60⟩ := hr60
                  exact zr_i hx hb hr hlocks dX4_ranked_63 (⟨_, rfl, by rw [e9, ← q33.2.1]; exact hz60.1, by omega, by omega⟩)
        exact lp17 _ o 1 (by omega) (by rw [zC_nil _ (by omega)]; omega) (h2) (Nat.lt_succ_self _) _ (lv_sub hl [1, 2, 3, 4, 5, 0] rfl)
  exact lp5 _ 0 0 (by omega) ((zCC_0 _ n).symm) (by omega) (Nat.lt_succ_self _) _ (lv_sub hl [2, 3, 4, 1, 0] rfl)

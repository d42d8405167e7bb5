theorem mX10_copies_0 : ∀ w ∈ wsX100, w ∈ wsX10_copies := by decide +kernel
theorem mX10_copies_1 : (Cond.fieldLink RX10 7 "BorderRunsModel" "s" "[I") ∈ wsX10_copies := by decide +kernel
set_option maxHeartbeats 4000000 in
set_option maxRecDepth 100000 in
/-- X10_copies -/
theorem kX10_copies (l : Launch) (g : zG) (y sa ta oa : Nat) (f gt od : Int → Int) (sv ik tp : Int) (i j : Int) (hi : 0 ≤ i ∧ i ≤ 6 ∧ 0 ≤ j ∧ j ≤ 6 ∧ i ≠ j) : Met l yX10_copies wsX10_copies (zRm 0 0) (zP g [.ref y, .int (zI i), .int (zI j)] (RM g y sa ta oa f gt od sv ik tp)) (zQv (fun H => RM g y sa ta oa (zCp f i j 41) gt od sv ik tp H) (zA4 y sa ta oa)) 0 0 (zA4 y sa ta oa) := by
  refine Met.ofZ (cc := cX10_copies) (maxL := 4) (ret := none) (by decide) rfl (Nat.le_of_ble_eq_true rfl) ?_
  intro p e s m args below meth c ls hx hb hr hlocks S hin hK hpic hl
  have hown := S.2.2.2.1
  have hts := S.2.2.2.2
  have hl : lv_has ls 4 [(0, .ref y), (1, .int (zI i)), (2, .int (zI j))] := hl
  have hX := hpic
  have hR := hX.rg
  have hS : va_S (zA4 y sa ta oa) s.heap s.heap [] := va_S.rf
  refine zv_iconst hx hb dX10_copies_0 ?_
  refine lv_istore_n (lv' := [(3, .int (zI 0)), (0, .ref y), (1, .int (zI i)), (2, .int (zI j))]) hx hb dX10_copies_1 rfl hl (by decide) rfl (fun ls hl => ?_)
  have lp2 : ∀ (z_f : Nat) (k : Int) (H1 : Heap) (locs : List Loc), (0 ≤ k ∧ k ≤ 41) → (RM g y sa ta oa (zCp f i j k) gt od sv ik tp H1) → (va_S (zA4 y sa ta oa) s.heap H1 locs) → ((41 - k).toNat) < z_f → ∀ (ls : Array Slot), lv_has ls 4 [(0, .ref y), (1, .int (zI i)), (2, .int (zI j)), (3, .int (zI k))] → W p l e (zRm 0 0) s m args below meth c H1 locs 0 0 (MQ below (zQv (fun H => RM g y sa ta oa (zCp f i j 41) gt od sv ik tp H) (zA4 y sa ta oa)) args s 0 0 (zA4 y sa ta oa)) (F0 m 2 ls []) := by
    intro z_f
    induction z_f with
    | zero => intro k H1 locs h0 hX hS z_m; exact absurd z_m (Nat.not_lt_zero _)
    | succ z_f ih2 =>
      intro k H1 locs h0 hX hS z_m2 ls hl
      refine lv_iload_n hx hb dX10_copies_2 rfl (lv_at hl 3 rfl) ?_
      refine zv_bipush hx hb dX10_copies_3 (by decide +kernel) ?_
      refine zv_icmp_ge (tgt := 36) hx hb dX10_copies_5 (by decide) (by omega) (by omega) (fun c5 => ?_) (fun c5 => ?_)
      · exact zw_v hx hb hr hlocks hS dX10_copies_36 (by rw [show k = 41 by omega] at hX; exact hX)
      · refine lv_aload_n hx hb dX10_copies_8 rfl (lv_at hl 0 rfl) ?_
        refine va_get (D := g.1) (ci := 5) (v := .ref sa) (C := RX10) (T := TX10) (N := 6) hx hb hts mX10_copies_0 hown hK (hX.gy) 0 rfl rfl 0 (by decide) (hts _ mX10_copies_1) (fun _ h9 => h9) rfl dX10_copies_9 ?_
        refine zv_bipush hx hb dX10_copies_12 (by decide +kernel) ?_
        refine lv_iload_n hx hb dX10_copies_14 rfl (lv_at hl 2 rfl) ?_
        refine zv_imul hx hb dX10_copies_15 ?_
        refine lv_iload_n hx hb dX10_copies_16 rfl (lv_at hl 3 rfl) ?_
        refine zv_iadd hx hb dX10_copies_17 ?_
        refine lv_aload_n hx hb dX10_copies_18 rfl (lv_at hl 0 rfl) ?_
        refine va_get (D := g.1) (ci := 5) (v := .ref sa) (C := RX10) (T := TX10) (N := 6) hx hb hts mX10_copies_0 hown hK (hX.gy) 0 rfl rfl 0 (by decide) (hts _ mX10_copies_1) (fun _ h9 => h9) rfl dX10_copies_19 ?_
        refine zv_bipush hx hb dX10_copies_22 (by decide +kernel) ?_
        refine lv_iload_n hx hb dX10_copies_24 rfl (lv_at hl 1 rfl) ?_
        refine zv_imul hx hb dX10_copies_25 ?_
        refine lv_iload_n hx hb dX10_copies_26 rfl (lv_at hl 3 rfl) ?_
        refine zv_iadd hx hb dX10_copies_27 ?_
        refine zy_ild hx hb hK hX (by omega) dX10_copies_28 ?_
        refine zy_ist hx hb hK hX hS (by omega) (hX.gf (by omega)) dX10_copies_29 (fun H1 locs hX hS => ?_)
        obtain ⟨f29, e29⟩ : ∃ z9, z9 = zApp (zCp f i j k) ((41 * j) + k) (zCp f i j k ((41 * i) + k)) := ⟨_, rfl⟩
        rw [← e29] at hX
        have r29 : f29 ((41 * j) + k) = zCp f i j k ((41 * i) + k) := by rw [e29]; exact zApp_eq _ _ _
        have q29 : ∀ x9, x9 ≠ (41 * j) + k → f29 x9 = (zCp f i j k) x9 := fun x9 h => by rw [e29]; exact zApp_ne h
        refine zv_iinc (lv' := [(3, .int (zI (k + 1))), (0, .ref y), (1, .int (zI i)), (2, .int (zI j))]) hx hb dX10_copies_30 hl (k := 3) rfl (by decide) rfl (fun ls hl => ?_)
        refine lv_goto (tgt := 2) hx hb dX10_copies_33 (by decide) ?_
        exact ih2 (k + 1) _ _ (by omega) (hX.congrF (fun q _ _ => by rw [e29]; exact zCp_s hi.2.2.2.2 (by omega) q)) (hS) (by omega) _ (lv_sub hl [1, 2, 3, 0] rfl)
  exact lp2 _ 0 _ _ (by omega) (hX.congrF (fun q _ _ => zCp_out (by omega))) (hS) (Nat.lt_succ_self _) _ (lv_sub hl [1, 2, 3, 0] rfl)

theorem mX10_records_0 : ∀ w ∈ wsX100, w ∈ wsX10_records := by decide +kernel
theorem mX10_records_1 : (Cond.fieldLink RX10 20 "BorderRunsModel" "states" "I") ∈ wsX10_records := by decide +kernel
set_option maxHeartbeats 4000000 in
set_option maxRecDepth 100000 in
/-- X10_records -/
theorem kX10_records (l : Launch) (g : zG) (y sa ta oa : Nat) (f gt od : Int → Int) (sv ik tp : Int)  : Met l yX10_records wsX10_records (zRm 1 23) (zP g [.ref y] (RM g y sa ta oa f gt od sv ik tp)) (zQv (fun H => ∃ (f2 : Int → Int) (sv2 : Int), sv2 = min (sv + 1) 4 ∧ RM g y sa ta oa f2 gt od sv2 ik tp H ∧ (∀ k, 0 ≤ k → k < 41 → f2 k = f k) ∧ (∀ k, 205 ≤ k → k < 287 → f2 k = f k) ∧ (∀ k, 0 ≤ k → k < 41 → f2 (41 * sv2 + k) = f k) ∧ (∀ q, 1 ≤ q → q < sv2 → ∀ k, 0 ≤ k → k < 41 → f2 (41 * q + k) = f (41 * (q + (sv + 1 - sv2)) + k))) (zA4 y sa ta oa)) 0 0 (zA4 y sa ta oa) := by
  refine Met.ofZ (cc := cX10_records) (maxL := 2) (ret := none) (by decide) rfl (Nat.le_of_ble_eq_true rfl) ?_
  intro p e s m args below meth c ls hx hb hr hlocks S hin hK hpic hl
  have hown := S.2.2.2.1
  have hts := S.2.2.2.2
  have hl : lv_has ls 2 [(0, .ref y)] := hl
  have hX := hpic
  have hR := hX.rg
  have hS : va_S (zA4 y sa ta oa) s.heap s.heap [] := va_S.rf
  refine lv_aload_n hx hb dX10_records_0 rfl (lv_at hl 0 rfl) ?_
  refine va_get (D := g.1) (ci := 5) (v := .int (zI sv)) (C := RX10) (T := TX10) (N := 6) hx hb hts mX10_records_0 hown hK (hX.gy) 0 rfl rfl 1 (by decide) (hts _ mX10_records_1) (fun _ h9 => h9) rfl dX10_records_1 ?_
  refine zv_iconst hx hb dX10_records_4 ?_
  refine zv_icmp_ne (tgt := 39) hx hb dX10_records_5 (by decide) (by omega) (by omega) (fun c5 => ?_) (fun c5 => ?_)
  · refine lv_aload_n hx hb dX10_records_39 rfl (lv_at hl 0 rfl) ?_
    refine lv_dup hx hb dX10_records_40 rfl ?_
    refine va_get (D := g.1) (ci := 5) (v := .int (zI sv)) (C := RX10) (T := TX10) (N := 6) hx hb hts mX10_records_0 hown hK (hX.gy) 0 rfl rfl 1 (by decide) (hts _ mX10_records_1) (fun _ h9 => h9) rfl dX10_records_41 ?_
    refine zv_iconst hx hb dX10_records_44 ?_
    refine zv_iadd hx hb dX10_records_45 ?_
    refine zx_put (D := g.1) (A := (zA4 y sa ta oa)) (ci := 5) (v := .int (zI (sv + 1))) (ty := .int) (C := RX10) (T := TX10) (N := 6) hx hb hts mX10_records_0 tyX10 tyX10_ok nmX10 hown hK (hX.gy) (Or.inl rfl) hS rfl 1 (by decide) (hts _ mX10_records_1) (fun _ h9 => h9) rfl (by decide +kernel) rfl rfl (Nat.le_of_ble_eq_true rfl) dX10_records_46 (fun H1 locs hp hk hS => ?_)
    have hX := hX.put hk hp (by omega)
    refine lv_aload_n hx hb dX10_records_49 rfl (lv_at hl 0 rfl) ?_
    refine zv_iconst hx hb dX10_records_50 ?_
    refine lv_aload_n hx hb dX10_records_51 rfl (lv_at hl 0 rfl) ?_
    refine va_get (D := g.1) (ci := 5) (v := .int (zI (sv + 1))) (C := RX10) (T := TX10) (N := 6) hx hb hts mX10_records_0 hown hK (hX.gy) 0 rfl rfl 1 (by decide) (hts _ mX10_records_1) (fun _ h9 => h9) rfl dX10_records_52 ?_
    refine zc_VWv (As := [.int (zI 0), .int (zI (sv + 1))]) (rest := []) S hK (kX10_copies l g y sa ta oa f gt od (sv + 1) ik tp 0 (sv + 1) (by omega)) (cwV 2 hts gX10_records_X10_copies rfl rfl rfl (by decide +kernel) ⟨Nat.le_of_ble_eq_true rfl, Nat.le_of_ble_eq_true rfl⟩) (hX) (hX.recv hK) rfl hl.1 rfl (Nat.le_of_ble_eq_true rfl) dX10_records_55 ⟨Nat.zero_le _, Nat.zero_le _⟩ hS (fun _ h9 => h9) (fun H1 locs hp hz hk hS => ?_)
    have hX := hp
    obtain ⟨f55, e55⟩ : ∃ z9, z9 = zCp f 0 (sv + 1) 41 := ⟨_, rfl⟩
    rw [← e55] at hX
    have k55 : ∀ x9, 0 ≤ x9 → x9 < 41 → f55 (41 * (sv + 1) + x9) = f (41 * 0 + x9) := fun x9 a9 b9 => by rw [e55, zCp_in (by omega)]; congr 1; omega
    have o55 : ∀ x9, x9 < 41 * (sv + 1) ∨ 41 * (sv + 1) + 41 ≤ x9 → f55 x9 = f x9 := fun x9 h => by rw [e55, zCp_out (by omega)]
    exact zw_v hx hb hr hlocks hS dX10_records_58 (⟨_, _, by omega, hX, fun k a b => o55 k (by omega), fun k a b => o55 k (by omega), fun k a b => by rw [k55 k a b]; congr 1; omega, fun q q1 q2 k a b => by rw [o55 _ (by omega)]; congr 1; omega⟩)
  · refine zv_iconst hx hb dX10_records_8 ?_
    refine lv_istore_n (lv' := [(1, .int (zI 1)), (0, .ref y)]) hx hb dX10_records_9 rfl hl (by decide) rfl (fun ls hl => ?_)
    have lp10 : ∀ (z_f : Nat) (i : Int) (f1 : Int → Int) (H1 : Heap) (locs : List Loc), (1 ≤ i ∧ i ≤ 4) → (∀ q, 1 ≤ q → q < i → ∀ k, 0 ≤ k → k < 41 → f1 (41 * q + k) = f (41 * (q + 1) + k)) → (∀ k, k < 41 ∨ 41 * i ≤ k → f1 k = f k) → (RM g y sa ta oa f1 gt od sv ik tp H1) → (va_S (zA4 y sa ta oa) s.heap H1 locs) → ((4 - i).toNat) < z_f → ∀ (ls : Array Slot), lv_has ls 2 [(0, .ref y), (1, .int (zI i))] → W p l e (zRm 1 23) s m args below meth c H1 locs 0 0 (MQ below (zQv (fun H => ∃ (f2 : Int → Int) (sv2 : Int), sv2 = min (sv + 1) 4 ∧ RM g y sa ta oa f2 gt od sv2 ik tp H ∧ (∀ k, 0 ≤ k → k < 41 → f2 k = f k) ∧ (∀ k, 205 ≤ k → k < 287 → f2 k = f k) ∧ (∀ k, 0 ≤ k → k < 41 → f2 (41 * sv2 + k) = f k) ∧ (∀ q, 1 ≤ q → q < sv2 → ∀ k, 0 ≤ k → k < 41 → f2 (41 * q + k) = f (41 * (q + (sv + 1 - sv2)) + k))) (zA4 y sa ta oa)) args s 0 0 (zA4 y sa ta oa)) (F0 m 10 ls []) := by
      intro z_f
      induction z_f with
      | zero => intro i f1 H1 locs h0 h1 h2 hX hS z_m; exact absurd z_m (Nat.not_lt_zero _)
      | succ z_f ih10 =>
        intro i f1 H1 locs h0 h1 h2 hX hS z_m10 ls hl
        refine lv_iload_n hx hb dX10_records_10 rfl (lv_at hl 1 rfl) ?_
        refine zv_iconst hx hb dX10_records_11 ?_
        refine zv_icmp_ge (tgt := 29) hx hb dX10_records_12 (by decide) (by omega) (by omega) (fun c12 => ?_) (fun c12 => ?_)
        · refine lv_aload_n hx hb dX10_records_29 rfl (lv_at hl 0 rfl) ?_
          refine lv_dup hx hb dX10_records_30 rfl ?_
          refine va_get (D := g.1) (ci := 5) (v := .int (zI sv)) (C := RX10) (T := TX10) (N := 6) hx hb hts mX10_records_0 hown hK (hX.gy) 0 rfl rfl 1 (by decide) (hts _ mX10_records_1) (fun _ h9 => h9) rfl dX10_records_31 ?_
          refine zv_iconst hx hb dX10_records_34 ?_
          refine zv_isub hx hb dX10_records_35 ?_
          refine zx_put (D := g.1) (A := (zA4 y sa ta oa)) (ci := 5) (v := .int (zI (sv - 1))) (ty := .int) (C := RX10) (T := TX10) (N := 6) hx hb hts mX10_records_0 tyX10 tyX10_ok nmX10 hown hK (hX.gy) (Or.inl rfl) hS rfl 1 (by decide) (hts _ mX10_records_1) (fun _ h9 => h9) rfl (by decide +kernel) rfl rfl (Nat.le_of_ble_eq_true rfl) dX10_records_36 (fun H1 locs hp hk hS => ?_)
          have hX := hX.put hk hp (by omega)
          refine lv_aload_n hx hb dX10_records_39 rfl (lv_at hl 0 rfl) ?_
          refine lv_dup hx hb dX10_records_40 rfl ?_
          refine va_get (D := g.1) (ci := 5) (v := .int (zI (sv - 1))) (C := RX10) (T := TX10) (N := 6) hx hb hts mX10_records_0 hown hK (hX.gy) 0 rfl rfl 1 (by decide) (hts _ mX10_records_1) (fun _ h9 => h9) rfl dX10_records_41 ?_
          refine zv_iconst hx hb dX10_records_44 ?_
          refine zv_iadd hx hb dX10_records_45 ?_
          refine zx_put (D := g.1) (A := (zA4 y sa ta oa)) (ci := 5) (v := .int (zI ((sv - 1) + 1))) (ty := .int) (C := RX10) (T := TX10) (N := 6) hx hb hts mX10_records_0 tyX10 tyX10_ok nmX10 hown hK (hX.gy) (Or.inl rfl) hS rfl 1 (by decide) (hts _ mX10_records_1) (fun _ h9 => h9) rfl (by decide +kernel) rfl rfl (Nat.le_of_ble_eq_true rfl) dX10_records_46 (fun H1 locs hp hk hS => ?_)
          have hX := hX.put hk hp (by omega)
          refine lv_aload_n hx hb dX10_records_49 rfl (lv_at hl 0 rfl) ?_
          refine zv_iconst hx hb dX10_records_50 ?_
          refine lv_aload_n hx hb dX10_records_51 rfl (lv_at hl 0 rfl) ?_
          refine va_get (D := g.1) (ci := 5) (v := .int (zI ((sv - 1) + 1))) (C := RX10) (T := TX10) (N := 6) hx hb hts mX10_records_0 hown hK (hX.gy) 0 rfl rfl 1 (by decide) (hts _ mX10_records_1) (fun _ h9 => h9) rfl dX10_records_52 ?_
          refine zc_VWv (As := [.int (zI 0), .int (zI ((sv - 1) + 1))]) (rest := []) S hK (kX10_copies l g y sa ta oa f1 gt od ((sv - 1) + 1) ik tp 0 ((sv - 1) + 1) (by omega)) (cwV 2 hts gX10_records_X10_copies rfl rfl rfl (by decide +kernel) ⟨Nat.le_of_ble_eq_true rfl, Nat.le_of_ble_eq_true rfl⟩) (hX) (hX.recv hK) rfl hl.1 rfl (Nat.le_of_ble_eq_true rfl) dX10_records_55 ⟨Nat.zero_le _, Nat.zero_le _⟩ hS (fun _ h9 => h9) (fun H1 locs hp hz hk hS => ?_)
          have hX := hp
          obtain ⟨f55, e55⟩ : ∃ z9, z9 = zCp f1 0 ((sv - 1) + 1) 41 := ⟨_, rfl⟩
          rw [← e55] at hX
          have k55 : ∀ x9, 0 ≤ x9 → x9 < 41 → f55 (41 * ((sv - 1) + 1) + x9) = f1 (41 * 0 + x9) := fun x9 a9 b9 => by rw [e55, zCp_in (by omega)]; congr 1; omega
          have o55 : ∀ x9, x9 < 41 * ((sv - 1) + 1) ∨ 41 * ((sv - 1) + 1) + 41 ≤ x9 → f55 x9 = f1 x9 := fun x9 h => by rw [e55, zCp_out (by omega)]
          exact zw_v hx hb hr hlocks hS dX10_records_58 (⟨_, _, by omega, hX, fun k a b => by rw [o55 k (by omega)]; exact h2 k (by omega), fun k a b => by rw [o55 k (by omega)]; exact h2 k (by omega), fun k a b => by rw [k55 k a b, h2 _ (by omega)]; congr 1; omega, fun q q1 q2 k a b => by rw [o55 _ (by omega), h1 q q1 (by omega) k a b]; congr 1; omega⟩)
        · refine lv_aload_n hx hb dX10_records_15 rfl (lv_at hl 0 rfl) ?_
          refine lv_iload_n hx hb dX10_records_16 rfl (lv_at hl 1 rfl) ?_
          refine zv_iconst hx hb dX10_records_17 ?_
          refine zv_iadd hx hb dX10_records_18 ?_
          refine lv_iload_n hx hb dX10_records_19 rfl (lv_at hl 1 rfl) ?_
          refine zc_VWv (As := [.int (zI (i + 1)), .int (zI i)]) (rest := []) S hK (kX10_copies l g y sa ta oa f1 gt od sv ik tp (i + 1) i (by omega)) (cwV 2 hts gX10_records_X10_copies rfl rfl rfl (by decide +kernel) ⟨Nat.le_of_ble_eq_true rfl, Nat.le_of_ble_eq_true rfl⟩) (hX) (hX.recv hK) rfl hl.1 rfl (Nat.le_of_ble_eq_true rfl) dX10_records_20 ⟨Nat.zero_le _, Nat.zero_le _⟩ hS (fun _ h9 => h9) (fun H1 locs hp hz hk hS => ?_)
          have hX := hp
          obtain ⟨f20, e20⟩ : ∃ z9, z9 = zCp f1 (i + 1) i 41 := ⟨_, rfl⟩
          rw [← e20] at hX
          have k20 : ∀ x9, 0 ≤ x9 → x9 < 41 → f20 (41 * i + x9) = f1 (41 * (i + 1) + x9) := fun x9 a9 b9 => by rw [e20, zCp_in (by omega)]; congr 1; omega
          have o20 : ∀ x9, x9 < 41 * i ∨ 41 * i + 41 ≤ x9 → f20 x9 = f1 x9 := fun x9 h => by rw [e20, zCp_out (by omega)]
          refine zv_iinc (lv' := [(1, .int (zI (i + 1))), (0, .ref y)]) hx hb dX10_records_23 hl (k := 1) rfl (by decide) rfl (fun ls hl => ?_)
          refine lv_goto (tgt := 10) hx hb dX10_records_26 (by decide) ?_
          exact ih10 (i + 1) f20 _ _ (by omega) (fun q q1 q2 k a b => (show q < i ∨ q = i by omega).elim (fun v => by rw [o20 _ (by omega)]; exact h1 q q1 v k a b) (fun v => by rw [v, k20 k a b]; exact h2 _ (Or.inr (by omega)))) (fun k v => by rw [o20 k (by omega)]; exact h2 k (by omega)) (hX) (hS) (by omega) _ (lv_sub hl [1, 0] rfl)
    exact lp10 _ 1 f _ _ (by omega) (fun q q1 q2 => absurd q2 (by omega)) (fun _ _ => rfl) (hX) (hS) (Nat.lt_succ_self _) _ (lv_sub hl [1, 0] rfl)

theorem mX10_sorts_0 : ∀ w ∈ wsX100, w ∈ wsX10_sorts := by decide +kernel
theorem mX10_sorts_1 : (Cond.fieldLink RX10 7 "BorderRunsModel" "s" "[I") ∈ wsX10_sorts := by decide +kernel
theorem mX10_sorts_2 : (Cond.fieldLink RX10 17 "BorderRunsModel" "order" "[I") ∈ wsX10_sorts := by decide +kernel
set_option maxHeartbeats 4000000 in
set_option maxRecDepth 100000 in
/-- X10_sorts -/
theorem kX10_sorts (l : Launch) (g : zG) (y sa ta oa : Nat) (f gt od : Int → Int) (sv ik tp : Int) (w : Int → Int) (n : Int) (hs : SL f 0 w n)  : Met l yX10_sorts wsX10_sorts (zRm 3 68) (zP g [.ref y] (RM g y sa ta oa f gt od sv ik tp)) (zQv (fun H => ∃ od2 : Int → Int, RM g y sa ta oa f gt od2 sv ik tp H ∧ zSrt w n od2 n) (zA4 y sa ta oa)) 0 0 (zA4 y sa ta oa) := by
  refine Met.ofZ (cc := cX10_sorts) (maxL := 3) (ret := none) (by decide) rfl (Nat.le_of_ble_eq_true rfl) ?_
  intro p e s m args below meth c ls hx hb hr hlocks S hin hK hpic hl
  have hown := S.2.2.2.1
  have hts := S.2.2.2.2
  have hl : lv_has ls 3 [(0, .ref y)] := hl
  have hX := hpic
  have hR := hX.rg
  have hS : va_S (zA4 y sa ta oa) s.heap s.heap [] := va_S.rf
  have hn := hs.2.1
  have hs0 := hs.1
  refine zv_iconst hx hb dX10_sorts_0 ?_
  refine lv_istore_n (lv' := [(1, .int (zI 0)), (0, .ref y)]) hx hb dX10_sorts_1 rfl hl (by decide) rfl (fun ls hl => ?_)
  have lp2 : ∀ (z_f : Nat) (i : Int) (od0 : Int → Int) (H1 : Heap) (locs : List Loc), (0 ≤ i ∧ i ≤ n) → (zSrt w n od0 i) → (RM g y sa ta oa f gt od0 sv ik tp H1) → (va_S (zA4 y sa ta oa) s.heap H1 locs) → ((n - i).toNat) < z_f → ∀ (ls : Array Slot), lv_has ls 3 [(0, .ref y), (1, .int (zI i))] → W p l e (zRm 3 68) s m args below meth c H1 locs 0 0 (MQ below (zQv (fun H => ∃ od2 : Int → Int, RM g y sa ta oa f gt od2 sv ik tp H ∧ zSrt w n od2 n) (zA4 y sa ta oa)) args s 0 0 (zA4 y sa ta oa)) (F0 m 2 ls []) := by
    intro z_f
    induction z_f with
    | zero => intro i od0 H1 locs h0 h1 hX hS z_m; exact absurd z_m (Nat.not_lt_zero _)
    | succ z_f ih2 =>
      intro i od0 H1 locs h0 h1 hX hS z_m2 ls hl
      refine lv_iload_n hx hb dX10_sorts_2 rfl (lv_at hl 1 rfl) ?_
      refine lv_aload_n hx hb dX10_sorts_3 rfl (lv_at hl 0 rfl) ?_
      refine va_get (D := g.1) (ci := 5) (v := .ref sa) (C := RX10) (T := TX10) (N := 6) hx hb hts mX10_sorts_0 hown hK (hX.gy) 0 rfl rfl 0 (by decide) (hts _ mX10_sorts_1) (fun _ h9 => h9) rfl dX10_sorts_4 ?_
      refine zv_iconst hx hb dX10_sorts_7 ?_
      refine zy_ild hx hb hK hX (by omega) dX10_sorts_8 ?_
      refine zv_icmp_ge (tgt := 67) hx hb dX10_sorts_9 (by decide) (by omega) (by omega) (fun c9 => ?_) (fun c9 => ?_)
      · exact zw_v hx hb hr hlocks hS dX10_sorts_67 (by rw [show i = n by omega] at h1; exact ⟨_, hX, h1⟩)
      · refine lv_iload_n hx hb dX10_sorts_12 rfl (lv_at hl 1 rfl) ?_
        refine lv_istore_n (lv' := [(2, .int (zI i)), (0, .ref y), (1, .int (zI i))]) hx hb dX10_sorts_13 rfl hl (by decide) rfl (fun ls hl => ?_)
        have lp14 : ∀ (z_f : Nat) (k : Int) (od1 : Int → Int) (H1 : Heap) (locs : List Loc), (0 ≤ k ∧ k ≤ i) → (∀ r, 0 ≤ r → r < k → od1 r = od0 r) → (∀ r, k < r → r ≤ i → od1 r = od0 (r - 1)) → (∀ r, k ≤ r → r < i → zAh w n i (od0 r)) → (RM g y sa ta oa f gt od1 sv ik tp H1) → (va_S (zA4 y sa ta oa) s.heap H1 locs) → (k.toNat) < z_f → ∀ (ls : Array Slot), lv_has ls 3 [(0, .ref y), (1, .int (zI i)), (2, .int (zI k))] → W p l e (zRm 3 68) s m args below meth c H1 locs 0 0 (MQ below (zQv (fun H => ∃ od2 : Int → Int, RM g y sa ta oa f gt od2 sv ik tp H ∧ zSrt w n od2 n) (zA4 y sa ta oa)) args s 0 0 (zA4 y sa ta oa)) (F0 m 14 ls []) := by
          intro z_f
          induction z_f with
          | zero => intro k od1 H1 locs k0 h2 h3 h4 hX hS z_m; exact absurd z_m (Nat.not_lt_zero _)
          | succ z_f ih14 =>
            intro k od1 H1 locs k0 h2 h3 h4 hX hS z_m14 ls hl
            refine lv_iload_n hx hb dX10_sorts_14 rfl (lv_at hl 2 rfl) ?_
            refine zv_if_le (tgt := 54) hx hb dX10_sorts_15 (by decide) (by omega) (fun c15 => ?_) (fun c15 => ?_)
            · refine lv_aload_n hx hb dX10_sorts_54 rfl (lv_at hl 0 rfl) ?_
              refine va_get (D := g.1) (ci := 5) (v := .ref oa) (C := RX10) (T := TX10) (N := 6) hx hb hts mX10_sorts_0 hown hK (hX.gy) 0 rfl rfl 5 (by decide) (hts _ mX10_sorts_2) (fun _ h9 => h9) rfl dX10_sorts_55 ?_
              refine lv_iload_n hx hb dX10_sorts_58 rfl (lv_at hl 2 rfl) ?_
              refine lv_iload_n hx hb dX10_sorts_59 rfl (lv_at hl 1 rfl) ?_
              refine zy_ost hx hb hK hX hS (by omega) (by omega) dX10_sorts_60 (fun H1 locs hX hS => ?_)
              obtain ⟨od60, e60⟩ : ∃ z9, z9 = zApp od1 k i := ⟨_, rfl⟩
              rw [← e60] at hX
              have r60 : od60 k = i := by rw [e60]; exact zApp_eq _ _ _
              have q60 : ∀ x9, x9 ≠ k → od60 x9 = od1 x9 := fun x9 h => by rw [e60]; exact zApp_ne h
              refine zv_iinc (lv' := [(1, .int (zI (i + 1))), (0, .ref y), (2, .int (zI k))]) hx hb dX10_sorts_61 hl (k := 1) rfl (by decide) rfl (fun ls hl => ?_)
              refine lv_goto (tgt := 2) hx hb dX10_sorts_64 (by decide) ?_
              exact ih2 (i + 1) od60 _ _ (by omega) (zSrt_step (k := k) (by omega) h1 (by omega) (fun r a b => by rw [q60 r (by omega)]; exact h2 r a b) r60 (fun r a b => by rw [q60 r (by omega)]; exact h3 r a b) h4 (by first | exact Or.inl (by omega) | exact Or.inr (by rw [← h2 (k - 1) (by omega) (by omega)]; exact c31))) (hX) (hS) (by omega) _ (lv_sub hl [1, 0] rfl)
            · refine lv_aload_n hx hb dX10_sorts_18 rfl (lv_at hl 0 rfl) ?_
              refine lv_iload_n hx hb dX10_sorts_19 rfl (lv_at hl 1 rfl) ?_
              refine lv_aload_n hx hb dX10_sorts_20 rfl (lv_at hl 0 rfl) ?_
              refine va_get (D := g.1) (ci := 5) (v := .ref oa) (C := RX10) (T := TX10) (N := 6) hx hb hts mX10_sorts_0 hown hK (hX.gy) 0 rfl rfl 5 (by decide) (hts _ mX10_sorts_2) (fun _ h9 => h9) rfl dX10_sorts_21 ?_
              refine lv_iload_n hx hb dX10_sorts_24 rfl (lv_at hl 2 rfl) ?_
              have b8 := h1 (k - 1) (by omega) (by omega)
              have b9 := h2 (k - 1) (by omega) (by omega)
              refine zv_iconst hx hb dX10_sorts_25 ?_
              refine zv_isub hx hb dX10_sorts_26 ?_
              refine zy_old hx hb hK hX (by omega) dX10_sorts_27 ?_
              refine zc_V (As := [.int (zI i), .int (zI (od1 (k - 1)))]) (rest := []) S hK (kX10_isAhead l g y sa ta oa f gt od1 sv ik tp w n hs i (od1 (k - 1)) (by omega) (by omega)) (cwV 2 hts gX10_sorts_X10_isAhead rfl rfl rfl (by decide +kernel) ⟨Nat.le_of_ble_eq_true rfl, Nat.le_of_ble_eq_true rfl⟩) (hX) (hX.recv hK) rfl hl.1 rfl (Nat.le_of_ble_eq_true rfl) dX10_sorts_28 ⟨Nat.zero_le _, Nat.zero_le _⟩ (fun r28 hr28 => ?_)
              obtain rfl := hr28
              refine zv_ifB_eq (tgt := 54) hx hb dX10_sorts_31 (by decide) (fun c31 => ?_) (fun c31 => ?_)
              · refine lv_aload_n hx hb dX10_sorts_54 rfl (lv_at hl 0 rfl) ?_
                refine va_get (D := g.1) (ci := 5) (v := .ref oa) (C := RX10) (T := TX10) (N := 6) hx hb hts mX10_sorts_0 hown hK (hX.gy) 0 rfl rfl 5 (by decide) (hts _ mX10_sorts_2) (fun _ h9 => h9) rfl dX10_sorts_55 ?_
                refine lv_iload_n hx hb dX10_sorts_58 rfl (lv_at hl 2 rfl) ?_
                refine lv_iload_n hx hb dX10_sorts_59 rfl (lv_at hl 1 rfl) ?_
                refine zy_ost hx hb hK hX hS (by omega) (by omega) dX10_sorts_60 (fun H1 locs hX hS => ?_)
                obtain ⟨od60, e60⟩ : ∃ z9, z9 = zApp od1 k i := ⟨_, rfl⟩
                rw [← e60] at hX
                have r60 : od60 k = i := by rw [e60]; exact zApp_eq _ _ _
                have q60 : ∀ x9, x9 ≠ k → od60 x9 = od1 x9 := fun x9 h => by rw [e60]; exact zApp_ne h
                refine zv_iinc (lv' := [(1, .int (zI (i + 1))), (0, .ref y), (2, .int (zI k))]) hx hb dX10_sorts_61 hl (k := 1) rfl (by decide) rfl (fun ls hl => ?_)
                refine lv_goto (tgt := 2) hx hb dX10_sorts_64 (by decide) ?_
                exact ih2 (i + 1) od60 _ _ (by omega) (zSrt_step (k := k) (by omega) h1 (by omega) (fun r a b => by rw [q60 r (by omega)]; exact h2 r a b) r60 (fun r a b => by rw [q60 r (by omega)]; exact h3 r a b) h4 (by first | exact Or.inl (by omega) | exact Or.inr (by rw [← h2 (k - 1) (by omega) (by omega)]; exact c31))) (hX) (hS) (by omega) _ (lv_sub hl [1, 0] rfl)
              · refine lv_aload_n hx hb dX10_sorts_34 rfl (lv_at hl 0 rfl) ?_
                refine va_get (D := g.1) (ci := 5) (v := .ref oa) (C := RX10) (T := TX10) (N := 6) hx hb hts mX10_sorts_0 hown hK (hX.gy) 0 rfl rfl 5 (by decide) (hts _ mX10_sorts_2) (fun _ h9 => h9) rfl dX10_sorts_35 ?_
                refine lv_iload_n hx hb dX10_sorts_38 rfl (lv_at hl 2 rfl) ?_
                refine lv_aload_n hx hb dX10_sorts_39 rfl (lv_at hl 0 rfl) ?_
                refine va_get (D := g.1) (ci := 5) (v := .ref oa) (C := RX10) (T := TX10) (N := 6) hx hb hts mX10_sorts_0 hown hK (hX.gy) 0 rfl rfl 5 (by decide) (hts _ mX10_sorts_2) (fun _ h9 => h9) rfl dX10_sorts_40 ?_
                refine lv_iload_n hx hb dX10_sorts_43 rfl (lv_at hl 2 rfl) ?_
                refine zv_iconst hx hb dX10_sorts_44 ?_
                refine zv_isub hx hb dX10_sorts_45 ?_
                refine zy_old hx hb hK hX (by omega) dX10_sorts_46 ?_
                refine zy_ost hx hb hK hX hS (by omega) (by omega) dX10_sorts_47 (fun H1 locs hX hS => ?_)
                obtain ⟨od47, e47⟩ : ∃ z9, z9 = zApp od1 k (od1 (k - 1)) := ⟨_, rfl⟩
                rw [← e47] at hX
                have r47 : od47 k = od1 (k - 1) := by rw [e47]; exact zApp_eq _ _ _
                have q47 : ∀ x9, x9 ≠ k → od47 x9 = od1 x9 := fun x9 h => by rw [e47]; exact zApp_ne h
                refine zv_iinc (lv' := [(2, .int (zI (k + (-1)))), (0, .ref y), (1, .int (zI i))]) hx hb dX10_sorts_48 hl (k := 2) rfl (by decide) rfl (fun ls hl => ?_)
                refine lv_goto (tgt := 14) hx hb dX10_sorts_51 (by decide) ?_
                exact ih14 (k + (-1)) od47 _ _ (by omega) (fun r a b => by rw [q47 r (by omega)]; exact h2 r a (by omega)) (fun r a b => (show r = k ∨ k < r by omega).elim (fun v => by rw [v, r47]; exact h2 _ (by omega) (by omega)) (fun v => by rw [q47 r (by omega)]; exact h3 r v b)) (fun r a b => (show r = k - 1 ∨ k ≤ r by omega).elim (fun v => by rw [v, ← h2 (k - 1) (by omega) (by omega)]; exact c31) (fun v => h4 r v b)) (hX) (hS) (by omega) _ (lv_sub hl [1, 2, 0] rfl)
        exact lp14 _ i od0 _ _ (by omega) (fun _ _ _ => rfl) (fun r a b => absurd a (by omega)) (fun r a b => absurd b (by omega)) (hX) (hS) (Nat.lt_succ_self _) _ (lv_sub hl [1, 2, 0] rfl)
  exact lp2 _ 0 od _ _ (by omega) (zSrt_0 w n _) (hX) (hS) (Nat.lt_succ_self _) _ (lv_sub hl [1, 0] rfl)

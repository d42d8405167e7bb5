theorem mX8_length_0 : ∀ w ∈ wsX80, w ∈ wsX8_length := by decide +kernel
theorem mX8_length_1 : (Cond.fieldLink RX8 15 "BorderRuns$Word" "length" "I") ∈ wsX8_length := by decide +kernel
set_option maxHeartbeats 4000000 in
set_option maxRecDepth 100000 in
/-- Word.length() -/
theorem kX8_length (l : Launch) (g : zG) (h a : Nat) (w : Int → Int) (n : Int) : Met l yX8_length wsX8_length (zRm 0 0) (zP g [.ref h] (PW g h a w n)) (vp_Si (fun r => r = zI n)) 0 0 (fun _ => False) := by
  refine Met.ofZ (cc := cX8_length) (maxL := 1) (ret := (some .int)) (by decide) rfl (Nat.le_of_ble_eq_true rfl) ?_
  intro p e s m args below meth c ls hx hb hr hlocks S hin hK hpic hl
  have hown := S.2.2.2.1
  have hts := S.2.2.2.2
  have hl : lv_has ls 1 [(0, .ref h)] := hl
  obtain ⟨hn, hw, f, hP, hf, hha⟩ := id hpic
  refine lv_aload_n hx hb dX8_length_0 rfl (lv_at hl 0 rfl) ?_
  refine va_get (D := g.1) (ci := 3) (v := .int (zI n)) (C := RX8) (T := TX8) (N := 2) hx hb hts mX8_length_0 hown hK hP 0 rfl rfl 1 (by decide) (hts _ mX8_length_1) (fun _ h9 => h9) rfl dX8_length_1 ?_
  exact zr_i hx hb hr hlocks dX8_length_4 rfl

theorem mX8_isFull_0 : ∀ w ∈ wsX80, w ∈ wsX8_isFull := by decide +kernel
theorem mX8_isFull_1 : (Cond.fieldLink RX8 15 "BorderRuns$Word" "length" "I") ∈ wsX8_isFull := by decide +kernel
set_option maxHeartbeats 4000000 in
set_option maxRecDepth 100000 in
/-- Word.isFull() -/
theorem kX8_isFull (l : Launch) (g : zG) (h a : Nat) (w : Int → Int) (n : Int) : Met l yX8_isFull wsX8_isFull (zRm 0 0) (zP g [.ref h] (PW g h a w n)) (vp_Si (fun r => r = zI (zB (40 ≤ n)))) 0 0 (fun _ => False) := by
  refine Met.ofZ (cc := cX8_isFull) (maxL := 1) (ret := (some .boolean)) (by decide) rfl (Nat.le_of_ble_eq_true rfl) ?_
  intro p e s m args below meth c ls hx hb hr hlocks S hin hK hpic hl
  have hown := S.2.2.2.1
  have hts := S.2.2.2.2
  have hl : lv_has ls 1 [(0, .ref h)] := hl
  obtain ⟨hn, hw, f, hP, hf, hha⟩ := id hpic
  refine lv_aload_n hx hb dX8_isFull_0 rfl (lv_at hl 0 rfl) ?_
  refine va_get (D := g.1) (ci := 3) (v := .int (zI n)) (C := RX8) (T := TX8) (N := 2) hx hb hts mX8_isFull_0 hown hK hP 0 rfl rfl 1 (by decide) (hts _ mX8_isFull_1) (fun _ h9 => h9) rfl dX8_isFull_1 ?_
  refine zv_bipush hx hb dX8_isFull_4 (by decide +kernel) ?_
  refine zv_icmp_lt (tgt := 13) hx hb dX8_isFull_6 (by decide) (by omega) (by omega) (fun c6 => ?_) (fun c6 => ?_)
  · refine zv_iconst hx hb dX8_isFull_13 ?_
    exact zr_z hx hb hr hlocks dX8_isFull_14 rfl (by rw [zB_f (by omega)])
  · refine zv_iconst hx hb dX8_isFull_9 ?_
    refine lv_goto (tgt := 14) hx hb dX8_isFull_10 (by decide) ?_
    exact zr_z hx hb hr hlocks dX8_isFull_14 rfl (by rw [zB_t (by omega)])

theorem mX8_isPlace_0 : ∀ w ∈ wsX80, w ∈ wsX8_isPlace := by decide +kernel
theorem mX8_isPlace_1 : (Cond.fieldLink RX8 15 "BorderRuns$Word" "length" "I") ∈ wsX8_isPlace := by decide +kernel
set_option maxHeartbeats 4000000 in
set_option maxRecDepth 100000 in
/-- Word.isPlace(i) -/
theorem kX8_isPlace (l : Launch) (g : zG) (h a : Nat) (w : Int → Int) (n : Int) (i : Int) (hi : -2147483648 ≤ i ∧ i < 2147483648) : Met l yX8_isPlace wsX8_isPlace (zRm 0 0) (zP g [.ref h, .int (zI i)] (PW g h a w n)) (vp_Si (fun r => r = zI (zB (0 ≤ i ∧ i < n)))) 0 0 (fun _ => False) := by
  refine Met.ofZ (cc := cX8_isPlace) (maxL := 2) (ret := (some .boolean)) (by decide) rfl (Nat.le_of_ble_eq_true rfl) ?_
  intro p e s m args below meth c ls hx hb hr hlocks S hin hK hpic hl
  have hown := S.2.2.2.1
  have hts := S.2.2.2.2
  have hl : lv_has ls 2 [(0, .ref h), (1, .int (zI i))] := hl
  obtain ⟨hn, hw, f, hP, hf, hha⟩ := id hpic
  refine lv_iload_n hx hb dX8_isPlace_0 rfl (lv_at hl 1 rfl) ?_
  refine zv_if_lt (tgt := 16) hx hb dX8_isPlace_1 (by decide) (by omega) (fun c1 => ?_) (fun c1 => ?_)
  · refine zv_iconst hx hb dX8_isPlace_16 ?_
    exact zr_z hx hb hr hlocks dX8_isPlace_17 rfl (by rw [zB_f (by omega)])
  · refine lv_iload_n hx hb dX8_isPlace_4 rfl (lv_at hl 1 rfl) ?_
    refine lv_aload_n hx hb dX8_isPlace_5 rfl (lv_at hl 0 rfl) ?_
    refine va_get (D := g.1) (ci := 3) (v := .int (zI n)) (C := RX8) (T := TX8) (N := 2) hx hb hts mX8_isPlace_0 hown hK hP 0 rfl rfl 1 (by decide) (hts _ mX8_isPlace_1) (fun _ h9 => h9) rfl dX8_isPlace_6 ?_
    refine zv_icmp_ge (tgt := 16) hx hb dX8_isPlace_9 (by decide) (by omega) (by omega) (fun c9 => ?_) (fun c9 => ?_)
    · refine zv_iconst hx hb dX8_isPlace_16 ?_
      exact zr_z hx hb hr hlocks dX8_isPlace_17 rfl (by rw [zB_f (by omega)])
    · refine zv_iconst hx hb dX8_isPlace_12 ?_
      refine lv_goto (tgt := 17) hx hb dX8_isPlace_13 (by decide) ?_
      exact zr_z hx hb hr hlocks dX8_isPlace_17 rfl (by rw [zB_t (by omega)])

theorem mX8_isFactor_0 : ∀ w ∈ wsX80, w ∈ wsX8_isFactor := by decide +kernel
theorem mX8_isFactor_1 : (Cond.fieldLink RX8 15 "BorderRuns$Word" "length" "I") ∈ wsX8_isFactor := by decide +kernel
set_option maxHeartbeats 4000000 in
set_option maxRecDepth 100000 in
/-- Word.isFactor(i, j) -/
theorem kX8_isFactor (l : Launch) (g : zG) (h a : Nat) (w : Int → Int) (n : Int) (i j : Int) (hi : -2147483648 ≤ i ∧ i < 2147483648) (hj : -2147483648 ≤ j ∧ j < 2147483648) : Met l yX8_isFactor wsX8_isFactor (zRm 0 0) (zP g [.ref h, .int (zI i), .int (zI j)] (PW g h a w n)) (vp_Si (fun r => r = zI (zB (0 ≤ i ∧ i < j ∧ j ≤ n)))) 0 0 (fun _ => False) := by
  refine Met.ofZ (cc := cX8_isFactor) (maxL := 3) (ret := (some .boolean)) (by decide) rfl (Nat.le_of_ble_eq_true rfl) ?_
  intro p e s m args below meth c ls hx hb hr hlocks S hin hK hpic hl
  have hown := S.2.2.2.1
  have hts := S.2.2.2.2
  have hl : lv_has ls 3 [(0, .ref h), (1, .int (zI i)), (2, .int (zI j))] := hl
  obtain ⟨hn, hw, f, hP, hf, hha⟩ := id hpic
  refine lv_iload_n hx hb dX8_isFactor_0 rfl (lv_at hl 1 rfl) ?_
  refine zv_if_lt (tgt := 21) hx hb dX8_isFactor_1 (by decide) (by omega) (fun c1 => ?_) (fun c1 => ?_)
  · refine zv_iconst hx hb dX8_isFactor_21 ?_
    exact zr_z hx hb hr hlocks dX8_isFactor_22 rfl (by rw [zB_f (by omega)])
  · refine lv_iload_n hx hb dX8_isFactor_4 rfl (lv_at hl 1 rfl) ?_
    refine lv_iload_n hx hb dX8_isFactor_5 rfl (lv_at hl 2 rfl) ?_
    refine zv_icmp_ge (tgt := 21) hx hb dX8_isFactor_6 (by decide) (by omega) (by omega) (fun c6 => ?_) (fun c6 => ?_)
    · refine zv_iconst hx hb dX8_isFactor_21 ?_
      exact zr_z hx hb hr hlocks dX8_isFactor_22 rfl (by rw [zB_f (by omega)])
    · refine lv_iload_n hx hb dX8_isFactor_9 rfl (lv_at hl 2 rfl) ?_
      refine lv_aload_n hx hb dX8_isFactor_10 rfl (lv_at hl 0 rfl) ?_
      refine va_get (D := g.1) (ci := 3) (v := .int (zI n)) (C := RX8) (T := TX8) (N := 2) hx hb hts mX8_isFactor_0 hown hK hP 0 rfl rfl 1 (by decide) (hts _ mX8_isFactor_1) (fun _ h9 => h9) rfl dX8_isFactor_11 ?_
      refine zv_icmp_gt (tgt := 21) hx hb dX8_isFactor_14 (by decide) (by omega) (by omega) (fun c14 => ?_) (fun c14 => ?_)
      · refine zv_iconst hx hb dX8_isFactor_21 ?_
        exact zr_z hx hb hr hlocks dX8_isFactor_22 rfl (by rw [zB_f (by omega)])
      · refine zv_iconst hx hb dX8_isFactor_17 ?_
        refine lv_goto (tgt := 22) hx hb dX8_isFactor_18 (by decide) ?_
        exact zr_z hx hb hr hlocks dX8_isFactor_22 rfl (by rw [zB_t (by omega)])

theorem mX8_letterAt_0 : ∀ w ∈ wsX80, w ∈ wsX8_letterAt := by decide +kernel
theorem mX8_letterAt_1 : (Cond.fieldLink RX8 15 "BorderRuns$Word" "length" "I") ∈ wsX8_letterAt := by decide +kernel
theorem mX8_letterAt_2 : (Cond.fieldLink RX8 9 "BorderRuns$Word" "letters" "[I") ∈ wsX8_letterAt := by decide +kernel
set_option maxHeartbeats 4000000 in
set_option maxRecDepth 100000 in
/-- Word.letterAt(i) -/
theorem kX8_letterAt (l : Launch) (g : zG) (h a : Nat) (w : Int → Int) (n : Int) (i : Int) (hi : -2147483648 ≤ i ∧ i < 2147483648) : Met l yX8_letterAt wsX8_letterAt (zRm 0 0) (zP g [.ref h, .int (zI i)] (PW g h a w n)) (vp_Si (fun r => ∃ z : Int, r = zI z ∧ (0 ≤ i → i < n → z = w i) ∧ (¬ (0 ≤ i ∧ i < n) → z = -1) ∧ -1 ≤ z ∧ z ≤ 25)) 0 0 (fun _ => False) := by
  refine Met.ofZ (cc := cX8_letterAt) (maxL := 2) (ret := (some .int)) (by decide) rfl (Nat.le_of_ble_eq_true rfl) ?_
  intro p e s m args below meth c ls hx hb hr hlocks S hin hK hpic hl
  have hown := S.2.2.2.1
  have hts := S.2.2.2.2
  have hl : lv_has ls 2 [(0, .ref h), (1, .int (zI i))] := hl
  obtain ⟨hn, hw, f, hP, hf, hha⟩ := id hpic
  refine lv_iload_n hx hb dX8_letterAt_0 rfl (lv_at hl 1 rfl) ?_
  refine zv_if_lt (tgt := 21) hx hb dX8_letterAt_1 (by decide) (by omega) (fun c1 => ?_) (fun c1 => ?_)
  · refine zv_iconst hx hb dX8_letterAt_21 ?_
    exact zr_i hx hb hr hlocks dX8_letterAt_22 (⟨(-1), rfl, by omega⟩)
  · refine lv_iload_n hx hb dX8_letterAt_4 rfl (lv_at hl 1 rfl) ?_
    refine lv_aload_n hx hb dX8_letterAt_5 rfl (lv_at hl 0 rfl) ?_
    refine va_get (D := g.1) (ci := 3) (v := .int (zI n)) (C := RX8) (T := TX8) (N := 2) hx hb hts mX8_letterAt_0 hown hK hP 0 rfl rfl 1 (by decide) (hts _ mX8_letterAt_1) (fun _ h9 => h9) rfl dX8_letterAt_6 ?_
    refine zv_icmp_ge (tgt := 21) hx hb dX8_letterAt_9 (by decide) (by omega) (by omega) (fun c9 => ?_) (fun c9 => ?_)
    · refine zv_iconst hx hb dX8_letterAt_21 ?_
      exact zr_i hx hb hr hlocks dX8_letterAt_22 (⟨(-1), rfl, by omega⟩)
    · refine lv_iload_n hx hb dX8_letterAt_12 rfl (lv_at hl 1 rfl) ?_
      refine lv_aload_n hx hb dX8_letterAt_13 rfl (lv_at hl 0 rfl) ?_
      refine va_get (D := g.1) (ci := 3) (v := .ref a) (C := RX8) (T := TX8) (N := 2) hx hb hts mX8_letterAt_0 hown hK hP 0 rfl rfl 0 (by decide) (hts _ mX8_letterAt_2) (fun _ h9 => h9) rfl dX8_letterAt_14 ?_
      refine va_alen (D := g.1) hx hb hK hP 1 0 rfl rfl (v := zI 40) rfl dX8_letterAt_17 ?_
      refine zv_icmp_lt (tgt := 23) hx hb dX8_letterAt_18 (by decide) (by omega) (by omega) (fun c18 => ?_) (fun c18 => ?_)
      · refine lv_aload_n hx hb dX8_letterAt_23 rfl (lv_at hl 0 rfl) ?_
        refine va_get (D := g.1) (ci := 3) (v := .ref a) (C := RX8) (T := TX8) (N := 2) hx hb hts mX8_letterAt_0 hown hK hP 0 rfl rfl 0 (by decide) (hts _ mX8_letterAt_2) (fun _ h9 => h9) rfl dX8_letterAt_24 ?_
        refine lv_iload_n hx hb dX8_letterAt_27 rfl (lv_at hl 1 rfl) ?_
        refine va_iald (D := g.1) hx hb hK hP 1 0 rfl rfl (zI_in (by omega) (by decide)) dX8_letterAt_28 ?_
        rw [zI_cl (by omega)]
        rw [hf i (by omega) (by omega)]
        exact zr_i hx hb hr hlocks dX8_letterAt_29 (by have h9 := hw i (by omega) (by omega); exact ⟨w i, rfl, fun _ _ => rfl, fun q => absurd ⟨by omega, by omega⟩ q, by omega, by omega⟩)
      · refine zv_iconst hx hb dX8_letterAt_21 ?_
        exact zr_i hx hb hr hlocks dX8_letterAt_22 (⟨(-1), rfl, by omega⟩)

theorem mX8_alikeFrom_0 : ∀ w ∈ wsX80, w ∈ wsX8_alikeFrom := by decide +kernel
theorem mX8_alikeFrom_1 : (Cond.fieldLink RX8 15 "BorderRuns$Word" "length" "I") ∈ wsX8_alikeFrom := by decide +kernel
theorem mX8_alikeFrom_2 : (Cond.methodLink RX8 42 Lib.Math.max.name) ∈ wsX8_alikeFrom := by decide +kernel
theorem mX8_alikeFrom_3 : (Cond.static Lib.Math.max.name) ∈ wsX8_alikeFrom := by decide +kernel
theorem mX8_alikeFrom_4 : (Cond.initialized "java/lang/Math") ∈ wsX8_alikeFrom := by decide +kernel
theorem mX8_alikeFrom_5 : (Cond.code Lib.Math.max.name Lib.Math.max.code 2 (some .int)) ∈ wsX8_alikeFrom := by decide +kernel
set_option maxHeartbeats 4000000 in
set_option maxRecDepth 100000 in
/-- Word.alikeFrom(i, j) -/
theorem kX8_alikeFrom (l : Launch) (g : zG) (h a : Nat) (w : Int → Int) (n : Int) (i j : Int) (hi : 0 ≤ i ∧ i ≤ n) (hj : 0 ≤ j ∧ j ≤ n) : Met l yX8_alikeFrom wsX8_alikeFrom (zRm 1 21) (zP g [.ref h, .int (zI i), .int (zI j)] (PW g h a w n)) (vp_Si (fun r => ∃ z : Int, r = zI z ∧ z = zAF w n i j ∧ 0 ≤ z ∧ z ≤ n - i ∧ z ≤ n - j)) 0 0 (fun _ => False) := by
  refine Met.ofZ (cc := cX8_alikeFrom) (maxL := 5) (ret := (some .int)) (by decide) rfl (Nat.le_of_ble_eq_true rfl) ?_
  intro p e s m args below meth c ls hx hb hr hlocks S hin hK hpic hl
  have hown := S.2.2.2.1
  have hts := S.2.2.2.2
  have hl : lv_has ls 5 [(0, .ref h), (1, .int (zI i)), (2, .int (zI j))] := hl
  obtain ⟨hn, hw, f, hP, hf, hha⟩ := id hpic
  refine lv_aload_n hx hb dX8_alikeFrom_0 rfl (lv_at hl 0 rfl) ?_
  refine va_get (D := g.1) (ci := 3) (v := .int (zI n)) (C := RX8) (T := TX8) (N := 2) hx hb hts mX8_alikeFrom_0 hown hK hP 0 rfl rfl 1 (by decide) (hts _ mX8_alikeFrom_1) (fun _ h9 => h9) rfl dX8_alikeFrom_1 ?_
  refine lv_iload_n hx hb dX8_alikeFrom_4 rfl (lv_at hl 1 rfl) ?_
  refine lv_iload_n hx hb dX8_alikeFrom_5 rfl (lv_at hl 2 rfl) ?_
  refine zv_mmax hx hb (S.2.2.1.trans hl.1.symm) hown (hts _ mX8_alikeFrom_2) (hts _ mX8_alikeFrom_3) (hts _ mX8_alikeFrom_4) (hts _ mX8_alikeFrom_5) (Nat.le_of_ble_eq_true rfl) (Nat.le_of_ble_eq_true rfl) (Nat.zero_le _) (Nat.zero_le _) (by omega) (by omega) dX8_alikeFrom_6 ?_
  refine zv_isub hx hb dX8_alikeFrom_9 ?_
  refine lv_istore_n (lv' := [(3, .int (zI (n - (max i j)))), (0, .ref h), (1, .int (zI i)), (2, .int (zI j))]) hx hb dX8_alikeFrom_10 rfl hl (by decide) rfl (fun ls hl => ?_)
  refine zv_iconst hx hb dX8_alikeFrom_11 ?_
  refine lv_istore (lv' := [(4, .int (zI 0)), (3, .int (zI (n - (max i j)))), (0, .ref h), (1, .int (zI i)), (2, .int (zI j))]) hx hb dX8_alikeFrom_12 hl (by decide) rfl (fun ls hl => ?_)
  have lp14 : ∀ (z_f : Nat) (k : Int), (0 ≤ k ∧ k ≤ n - max i j) → (zSm w i j k) → ((n - max i j - k).toNat) < z_f → ∀ (ls : Array Slot), lv_has ls 5 [(0, .ref h), (1, .int (zI i)), (2, .int (zI j)), (3, .int (zI (n - max i j))), (4, .int (zI k))] → W p l e (zRm 1 21) s m args below meth c s.heap [] 0 0 (MQ below (vp_Si (fun r => ∃ z : Int, r = zI z ∧ z = zAF w n i j ∧ 0 ≤ z ∧ z ≤ n - i ∧ z ≤ n - j)) args s 0 0 (fun _ => False)) (F0 m 14 ls []) := by
    intro z_f
    induction z_f with
    | zero => intro k h0 h1 z_m; exact absurd z_m (Nat.not_lt_zero _)
    | succ z_f ih14 =>
      intro k h0 h1 z_m14 ls hl
      refine lv_iload hx hb dX8_alikeFrom_14 (lv_at hl 4 rfl) ?_
      refine lv_iload_n hx hb dX8_alikeFrom_16 rfl (lv_at hl 3 rfl) ?_
      refine zv_icmp_ge (tgt := 45) hx hb dX8_alikeFrom_17 (by decide) (by omega) (by omega) (fun c17 => ?_) (fun c17 => ?_)
      · have e9 : zAF w n i j = k := zAF_un h0.1 (by omega) (by omega) h1 (by omega)
        refine lv_iload hx hb dX8_alikeFrom_45 (lv_at hl 4 rfl) ?_
        exact zr_i hx hb hr hlocks dX8_alikeFrom_47 (⟨k, rfl, e9.symm, by omega, by omega, by omega⟩)
      · refine lv_aload_n hx hb dX8_alikeFrom_20 rfl (lv_at hl 0 rfl) ?_
        refine lv_iload_n hx hb dX8_alikeFrom_21 rfl (lv_at hl 1 rfl) ?_
        refine lv_iload hx hb dX8_alikeFrom_22 (lv_at hl 4 rfl) ?_
        refine zv_iadd hx hb dX8_alikeFrom_24 ?_
        refine zc_V (As := [.int (zI (i + k))]) (rest := []) S hK (kX8_letterAt l g h a w n (i + k) (by omega)) (cwV 1 hts gX8_alikeFrom_X8_letterAt rfl rfl rfl (by decide +kernel) ⟨Nat.le_of_ble_eq_true rfl, Nat.le_of_ble_eq_true rfl⟩) (hpic) (hpic.recv hK) rfl hl.1 rfl (Nat.le_of_ble_eq_true rfl) dX8_alikeFrom_25 ⟨Nat.zero_le _, Nat.zero_le _⟩ (fun r25 hr25 => ?_)
        obtain ⟨z25, rfl, hz25⟩ := hr25
        refine lv_aload_n hx hb dX8_alikeFrom_28 rfl (lv_at hl 0 rfl) ?_
        refine lv_iload_n hx hb dX8_alikeFrom_29 rfl (lv_at hl 2 rfl) ?_
        refine lv_iload hx hb dX8_alikeFrom_30 (lv_at hl 4 rfl) ?_
        refine zv_iadd hx hb dX8_alikeFrom_32 ?_
        refine zc_V (As := [.int (zI (j + k))]) (rest := [.int (zI z25)]) S hK (kX8_letterAt l g h a w n (j + k) (by omega)) (cwV 1 hts gX8_alikeFrom_X8_letterAt rfl rfl rfl (by decide +kernel) ⟨Nat.le_of_ble_eq_true rfl, Nat.le_of_ble_eq_true rfl⟩) (hpic) (hpic.recv hK) rfl hl.1 rfl (Nat.le_of_ble_eq_true rfl) dX8_alikeFrom_33 ⟨Nat.zero_le _, Nat.zero_le _⟩ (fun r33 hr33 => ?_)
        obtain ⟨z33, rfl, hz33⟩ := hr33
        refine zv_icmp_ne (tgt := 45) hx hb dX8_alikeFrom_36 (by decide) (by omega) (by omega) (fun c36 => ?_) (fun c36 => ?_)
        · have e9 : zAF w n i j = k := zAF_un h0.1 (by omega) (by omega) h1 (fun _ _ => by omega)
          refine lv_iload hx hb dX8_alikeFrom_45 (lv_at hl 4 rfl) ?_
          exact zr_i hx hb hr hlocks dX8_alikeFrom_47 (⟨k, rfl, e9.symm, by omega, by omega, by omega⟩)
        · refine zv_iinc (lv' := [(4, .int (zI (k + 1))), (0, .ref h), (1, .int (zI i)), (2, .int (zI j)), (3, .int (zI (n - max i j)))]) hx hb dX8_alikeFrom_39 hl (k := 4) rfl (by decide) rfl (fun ls hl => ?_)
          refine lv_goto (tgt := 14) hx hb dX8_alikeFrom_42 (by decide) ?_
          exact ih14 (k + 1) (by omega) (fun q h1q h2q => (show q < k ∨ q = k by omega).elim (fun h8 => by exact h1 q h1q h8) (fun h8 => by subst h8; omega)) (by omega) _ (lv_sub hl [1, 2, 3, 4, 0] rfl)
  exact lp14 _ 0 (by omega) (zSm_0 w i j (Int.le_refl 0)) (Nat.lt_succ_self _) _ (lv_sub hl [2, 3, 4, 1, 0] rfl)

theorem mX8_alikeAhead_0 : (Cond.methodLink RX8 48 Lib.Math.min.name) ∈ wsX8_alikeAhead := by decide +kernel
theorem mX8_alikeAhead_1 : (Cond.static Lib.Math.min.name) ∈ wsX8_alikeAhead := by decide +kernel
theorem mX8_alikeAhead_2 : (Cond.initialized "java/lang/Math") ∈ wsX8_alikeAhead := by decide +kernel
theorem mX8_alikeAhead_3 : (Cond.code Lib.Math.min.name Lib.Math.min.code 2 (some .int)) ∈ wsX8_alikeAhead := by decide +kernel
set_option maxHeartbeats 4000000 in
set_option maxRecDepth 100000 in
/-- Word.alikeAhead(i, j) -/
theorem kX8_alikeAhead (l : Launch) (g : zG) (h a : Nat) (w : Int → Int) (n : Int) (i j : Int) (hi : 0 ≤ i ∧ i ≤ n) (hj : 0 ≤ j ∧ j ≤ n) : Met l yX8_alikeAhead wsX8_alikeAhead (zRm 1 21) (zP g [.ref h, .int (zI i), .int (zI j)] (PW g h a w n)) (vp_Si (fun r => ∃ z : Int, r = zI z ∧ z = zAA w i j ∧ 0 ≤ z ∧ z ≤ i ∧ z ≤ j)) 0 0 (fun _ => False) := by
  refine Met.ofZ (cc := cX8_alikeAhead) (maxL := 5) (ret := (some .int)) (by decide) rfl (Nat.le_of_ble_eq_true rfl) ?_
  intro p e s m args below meth c ls hx hb hr hlocks S hin hK hpic hl
  have hown := S.2.2.2.1
  have hts := S.2.2.2.2
  have hl : lv_has ls 5 [(0, .ref h), (1, .int (zI i)), (2, .int (zI j))] := hl
  obtain ⟨hn, hw, f, hP, hf, hha⟩ := id hpic
  refine lv_iload_n hx hb dX8_alikeAhead_0 rfl (lv_at hl 1 rfl) ?_
  refine lv_iload_n hx hb dX8_alikeAhead_1 rfl (lv_at hl 2 rfl) ?_
  refine zv_mmin hx hb (S.2.2.1.trans hl.1.symm) hown (hts _ mX8_alikeAhead_0) (hts _ mX8_alikeAhead_1) (hts _ mX8_alikeAhead_2) (hts _ mX8_alikeAhead_3) (Nat.le_of_ble_eq_true rfl) (Nat.le_of_ble_eq_true rfl) (Nat.zero_le _) (Nat.zero_le _) (by omega) (by omega) dX8_alikeAhead_2 ?_
  refine lv_istore_n (lv' := [(3, .int (zI (min i j))), (0, .ref h), (1, .int (zI i)), (2, .int (zI j))]) hx hb dX8_alikeAhead_5 rfl hl (by decide) rfl (fun ls hl => ?_)
  refine zv_iconst hx hb dX8_alikeAhead_6 ?_
  refine lv_istore (lv' := [(4, .int (zI 0)), (3, .int (zI (min i j))), (0, .ref h), (1, .int (zI i)), (2, .int (zI j))]) hx hb dX8_alikeAhead_7 hl (by decide) rfl (fun ls hl => ?_)
  have lp9 : ∀ (z_f : Nat) (k : Int), (0 ≤ k ∧ k ≤ min i j) → (∀ q, 0 ≤ q → q < k → w (i - 1 - q) = w (j - 1 - q)) → ((min i j - k).toNat) < z_f → ∀ (ls : Array Slot), lv_has ls 5 [(0, .ref h), (1, .int (zI i)), (2, .int (zI j)), (3, .int (zI (min i j))), (4, .int (zI k))] → W p l e (zRm 1 21) s m args below meth c s.heap [] 0 0 (MQ below (vp_Si (fun r => ∃ z : Int, r = zI z ∧ z = zAA w i j ∧ 0 ≤ z ∧ z ≤ i ∧ z ≤ j)) args s 0 0 (fun _ => False)) (F0 m 9 ls []) := by
    intro z_f
    induction z_f with
    | zero => intro k h0 h1 z_m; exact absurd z_m (Nat.not_lt_zero _)
    | succ z_f ih9 =>
      intro k h0 h1 z_m9 ls hl
      refine lv_iload hx hb dX8_alikeAhead_9 (lv_at hl 4 rfl) ?_
      refine lv_iload_n hx hb dX8_alikeAhead_11 rfl (lv_at hl 3 rfl) ?_
      refine zv_icmp_ge (tgt := 44) hx hb dX8_alikeAhead_12 (by decide) (by omega) (by omega) (fun c12 => ?_) (fun c12 => ?_)
      · have e9 : zAA w i j = k := zAA_un h0.1 (by omega) (by omega) h1 (by omega)
        refine lv_iload hx hb dX8_alikeAhead_44 (lv_at hl 4 rfl) ?_
        exact zr_i hx hb hr hlocks dX8_alikeAhead_46 (⟨k, rfl, e9.symm, by omega, by omega, by omega⟩)
      · refine lv_aload_n hx hb dX8_alikeAhead_15 rfl (lv_at hl 0 rfl) ?_
        refine lv_iload_n hx hb dX8_alikeAhead_16 rfl (lv_at hl 1 rfl) ?_
        refine zv_iconst hx hb dX8_alikeAhead_17 ?_
        refine zv_isub hx hb dX8_alikeAhead_18 ?_
        refine lv_iload hx hb dX8_alikeAhead_19 (lv_at hl 4 rfl) ?_
        refine zv_isub hx hb dX8_alikeAhead_21 ?_
        refine zc_V (As := [.int (zI ((i - 1) - k))]) (rest := []) S hK (kX8_letterAt l g h a w n ((i - 1) - k) (by omega)) (cwV 1 hts gX8_alikeAhead_X8_letterAt rfl rfl rfl (by decide +kernel) ⟨Nat.le_of_ble_eq_true rfl, Nat.le_of_ble_eq_true rfl⟩) (hpic) (hpic.recv hK) rfl hl.1 rfl (Nat.le_of_ble_eq_true rfl) dX8_alikeAhead_22 ⟨Nat.zero_le _, Nat.zero_le _⟩ (fun r22 hr22 => ?_)
        obtain ⟨z22, rfl, hz22⟩ := hr22
        refine lv_aload_n hx hb dX8_alikeAhead_25 rfl (lv_at hl 0 rfl) ?_
        refine lv_iload_n hx hb dX8_alikeAhead_26 rfl (lv_at hl 2 rfl) ?_
        refine zv_iconst hx hb dX8_alikeAhead_27 ?_
        refine zv_isub hx hb dX8_alikeAhead_28 ?_
        refine lv_iload hx hb dX8_alikeAhead_29 (lv_at hl 4 rfl) ?_
        refine zv_isub hx hb dX8_alikeAhead_31 ?_
        refine zc_V (As := [.int (zI ((j - 1) - k))]) (rest := [.int (zI z22)]) S hK (kX8_letterAt l g h a w n ((j - 1) - k) (by omega)) (cwV 1 hts gX8_alikeAhead_X8_letterAt rfl rfl rfl (by decide +kernel) ⟨Nat.le_of_ble_eq_true rfl, Nat.le_of_ble_eq_true rfl⟩) (hpic) (hpic.recv hK) rfl hl.1 rfl (Nat.le_of_ble_eq_true rfl) dX8_alikeAhead_32 ⟨Nat.zero_le _, Nat.zero_le _⟩ (fun r32 hr32 => ?_)
        obtain ⟨z32, rfl, hz32⟩ := hr32
        refine zv_icmp_ne (tgt := 44) hx hb dX8_alikeAhead_35 (by decide) (by omega) (by omega) (fun c35 => ?_) (fun c35 => ?_)
        · have e9 : zAA w i j = k := zAA_un h0.1 (by omega) (by omega) h1 (fun _ _ => by omega)
          refine lv_iload hx hb dX8_alikeAhead_44 (lv_at hl 4 rfl) ?_
          exact zr_i hx hb hr hlocks dX8_alikeAhead_46 (⟨k, rfl, e9.symm, by omega, by omega, by omega⟩)
        · refine zv_iinc (lv' := [(4, .int (zI (k + 1))), (0, .ref h), (1, .int (zI i)), (2, .int (zI j)), (3, .int (zI (min i j)))]) hx hb dX8_alikeAhead_38 hl (k := 4) rfl (by decide) rfl (fun ls hl => ?_)
          refine lv_goto (tgt := 9) hx hb dX8_alikeAhead_41 (by decide) ?_
          exact ih9 (k + 1) (by omega) (fun q h1q h2q => (show q < k ∨ q = k by omega).elim (fun h8 => by exact h1 q h1q h8) (fun h8 => by subst h8; omega)) (by omega) _ (lv_sub hl [1, 2, 3, 4, 0] rfl)
  exact lp9 _ 0 (by omega) (fun q h1q h2q => absurd h2q (by omega)) (Nat.lt_succ_self _) _ (lv_sub hl [2, 3, 4, 1, 0] rfl)

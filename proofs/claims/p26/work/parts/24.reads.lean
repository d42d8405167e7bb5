theorem mX9_border_0 : ∀ w ∈ wsX90, w ∈ wsX9_border := by decide +kernel
theorem mX9_border_1 : (Cond.fieldLink RX9 10 "BorderRuns" "word" "LBorderRuns$Word;") ∈ wsX9_border := by decide +kernel
set_option maxHeartbeats 4000000 in
set_option maxRecDepth 100000 in
/-- X9_border -/
theorem kX9_border (l : Launch) (g : zG) (ad : Nat → Nat) (w : Int → Int) (n : Int) (ee : Nat → Int → Int) (en : Nat → Int) (hc : Int) (u : Int → Int) (un hs : Int) (tc : Int → Int) (tn : Int) (i r : Int) (hi : -2147483648 ≤ i ∧ i < 2147483648) (hr0 : -2147483648 ≤ r ∧ r < 2147483648) : Met l yX9_border wsX9_border (zRm 3 69) (zP g [.ref (ad 16), .int (zI i), .int (zI r)] (AX g ad w n ee en hc u un hs tc tn)) (vp_Si (fun y => y = zI (aBorder w n i r))) 0 0 (fun _ => False) := by
  refine Met.ofZ (cc := cX9_border) (maxL := 3) (ret := (some .int)) (by decide) rfl (Nat.le_of_ble_eq_true rfl) ?_
  intro p e s m args below meth c ls hx hb hr hlocks S hin hK hpic hl
  have hown := S.2.2.2.1
  have hts := S.2.2.2.2
  have hl : lv_has ls 3 [(0, .ref (ad 16)), (1, .int (zI i)), (2, .int (zI r))] := hl
  obtain ⟨d, dn, u9, un9, hf, hn, v, vn, nx, pf, ig, bp, hX, hsn, hrg⟩ := hpic
  have hg := hX.grg
  have hn0 := hX.gw.1
  have hd0 := hX.gd.1
  have hu0 := hX.gu.1
  have hv0 := hX.gv.1
  have ht0 := hX.gt.1
  refine lv_iload_n hx hb dX9_border_0 rfl (lv_at hl 1 rfl) ?_
  refine zv_iconst hx hb dX9_border_1 ?_
  refine zv_icmp_lt (tgt := 16) hx hb dX9_border_2 (by decide) (by omega) (by omega) (fun c2 => ?_) (fun c2 => ?_)
  · refine zv_iconst hx hb dX9_border_16 ?_
    exact zr_i hx hb hr hlocks dX9_border_17 (by unfold aBorder; rw [zIf_f (by omega)])
  · refine lv_iload_n hx hb dX9_border_5 rfl (lv_at hl 1 rfl) ?_
    refine lv_aload_n hx hb dX9_border_6 rfl (lv_at hl 0 rfl) ?_
    refine va_get (D := g.1) (ci := 4) (v := .ref (ad 0)) (C := RX9) (T := TX9) (N := 7) hx hb hts mX9_border_0 hown hK (hX.gx) 0 rfl rfl 0 (by decide) (hts _ mX9_border_1) (fun _ h9 => h9) rfl dX9_border_7 ?_
    refine zc_V (As := []) (rest := [.int (zI i)]) S hK (kX8_length l g (ad 0) (ad 1) w n) (cwV 0 hts gX9_border_X8_length rfl rfl rfl (by decide +kernel) ⟨Nat.le_of_ble_eq_true rfl, Nat.le_of_ble_eq_true rfl⟩) ((hX.gw)) ((hX.gw).recv hK) rfl hl.1 rfl (Nat.le_of_ble_eq_true rfl) dX9_border_10 ⟨Nat.zero_le _, Nat.zero_le _⟩ (fun r10 hr10 => ?_)
    obtain rfl := hr10
    refine zv_icmp_le (tgt := 18) hx hb dX9_border_13 (by decide) (by omega) (by omega) (fun c13 => ?_) (fun c13 => ?_)
    · refine lv_iload_n hx hb dX9_border_18 rfl (lv_at hl 2 rfl) ?_
      refine zv_if_ge (tgt := 25) hx hb dX9_border_19 (by decide) (by omega) (fun c19 => ?_) (fun c19 => ?_)
      · refine lv_aload_n hx hb dX9_border_25 rfl (lv_at hl 0 rfl) ?_
        refine va_get (D := g.1) (ci := 4) (v := .ref (ad 0)) (C := RX9) (T := TX9) (N := 7) hx hb hts mX9_border_0 hown hK (hX.gx) 0 rfl rfl 0 (by decide) (hts _ mX9_border_1) (fun _ h9 => h9) rfl dX9_border_26 ?_
        refine lv_iload_n hx hb dX9_border_29 rfl (lv_at hl 1 rfl) ?_
        refine lv_iload_n hx hb dX9_border_30 rfl (lv_at hl 2 rfl) ?_
        refine zc_S (As := [.ref (ad 0), .int (zI i), .int (zI r)]) (rest := []) S hK (kX2_rankedBorder l g (ad 0) (ad 1) w n i r (by omega) (by omega)) (va_cwS 3 hts gX9_border_X2_rankedBorder rfl rfl rfl (by decide +kernel) ⟨Nat.le_of_ble_eq_true rfl, Nat.le_of_ble_eq_true rfl⟩) ((hX.gw)) rfl hl.1 rfl (Nat.le_of_ble_eq_true rfl) dX9_border_31 ⟨Nat.zero_le _, Nat.zero_le _⟩ (fun r31 hr31 => ?_)
        obtain ⟨z31, rfl, hz31⟩ := hr31
        exact zr_i hx hb hr hlocks dX9_border_34 (by unfold aBorder; rw [zIf_t (by omega), zIf_f (by omega)]; exact congrArg zI (hz31.1))
      · refine zv_bipush hx hb dX9_border_22 (by decide +kernel) ?_
        exact zr_i hx hb hr hlocks dX9_border_24 (by unfold aBorder; rw [zIf_t (by omega), zIf_t (by omega)])
    · refine zv_iconst hx hb dX9_border_16 ?_
      exact zr_i hx hb hr hlocks dX9_border_17 (by unfold aBorder; rw [zIf_f (by omega)])

theorem mX9_at_0 : ∀ w ∈ wsX90, w ∈ wsX9_at := by decide +kernel
theorem mX9_at_1 : (Cond.fieldLink RX9 10 "BorderRuns" "word" "LBorderRuns$Word;") ∈ wsX9_at := by decide +kernel
set_option maxHeartbeats 4000000 in
set_option maxRecDepth 100000 in
/-- X9_at -/
theorem kX9_at (l : Launch) (g : zG) (ad : Nat → Nat) (w : Int → Int) (n : Int) (ee : Nat → Int → Int) (en : Nat → Int) (hc : Int) (u : Int → Int) (un hs : Int) (tc : Int → Int) (tn : Int) (i q : Int) (hi : -2147483648 ≤ i ∧ i < 2147483648) (hq : -2147483648 ≤ q ∧ q < 2147483648) : Met l yX9_at wsX9_at (zRm 5 117) (zP g [.ref (ad 16), .int (zI i), .int (zI q)] (AX g ad w n ee en hc u un hs tc tn)) (vp_Si (fun y => y = zI (zAt w n i q))) 0 0 (fun _ => False) := by
  refine Met.ofZ (cc := cX9_at) (maxL := 3) (ret := (some .int)) (by decide) rfl (Nat.le_of_ble_eq_true rfl) ?_
  intro p e s m args below meth c ls hx hb hr hlocks S hin hK hpic hl
  have hown := S.2.2.2.1
  have hts := S.2.2.2.2
  have hl : lv_has ls 3 [(0, .ref (ad 16)), (1, .int (zI i)), (2, .int (zI q))] := hl
  obtain ⟨d, dn, u9, un9, hf, hn, v, vn, nx, pf, ig, bp, hX, hsn, hrg⟩ := hpic
  have hg := hX.grg
  have hn0 := hX.gw.1
  have hd0 := hX.gd.1
  have hu0 := hX.gu.1
  have hv0 := hX.gv.1
  have ht0 := hX.gt.1
  refine lv_aload_n hx hb dX9_at_0 rfl (lv_at hl 0 rfl) ?_
  refine va_get (D := g.1) (ci := 4) (v := .ref (ad 0)) (C := RX9) (T := TX9) (N := 7) hx hb hts mX9_at_0 hown hK (hX.gx) 0 rfl rfl 0 (by decide) (hts _ mX9_at_1) (fun _ h9 => h9) rfl dX9_at_1 ?_
  refine lv_iload_n hx hb dX9_at_4 rfl (lv_at hl 1 rfl) ?_
  refine zc_V (As := [.int (zI i)]) (rest := []) S hK (kX8_isPlace l g (ad 0) (ad 1) w n i (by omega)) (cwV 1 hts gX9_at_X8_isPlace rfl rfl rfl (by decide +kernel) ⟨Nat.le_of_ble_eq_true rfl, Nat.le_of_ble_eq_true rfl⟩) ((hX.gw)) ((hX.gw).recv hK) rfl hl.1 rfl (Nat.le_of_ble_eq_true rfl) dX9_at_5 ⟨Nat.zero_le _, Nat.zero_le _⟩ (fun r5 hr5 => ?_)
  obtain rfl := hr5
  refine zv_ifB_ne (tgt := 13) hx hb dX9_at_8 (by decide) (fun c8 => ?_) (fun c8 => ?_)
  · refine lv_iload_n hx hb dX9_at_13 rfl (lv_at hl 2 rfl) ?_
    rcases (show q = 0 ∨ q = 1 ∨ q = 2 ∨ q = 3 ∨ (q < 0 ∨ 3 < q) by omega) with c14 | c14 | c14 | c14 | c14
    · subst c14
      refine zv_tableIn (a := 0) (tgt := 44) hx hb dX9_at_14 (by omega) (by omega) (by omega) rfl (by decide) ?_
      refine lv_aload_n hx hb dX9_at_44 rfl (lv_at hl 0 rfl) ?_
      refine va_get (D := g.1) (ci := 4) (v := .ref (ad 0)) (C := RX9) (T := TX9) (N := 7) hx hb hts mX9_at_0 hown hK (hX.gx) 0 rfl rfl 0 (by decide) (hts _ mX9_at_1) (fun _ h9 => h9) rfl dX9_at_45 ?_
      refine lv_iload_n hx hb dX9_at_48 rfl (lv_at hl 1 rfl) ?_
      refine zc_V (As := [.int (zI i)]) (rest := []) S hK (kX8_letterAt l g (ad 0) (ad 1) w n i (by omega)) (cwV 1 hts gX9_at_X8_letterAt rfl rfl rfl (by decide +kernel) ⟨Nat.le_of_ble_eq_true rfl, Nat.le_of_ble_eq_true rfl⟩) ((hX.gw)) ((hX.gw).recv hK) rfl hl.1 rfl (Nat.le_of_ble_eq_true rfl) dX9_at_49 ⟨Nat.zero_le _, Nat.zero_le _⟩ (fun r49 hr49 => ?_)
      obtain ⟨z49, rfl, hz49⟩ := hr49
      exact zr_i hx hb hr hlocks dX9_at_52 (by unfold zAt; rw [zIf_t c8, zIf_t rfl]; exact congrArg zI (hz49.1 (by omega) (by omega)))
    · subst c14
      refine zv_tableIn (a := 1) (tgt := 53) hx hb dX9_at_14 (by omega) (by omega) (by omega) rfl (by decide) ?_
      refine lv_aload_n hx hb dX9_at_53 rfl (lv_at hl 0 rfl) ?_
      refine va_get (D := g.1) (ci := 4) (v := .ref (ad 0)) (C := RX9) (T := TX9) (N := 7) hx hb hts mX9_at_0 hown hK (hX.gx) 0 rfl rfl 0 (by decide) (hts _ mX9_at_1) (fun _ h9 => h9) rfl dX9_at_54 ?_
      refine lv_iload_n hx hb dX9_at_57 rfl (lv_at hl 1 rfl) ?_
      refine zc_S (As := [.ref (ad 0), .int (zI i)]) (rest := []) S hK (kX6_rank l g (ad 0) (ad 1) w n i (by omega)) (va_cwS 2 hts gX9_at_X6_rank rfl rfl rfl (by decide +kernel) ⟨Nat.le_of_ble_eq_true rfl, Nat.le_of_ble_eq_true rfl⟩) ((hX.gw)) rfl hl.1 rfl (Nat.le_of_ble_eq_true rfl) dX9_at_58 ⟨Nat.zero_le _, Nat.zero_le _⟩ (fun r58 hr58 => ?_)
      obtain ⟨z58, rfl, hz58⟩ := hr58
      exact zr_i hx hb hr hlocks dX9_at_61 (by unfold zAt; rw [zIf_t c8, zIf_f (by omega), zIf_t rfl]; exact congrArg zI (hz58.1))
    · subst c14
      refine zv_tableIn (a := 2) (tgt := 62) hx hb dX9_at_14 (by omega) (by omega) (by omega) rfl (by decide) ?_
      refine lv_aload_n hx hb dX9_at_62 rfl (lv_at hl 0 rfl) ?_
      refine va_get (D := g.1) (ci := 4) (v := .ref (ad 0)) (C := RX9) (T := TX9) (N := 7) hx hb hts mX9_at_0 hown hK (hX.gx) 0 rfl rfl 0 (by decide) (hts _ mX9_at_1) (fun _ h9 => h9) rfl dX9_at_63 ?_
      refine lv_iload_n hx hb dX9_at_66 rfl (lv_at hl 1 rfl) ?_
      refine zc_S (As := [.ref (ad 0), .int (zI i)]) (rest := []) S hK (kX4_over l g (ad 0) (ad 1) w n i (by omega)) (va_cwS 2 hts gX9_at_X4_over rfl rfl rfl (by decide +kernel) ⟨Nat.le_of_ble_eq_true rfl, Nat.le_of_ble_eq_true rfl⟩) ((hX.gw)) rfl hl.1 rfl (Nat.le_of_ble_eq_true rfl) dX9_at_67 ⟨Nat.zero_le _, Nat.zero_le _⟩ (fun r67 hr67 => ?_)
      obtain ⟨z67, rfl, hz67⟩ := hr67
      exact zr_i hx hb hr hlocks dX9_at_70 (by unfold zAt; rw [zIf_t c8, zIf_f (by omega), zIf_f (by omega), zIf_t rfl]; exact congrArg zI (hz67.1))
    · subst c14
      refine zv_tableIn (a := 3) (tgt := 71) hx hb dX9_at_14 (by omega) (by omega) (by omega) rfl (by decide) ?_
      refine lv_aload_n hx hb dX9_at_71 rfl (lv_at hl 0 rfl) ?_
      refine va_get (D := g.1) (ci := 4) (v := .ref (ad 0)) (C := RX9) (T := TX9) (N := 7) hx hb hts mX9_at_0 hown hK (hX.gx) 0 rfl rfl 0 (by decide) (hts _ mX9_at_1) (fun _ h9 => h9) rfl dX9_at_72 ?_
      refine lv_iload_n hx hb dX9_at_75 rfl (lv_at hl 1 rfl) ?_
      refine zv_iconst hx hb dX9_at_76 ?_
      refine zv_iadd hx hb dX9_at_77 ?_
      refine zc_S (As := [.ref (ad 0), .int (zI (i + 1))]) (rest := []) S hK (kX5_endingAt l g (ad 0) (ad 1) w n (i + 1) (by omega)) (va_cwS 2 hts gX9_at_X5_endingAt rfl rfl rfl (by decide +kernel) ⟨Nat.le_of_ble_eq_true rfl, Nat.le_of_ble_eq_true rfl⟩) ((hX.gw)) rfl hl.1 rfl (Nat.le_of_ble_eq_true rfl) dX9_at_78 ⟨Nat.zero_le _, Nat.zero_le _⟩ (fun r78 hr78 => ?_)
      obtain ⟨z78, rfl, hz78⟩ := hr78
      exact zr_i hx hb hr hlocks dX9_at_81 (by unfold zAt; rw [zIf_t c8, zIf_f (by omega), zIf_f (by omega), zIf_f (by omega), zIf_t rfl]; exact congrArg zI (hz78.1))
    · refine zv_tableOut (tgt := 82) hx hb dX9_at_14 (by omega) (by omega) (by decide) ?_
      refine zv_bipush hx hb dX9_at_82 (by decide +kernel) ?_
      exact zr_i hx hb hr hlocks dX9_at_84 (by unfold zAt; rw [zIf_t c8, zIf_f (by omega), zIf_f (by omega), zIf_f (by omega), zIf_f (by omega)])
  · refine zv_iconst hx hb dX9_at_11 ?_
    exact zr_i hx hb hr hlocks dX9_at_12 (by unfold zAt; rw [zIf_f c8])

theorem mX9_factor_0 : ∀ w ∈ wsX90, w ∈ wsX9_factor := by decide +kernel
theorem mX9_factor_1 : (Cond.fieldLink RX9 10 "BorderRuns" "word" "LBorderRuns$Word;") ∈ wsX9_factor := by decide +kernel
set_option maxHeartbeats 4000000 in
set_option maxRecDepth 100000 in
/-- X9_factor -/
theorem kX9_factor (l : Launch) (g : zG) (ad : Nat → Nat) (w : Int → Int) (n : Int) (ee : Nat → Int → Int) (en : Nat → Int) (hc : Int) (u : Int → Int) (un hs : Int) (tc : Int → Int) (tn : Int) (i j q : Int) (hi : -2147483648 ≤ i ∧ i < 2147483648) (hj : -2147483648 ≤ j ∧ j < 2147483648) (hq : -2147483648 ≤ q ∧ q < 2147483648) : Met l yX9_factor wsX9_factor (zRm 4 93) (zP g [.ref (ad 16), .int (zI i), .int (zI j), .int (zI q)] (AX g ad w n ee en hc u un hs tc tn)) (vp_Si (fun y => y = zI (aFactor w n i j q))) 0 0 (fun _ => False) := by
  refine Met.ofZ (cc := cX9_factor) (maxL := 5) (ret := (some .int)) (by decide) rfl (Nat.le_of_ble_eq_true rfl) ?_
  intro p e s m args below meth c ls hx hb hr hlocks S hin hK hpic hl
  have hown := S.2.2.2.1
  have hts := S.2.2.2.2
  have hl : lv_has ls 5 [(0, .ref (ad 16)), (1, .int (zI i)), (2, .int (zI j)), (3, .int (zI q))] := hl
  obtain ⟨d, dn, u9, un9, hf, hn, v, vn, nx, pf, ig, bp, hX, hsn, hrg⟩ := hpic
  have hg := hX.grg
  have hn0 := hX.gw.1
  have hd0 := hX.gd.1
  have hu0 := hX.gu.1
  have hv0 := hX.gv.1
  have ht0 := hX.gt.1
  refine lv_aload_n hx hb dX9_factor_0 rfl (lv_at hl 0 rfl) ?_
  refine va_get (D := g.1) (ci := 4) (v := .ref (ad 0)) (C := RX9) (T := TX9) (N := 7) hx hb hts mX9_factor_0 hown hK (hX.gx) 0 rfl rfl 0 (by decide) (hts _ mX9_factor_1) (fun _ h9 => h9) rfl dX9_factor_1 ?_
  refine lv_iload_n hx hb dX9_factor_4 rfl (lv_at hl 1 rfl) ?_
  refine lv_iload_n hx hb dX9_factor_5 rfl (lv_at hl 2 rfl) ?_
  refine zc_V (As := [.int (zI i), .int (zI j)]) (rest := []) S hK (kX8_isFactor l g (ad 0) (ad 1) w n i j (by omega) (by omega)) (cwV 2 hts gX9_factor_X8_isFactor rfl rfl rfl (by decide +kernel) ⟨Nat.le_of_ble_eq_true rfl, Nat.le_of_ble_eq_true rfl⟩) ((hX.gw)) ((hX.gw).recv hK) rfl hl.1 rfl (Nat.le_of_ble_eq_true rfl) dX9_factor_6 ⟨Nat.zero_le _, Nat.zero_le _⟩ (fun r6 hr6 => ?_)
  obtain rfl := hr6
  refine zv_ifB_ne (tgt := 14) hx hb dX9_factor_9 (by decide) (fun c9 => ?_) (fun c9 => ?_)
  · refine lv_iload_n hx hb dX9_factor_14 rfl (lv_at hl 2 rfl) ?_
    refine lv_iload_n hx hb dX9_factor_15 rfl (lv_at hl 1 rfl) ?_
    refine zv_isub hx hb dX9_factor_16 ?_
    refine lv_istore (lv' := [(4, .int (zI (j - i))), (0, .ref (ad 16)), (1, .int (zI i)), (2, .int (zI j)), (3, .int (zI q))]) hx hb dX9_factor_17 hl (by decide) rfl (fun ls hl => ?_)
    refine lv_iload_n hx hb dX9_factor_19 rfl (lv_at hl 4 rfl) ?_
    rcases (show q = 0 ∨ q = 1 ∨ q = 2 ∨ q = 3 ∨ q = 4 ∨ q = 5 ∨ q = 6 ∨ q = 7 ∨ q = 8 ∨ q = 9 ∨ (q < 0 ∨ 9 < q) by omega) with c20 | c20 | c20 | c20 | c20 | c20 | c20 | c20 | c20 | c20 | c20
    · subst c20
      refine zv_tableIn (a := 0) (tgt := 76) hx hb dX9_factor_20 (by omega) (by omega) (by omega) rfl (by decide) ?_
      refine lv_aload_n hx hb dX9_factor_76 rfl (lv_at hl 1 rfl) ?_
      refine va_get (D := g.1) (ci := 4) (v := .ref (ad 0)) (C := RX9) (T := TX9) (N := 7) hx hb hts mX9_factor_0 hown hK (hX.gx) 0 rfl rfl 0 (by decide) (hts _ mX9_factor_1) (fun _ h9 => h9) rfl dX9_factor_77 ?_
      refine lv_iload_n hx hb dX9_factor_80 rfl (lv_at hl 3 rfl) ?_
      refine lv_iload hx hb dX9_factor_81 (lv_at hl 0 rfl) ?_
      refine zc_S (As := [.ref (ad 0), .int (zI j), .int (zI (j - i))]) (rest := []) S hK (kX0_howMany l g (ad 0) (ad 1) w n j (j - i) (by omega)) (va_cwS 3 hts gX9_factor_X0_howMany rfl rfl rfl (by decide +kernel) ⟨Nat.le_of_ble_eq_true rfl, Nat.le_of_ble_eq_true rfl⟩) ((hX.gw)) rfl hl.1 rfl (Nat.le_of_ble_eq_true rfl) dX9_factor_83 ⟨Nat.zero_le _, Nat.zero_le _⟩ (fun r83 hr83 => ?_)
      obtain ⟨z83, rfl, hz83⟩ := hr83
      exact zr_i hx hb hr hlocks dX9_factor_86 (by unfold aFactor zFac; rw [zIf_t c9, zIf_t rfl]; exact congrArg zI hz83.1)
    · subst c20
      refine zv_tableIn (a := 1) (tgt := 87) hx hb dX9_factor_20 (by omega) (by omega) (by omega) rfl (by decide) ?_
      refine lv_aload_n hx hb dX9_factor_87 rfl (lv_at hl 1 rfl) ?_
      refine va_get (D := g.1) (ci := 4) (v := .ref (ad 0)) (C := RX9) (T := TX9) (N := 7) hx hb hts mX9_factor_0 hown hK (hX.gx) 0 rfl rfl 0 (by decide) (hts _ mX9_factor_1) (fun _ h9 => h9) rfl dX9_factor_88 ?_
      refine lv_iload_n hx hb dX9_factor_91 rfl (lv_at hl 3 rfl) ?_
      refine lv_iload hx hb dX9_factor_92 (lv_at hl 0 rfl) ?_
      refine zc_S (As := [.ref (ad 0), .int (zI j), .int (zI (j - i))]) (rest := []) S hK (kX0_first l g (ad 0) (ad 1) w n j (j - i) (by omega)) (va_cwS 3 hts gX9_factor_X0_first rfl rfl rfl (by decide +kernel) ⟨Nat.le_of_ble_eq_true rfl, Nat.le_of_ble_eq_true rfl⟩) ((hX.gw)) rfl hl.1 rfl (Nat.le_of_ble_eq_true rfl) dX9_factor_94 ⟨Nat.zero_le _, Nat.zero_le _⟩ (fun r94 hr94 => ?_)
      obtain ⟨z94, rfl, hz94⟩ := hr94
      exact zr_i hx hb hr hlocks dX9_factor_97 (by unfold aFactor zFac; rw [zIf_t c9, zIf_f (by omega), zIf_t rfl]; exact congrArg zI hz94.1)
    · subst c20
      refine zv_tableIn (a := 2) (tgt := 98) hx hb dX9_factor_20 (by omega) (by omega) (by omega) rfl (by decide) ?_
      refine lv_aload_n hx hb dX9_factor_98 rfl (lv_at hl 1 rfl) ?_
      refine va_get (D := g.1) (ci := 4) (v := .ref (ad 0)) (C := RX9) (T := TX9) (N := 7) hx hb hts mX9_factor_0 hown hK (hX.gx) 0 rfl rfl 0 (by decide) (hts _ mX9_factor_1) (fun _ h9 => h9) rfl dX9_factor_99 ?_
      refine lv_iload_n hx hb dX9_factor_102 rfl (lv_at hl 3 rfl) ?_
      refine lv_iload hx hb dX9_factor_103 (lv_at hl 0 rfl) ?_
      refine zc_S (As := [.ref (ad 0), .int (zI j), .int (zI (j - i))]) (rest := []) S hK (kX0_last l g (ad 0) (ad 1) w n j (j - i) (by omega)) (va_cwS 3 hts gX9_factor_X0_last rfl rfl rfl (by decide +kernel) ⟨Nat.le_of_ble_eq_true rfl, Nat.le_of_ble_eq_true rfl⟩) ((hX.gw)) rfl hl.1 rfl (Nat.le_of_ble_eq_true rfl) dX9_factor_105 ⟨Nat.zero_le _, Nat.zero_le _⟩ (fun r105 hr105 => ?_)
      obtain ⟨z105, rfl, hz105⟩ := hr105
      exact zr_i hx hb hr hlocks dX9_factor_108 (by unfold aFactor zFac; rw [zIf_t c9, zIf_f (by omega), zIf_f (by omega), zIf_t rfl]; exact congrArg zI hz105.1)
    · subst c20
      refine zv_tableIn (a := 3) (tgt := 109) hx hb dX9_factor_20 (by omega) (by omega) (by omega) rfl (by decide) ?_
      refine lv_aload_n hx hb dX9_factor_109 rfl (lv_at hl 1 rfl) ?_
      refine va_get (D := g.1) (ci := 4) (v := .ref (ad 0)) (C := RX9) (T := TX9) (N := 7) hx hb hts mX9_factor_0 hown hK (hX.gx) 0 rfl rfl 0 (by decide) (hts _ mX9_factor_1) (fun _ h9 => h9) rfl dX9_factor_110 ?_
      refine lv_iload_n hx hb dX9_factor_113 rfl (lv_at hl 3 rfl) ?_
      refine lv_iload hx hb dX9_factor_114 (lv_at hl 0 rfl) ?_
      refine zc_S (As := [.ref (ad 0), .int (zI j), .int (zI (j - i))]) (rest := []) S hK (kX0_longestOfClass l g (ad 0) (ad 1) w n j (j - i) (by omega)) (va_cwS 3 hts gX9_factor_X0_longestOfClass rfl rfl rfl (by decide +kernel) ⟨Nat.le_of_ble_eq_true rfl, Nat.le_of_ble_eq_true rfl⟩) ((hX.gw)) rfl hl.1 rfl (Nat.le_of_ble_eq_true rfl) dX9_factor_116 ⟨Nat.zero_le _, Nat.zero_le _⟩ (fun r116 hr116 => ?_)
      obtain ⟨z116, rfl, hz116⟩ := hr116
      exact zr_i hx hb hr hlocks dX9_factor_119 (by unfold aFactor zFac; rw [zIf_t c9, zIf_f (by omega), zIf_f (by omega), zIf_f (by omega), zIf_t rfl]; exact congrArg zI hz116.1)
    · subst c20
      refine zv_tableIn (a := 4) (tgt := 120) hx hb dX9_factor_20 (by omega) (by omega) (by omega) rfl (by decide) ?_
      refine lv_aload_n hx hb dX9_factor_120 rfl (lv_at hl 1 rfl) ?_
      refine va_get (D := g.1) (ci := 4) (v := .ref (ad 0)) (C := RX9) (T := TX9) (N := 7) hx hb hts mX9_factor_0 hown hK (hX.gx) 0 rfl rfl 0 (by decide) (hts _ mX9_factor_1) (fun _ h9 => h9) rfl dX9_factor_121 ?_
      refine lv_iload_n hx hb dX9_factor_124 rfl (lv_at hl 3 rfl) ?_
      refine lv_iload hx hb dX9_factor_125 (lv_at hl 0 rfl) ?_
      refine zc_S (As := [.ref (ad 0), .int (zI j), .int (zI (j - i))]) (rest := []) S hK (kX0_shortestOfClass l g (ad 0) (ad 1) w n j (j - i) (by omega)) (va_cwS 3 hts gX9_factor_X0_shortestOfClass rfl rfl rfl (by decide +kernel) ⟨Nat.le_of_ble_eq_true rfl, Nat.le_of_ble_eq_true rfl⟩) ((hX.gw)) rfl hl.1 rfl (Nat.le_of_ble_eq_true rfl) dX9_factor_127 ⟨Nat.zero_le _, Nat.zero_le _⟩ (fun r127 hr127 => ?_)
      obtain ⟨z127, rfl, hz127⟩ := hr127
      exact zr_i hx hb hr hlocks dX9_factor_130 (by unfold aFactor zFac; rw [zIf_t c9, zIf_f (by omega), zIf_f (by omega), zIf_f (by omega), zIf_f (by omega), zIf_t rfl]; exact congrArg zI hz127.1)
    · subst c20
      refine zv_tableIn (a := 5) (tgt := 131) hx hb dX9_factor_20 (by omega) (by omega) (by omega) rfl (by decide) ?_
      refine lv_aload_n hx hb dX9_factor_131 rfl (lv_at hl 1 rfl) ?_
      refine va_get (D := g.1) (ci := 4) (v := .ref (ad 0)) (C := RX9) (T := TX9) (N := 7) hx hb hts mX9_factor_0 hown hK (hX.gx) 0 rfl rfl 0 (by decide) (hts _ mX9_factor_1) (fun _ h9 => h9) rfl dX9_factor_132 ?_
      refine lv_iload_n hx hb dX9_factor_135 rfl (lv_at hl 3 rfl) ?_
      refine lv_iload hx hb dX9_factor_136 (lv_at hl 0 rfl) ?_
      refine zc_S (As := [.ref (ad 0), .int (zI j), .int (zI (j - i))]) (rest := []) S hK (kX0_longestOfLink l g (ad 0) (ad 1) w n j (j - i) (by omega)) (va_cwS 3 hts gX9_factor_X0_longestOfLink rfl rfl rfl (by decide +kernel) ⟨Nat.le_of_ble_eq_true rfl, Nat.le_of_ble_eq_true rfl⟩) ((hX.gw)) rfl hl.1 rfl (Nat.le_of_ble_eq_true rfl) dX9_factor_138 ⟨Nat.zero_le _, Nat.zero_le _⟩ (fun r138 hr138 => ?_)
      obtain ⟨z138, rfl, hz138⟩ := hr138
      exact zr_i hx hb hr hlocks dX9_factor_141 (by unfold aFactor zFac; rw [zIf_t c9, zIf_f (by omega), zIf_f (by omega), zIf_f (by omega), zIf_f (by omega), zIf_f (by omega), zIf_t rfl]; exact congrArg zI hz138.1)
    · subst c20
      refine zv_tableIn (a := 6) (tgt := 142) hx hb dX9_factor_20 (by omega) (by omega) (by omega) rfl (by decide) ?_
      refine lv_aload_n hx hb dX9_factor_142 rfl (lv_at hl 1 rfl) ?_
      refine va_get (D := g.1) (ci := 4) (v := .ref (ad 0)) (C := RX9) (T := TX9) (N := 7) hx hb hts mX9_factor_0 hown hK (hX.gx) 0 rfl rfl 0 (by decide) (hts _ mX9_factor_1) (fun _ h9 => h9) rfl dX9_factor_143 ?_
      refine lv_iload_n hx hb dX9_factor_146 rfl (lv_at hl 2 rfl) ?_
      refine lv_iload_n hx hb dX9_factor_147 rfl (lv_at hl 3 rfl) ?_
      refine zc_S (As := [.ref (ad 0), .int (zI i), .int (zI j)]) (rest := []) S hK (kX2_least l g (ad 0) (ad 1) w n i j (by omega)) (va_cwS 3 hts gX9_factor_X2_least rfl rfl rfl (by decide +kernel) ⟨Nat.le_of_ble_eq_true rfl, Nat.le_of_ble_eq_true rfl⟩) ((hX.gw)) rfl hl.1 rfl (Nat.le_of_ble_eq_true rfl) dX9_factor_148 ⟨Nat.zero_le _, Nat.zero_le _⟩ (fun r148 hr148 => ?_)
      obtain ⟨z148, rfl, hz148⟩ := hr148
      exact zr_i hx hb hr hlocks dX9_factor_151 (by unfold aFactor zFac; rw [zIf_t c9, zIf_f (by omega), zIf_f (by omega), zIf_f (by omega), zIf_f (by omega), zIf_f (by omega), zIf_f (by omega), zIf_t rfl]; exact congrArg zI hz148.1)
    · subst c20
      refine zv_tableIn (a := 7) (tgt := 152) hx hb dX9_factor_20 (by omega) (by omega) (by omega) rfl (by decide) ?_
      refine lv_aload_n hx hb dX9_factor_152 rfl (lv_at hl 1 rfl) ?_
      refine va_get (D := g.1) (ci := 4) (v := .ref (ad 0)) (C := RX9) (T := TX9) (N := 7) hx hb hts mX9_factor_0 hown hK (hX.gx) 0 rfl rfl 0 (by decide) (hts _ mX9_factor_1) (fun _ h9 => h9) rfl dX9_factor_153 ?_
      refine lv_iload_n hx hb dX9_factor_156 rfl (lv_at hl 2 rfl) ?_
      refine lv_iload_n hx hb dX9_factor_157 rfl (lv_at hl 3 rfl) ?_
      refine zc_S (As := [.ref (ad 0), .int (zI i), .int (zI j)]) (rest := []) S hK (kX2_longestBorder l g (ad 0) (ad 1) w n i j (by omega)) (va_cwS 3 hts gX9_factor_X2_longestBorder rfl rfl rfl (by decide +kernel) ⟨Nat.le_of_ble_eq_true rfl, Nat.le_of_ble_eq_true rfl⟩) ((hX.gw)) rfl hl.1 rfl (Nat.le_of_ble_eq_true rfl) dX9_factor_158 ⟨Nat.zero_le _, Nat.zero_le _⟩ (fun r158 hr158 => ?_)
      obtain ⟨z158, rfl, hz158⟩ := hr158
      exact zr_i hx hb hr hlocks dX9_factor_161 (by unfold aFactor zFac; rw [zIf_t c9, zIf_f (by omega), zIf_f (by omega), zIf_f (by omega), zIf_f (by omega), zIf_f (by omega), zIf_f (by omega), zIf_f (by omega), zIf_t rfl]; exact congrArg zI hz158.1)
    · subst c20
      refine zv_tableIn (a := 8) (tgt := 162) hx hb dX9_factor_20 (by omega) (by omega) (by omega) rfl (by decide) ?_
      refine lv_aload_n hx hb dX9_factor_162 rfl (lv_at hl 1 rfl) ?_
      refine va_get (D := g.1) (ci := 4) (v := .ref (ad 0)) (C := RX9) (T := TX9) (N := 7) hx hb hts mX9_factor_0 hown hK (hX.gx) 0 rfl rfl 0 (by decide) (hts _ mX9_factor_1) (fun _ h9 => h9) rfl dX9_factor_163 ?_
      refine lv_iload_n hx hb dX9_factor_166 rfl (lv_at hl 2 rfl) ?_
      refine lv_iload_n hx hb dX9_factor_167 rfl (lv_at hl 3 rfl) ?_
      refine zc_S (As := [.ref (ad 0), .int (zI i), .int (zI j)]) (rest := []) S hK (kX2_isPrimitive l g (ad 0) (ad 1) w n i j (by omega)) (va_cwS 3 hts gX9_factor_X2_isPrimitive rfl rfl rfl (by decide +kernel) ⟨Nat.le_of_ble_eq_true rfl, Nat.le_of_ble_eq_true rfl⟩) ((hX.gw)) rfl hl.1 rfl (Nat.le_of_ble_eq_true rfl) dX9_factor_168 ⟨Nat.zero_le _, Nat.zero_le _⟩ (fun r168 hr168 => ?_)
      obtain rfl := hr168
      refine zv_ifB_eq (tgt := 178) hx hb dX9_factor_171 (by decide) (fun c171 => ?_) (fun c171 => ?_)
      · refine zv_iconst hx hb dX9_factor_178 ?_
        exact zr_i hx hb hr hlocks dX9_factor_179 (by unfold aFactor zFac; rw [zIf_t c9, zIf_f (by omega), zIf_f (by omega), zIf_f (by omega), zIf_f (by omega), zIf_f (by omega), zIf_f (by omega), zIf_f (by omega), zIf_f (by omega), zIf_t rfl, zB_f c171])
      · refine zv_iconst hx hb dX9_factor_174 ?_
        refine lv_goto (tgt := 179) hx hb dX9_factor_175 (by decide) ?_
        exact zr_i hx hb hr hlocks dX9_factor_179 (by unfold aFactor zFac; rw [zIf_t c9, zIf_f (by omega), zIf_f (by omega), zIf_f (by omega), zIf_f (by omega), zIf_f (by omega), zIf_f (by omega), zIf_f (by omega), zIf_f (by omega), zIf_t rfl, zB_t c171])
    · subst c20
      refine zv_tableIn (a := 9) (tgt := 180) hx hb dX9_factor_20 (by omega) (by omega) (by omega) rfl (by decide) ?_
      refine lv_aload_n hx hb dX9_factor_180 rfl (lv_at hl 1 rfl) ?_
      refine va_get (D := g.1) (ci := 4) (v := .ref (ad 0)) (C := RX9) (T := TX9) (N := 7) hx hb hts mX9_factor_0 hown hK (hX.gx) 0 rfl rfl 0 (by decide) (hts _ mX9_factor_1) (fun _ h9 => h9) rfl dX9_factor_181 ?_
      refine lv_iload_n hx hb dX9_factor_184 rfl (lv_at hl 2 rfl) ?_
      refine lv_iload_n hx hb dX9_factor_185 rfl (lv_at hl 3 rfl) ?_
      refine zc_S (As := [.ref (ad 0), .int (zI i), .int (zI j)]) (rest := []) S hK (kX2_hundredfoldPower l g (ad 0) (ad 1) w n i j (by omega)) (va_cwS 3 hts gX9_factor_X2_hundredfoldPower rfl rfl rfl (by decide +kernel) ⟨Nat.le_of_ble_eq_true rfl, Nat.le_of_ble_eq_true rfl⟩) ((hX.gw)) rfl hl.1 rfl (Nat.le_of_ble_eq_true rfl) dX9_factor_186 ⟨Nat.zero_le _, Nat.zero_le _⟩ (fun r186 hr186 => ?_)
      obtain ⟨z186, rfl, hz186⟩ := hr186
      exact zr_i hx hb hr hlocks dX9_factor_189 (by unfold aFactor zFac; rw [zIf_t c9, zIf_f (by omega), zIf_f (by omega), zIf_f (by omega), zIf_f (by omega), zIf_f (by omega), zIf_f (by omega), zIf_f (by omega), zIf_f (by omega), zIf_f (by omega), zIf_t rfl]; exact congrArg zI hz186)
    · refine zv_tableOut (tgt := 190) hx hb dX9_factor_20 (by omega) (by omega) (by decide) ?_
      refine zv_bipush hx hb dX9_factor_190 (by decide +kernel) ?_
      exact zr_i hx hb hr hlocks dX9_factor_192 (by unfold aFactor zFac; rw [zIf_t c9, zIf_f (by omega), zIf_f (by omega), zIf_f (by omega), zIf_f (by omega), zIf_f (by omega), zIf_f (by omega), zIf_f (by omega), zIf_f (by omega), zIf_f (by omega), zIf_f (by omega)])
  · refine zv_iconst hx hb dX9_factor_12 ?_
    exact zr_i hx hb hr hlocks dX9_factor_13 (by unfold aFactor; rw [zIf_f c9])

theorem mX9_alike_0 : ∀ w ∈ wsX90, w ∈ wsX9_alike := by decide +kernel
theorem mX9_alike_1 : (Cond.fieldLink RX9 10 "BorderRuns" "word" "LBorderRuns$Word;") ∈ wsX9_alike := by decide +kernel
set_option maxHeartbeats 4000000 in
set_option maxRecDepth 100000 in
/-- X9_alike -/
theorem kX9_alike (l : Launch) (g : zG) (ad : Nat → Nat) (w : Int → Int) (n : Int) (ee : Nat → Int → Int) (en : Nat → Int) (hc : Int) (u : Int → Int) (un hs : Int) (tc : Int → Int) (tn : Int) (i j : Int) (hi : -2147483648 ≤ i ∧ i < 2147483648) (hj : -2147483648 ≤ j ∧ j < 2147483648) : Met l yX9_alike wsX9_alike (zRm 2 45) (zP g [.ref (ad 16), .int (zI i), .int (zI j)] (AX g ad w n ee en hc u un hs tc tn)) (vp_Si (fun y => y = zI (aAlike w n i j))) 0 0 (fun _ => False) := by
  refine Met.ofZ (cc := cX9_alike) (maxL := 3) (ret := (some .int)) (by decide) rfl (Nat.le_of_ble_eq_true rfl) ?_
  intro p e s m args below meth c ls hx hb hr hlocks S hin hK hpic hl
  have hown := S.2.2.2.1
  have hts := S.2.2.2.2
  have hl : lv_has ls 3 [(0, .ref (ad 16)), (1, .int (zI i)), (2, .int (zI j))] := hl
  obtain ⟨d, dn, u9, un9, hf, hn, v, vn, nx, pf, ig, bp, hX, hsn, hrg⟩ := hpic
  have hg := hX.grg
  have hn0 := hX.gw.1
  have hd0 := hX.gd.1
  have hu0 := hX.gu.1
  have hv0 := hX.gv.1
  have ht0 := hX.gt.1
  refine lv_aload_n hx hb dX9_alike_0 rfl (lv_at hl 0 rfl) ?_
  refine va_get (D := g.1) (ci := 4) (v := .ref (ad 0)) (C := RX9) (T := TX9) (N := 7) hx hb hts mX9_alike_0 hown hK (hX.gx) 0 rfl rfl 0 (by decide) (hts _ mX9_alike_1) (fun _ h9 => h9) rfl dX9_alike_1 ?_
  refine lv_iload_n hx hb dX9_alike_4 rfl (lv_at hl 1 rfl) ?_
  refine zc_V (As := [.int (zI i)]) (rest := []) S hK (kX8_isPlace l g (ad 0) (ad 1) w n i (by omega)) (cwV 1 hts gX9_alike_X8_isPlace rfl rfl rfl (by decide +kernel) ⟨Nat.le_of_ble_eq_true rfl, Nat.le_of_ble_eq_true rfl⟩) ((hX.gw)) ((hX.gw).recv hK) rfl hl.1 rfl (Nat.le_of_ble_eq_true rfl) dX9_alike_5 ⟨Nat.zero_le _, Nat.zero_le _⟩ (fun r5 hr5 => ?_)
  obtain rfl := hr5
  refine zv_ifB_eq (tgt := 22) hx hb dX9_alike_8 (by decide) (fun c8 => ?_) (fun c8 => ?_)
  · refine zv_iconst hx hb dX9_alike_22 ?_
    exact zr_i hx hb hr hlocks dX9_alike_23 (by unfold aAlike; rw [zIf_f (by omega)])
  · refine lv_aload_n hx hb dX9_alike_11 rfl (lv_at hl 0 rfl) ?_
    refine va_get (D := g.1) (ci := 4) (v := .ref (ad 0)) (C := RX9) (T := TX9) (N := 7) hx hb hts mX9_alike_0 hown hK (hX.gx) 0 rfl rfl 0 (by decide) (hts _ mX9_alike_1) (fun _ h9 => h9) rfl dX9_alike_12 ?_
    refine lv_iload_n hx hb dX9_alike_15 rfl (lv_at hl 2 rfl) ?_
    refine zc_V (As := [.int (zI j)]) (rest := []) S hK (kX8_isPlace l g (ad 0) (ad 1) w n j (by omega)) (cwV 1 hts gX9_alike_X8_isPlace rfl rfl rfl (by decide +kernel) ⟨Nat.le_of_ble_eq_true rfl, Nat.le_of_ble_eq_true rfl⟩) ((hX.gw)) ((hX.gw).recv hK) rfl hl.1 rfl (Nat.le_of_ble_eq_true rfl) dX9_alike_16 ⟨Nat.zero_le _, Nat.zero_le _⟩ (fun r16 hr16 => ?_)
    obtain rfl := hr16
    refine zv_ifB_ne (tgt := 24) hx hb dX9_alike_19 (by decide) (fun c19 => ?_) (fun c19 => ?_)
    · refine lv_aload_n hx hb dX9_alike_24 rfl (lv_at hl 0 rfl) ?_
      refine va_get (D := g.1) (ci := 4) (v := .ref (ad 0)) (C := RX9) (T := TX9) (N := 7) hx hb hts mX9_alike_0 hown hK (hX.gx) 0 rfl rfl 0 (by decide) (hts _ mX9_alike_1) (fun _ h9 => h9) rfl dX9_alike_25 ?_
      refine lv_iload_n hx hb dX9_alike_28 rfl (lv_at hl 1 rfl) ?_
      refine lv_iload_n hx hb dX9_alike_29 rfl (lv_at hl 2 rfl) ?_
      refine zc_V (As := [.int (zI i), .int (zI j)]) (rest := []) S hK (kX8_alikeFrom l g (ad 0) (ad 1) w n i j (by omega) (by omega)) (cwV 2 hts gX9_alike_X8_alikeFrom rfl rfl rfl (by decide +kernel) ⟨Nat.le_of_ble_eq_true rfl, Nat.le_of_ble_eq_true rfl⟩) ((hX.gw)) ((hX.gw).recv hK) rfl hl.1 rfl (Nat.le_of_ble_eq_true rfl) dX9_alike_30 ⟨Nat.zero_le _, Nat.zero_le _⟩ (fun r30 hr30 => ?_)
      obtain ⟨z30, rfl, hz30⟩ := hr30
      exact zr_i hx hb hr hlocks dX9_alike_33 (by unfold aAlike; rw [zIf_t ⟨c8, c19⟩]; exact congrArg zI (hz30.1))
    · refine zv_iconst hx hb dX9_alike_22 ?_
      exact zr_i hx hb hr hlocks dX9_alike_23 (by unfold aAlike; rw [zIf_f (by omega)])

theorem mX9_suffix_0 : ∀ w ∈ wsX90, w ∈ wsX9_suffix := by decide +kernel
theorem mX9_suffix_1 : (Cond.fieldLink RX9 10 "BorderRuns" "word" "LBorderRuns$Word;") ∈ wsX9_suffix := by decide +kernel
set_option maxHeartbeats 4000000 in
set_option maxRecDepth 100000 in
/-- X9_suffix -/
theorem kX9_suffix (l : Launch) (g : zG) (ad : Nat → Nat) (w : Int → Int) (n : Int) (ee : Nat → Int → Int) (en : Nat → Int) (hc : Int) (u : Int → Int) (un hs : Int) (tc : Int → Int) (tn : Int) (r : Int) (hr0 : -2147483648 ≤ r ∧ r < 2147483648) : Met l yX9_suffix wsX9_suffix (zRm 5 113) (zP g [.ref (ad 16), .int (zI r)] (AX g ad w n ee en hc u un hs tc tn)) (vp_Si (fun y => y = zI (aSuffix w n r))) 0 0 (fun _ => False) := by
  refine Met.ofZ (cc := cX9_suffix) (maxL := 2) (ret := (some .int)) (by decide) rfl (Nat.le_of_ble_eq_true rfl) ?_
  intro p e s m args below meth c ls hx hb hr hlocks S hin hK hpic hl
  have hown := S.2.2.2.1
  have hts := S.2.2.2.2
  have hl : lv_has ls 2 [(0, .ref (ad 16)), (1, .int (zI r))] := hl
  obtain ⟨d, dn, u9, un9, hf, hn, v, vn, nx, pf, ig, bp, hX, hsn, hrg⟩ := hpic
  have hg := hX.grg
  have hn0 := hX.gw.1
  have hd0 := hX.gd.1
  have hu0 := hX.gu.1
  have hv0 := hX.gv.1
  have ht0 := hX.gt.1
  refine lv_iload_n hx hb dX9_suffix_0 rfl (lv_at hl 1 rfl) ?_
  refine zv_if_ge (tgt := 7) hx hb dX9_suffix_1 (by decide) (by omega) (fun c1 => ?_) (fun c1 => ?_)
  · refine lv_aload_n hx hb dX9_suffix_7 rfl (lv_at hl 0 rfl) ?_
    refine va_get (D := g.1) (ci := 4) (v := .ref (ad 0)) (C := RX9) (T := TX9) (N := 7) hx hb hts mX9_suffix_0 hown hK (hX.gx) 0 rfl rfl 0 (by decide) (hts _ mX9_suffix_1) (fun _ h9 => h9) rfl dX9_suffix_8 ?_
    refine lv_iload_n hx hb dX9_suffix_11 rfl (lv_at hl 1 rfl) ?_
    refine zc_S (As := [.ref (ad 0), .int (zI r)]) (rest := []) S hK (kX6_placeOf l g (ad 0) (ad 1) w n r (by omega)) (va_cwS 2 hts gX9_suffix_X6_placeOf rfl rfl rfl (by decide +kernel) ⟨Nat.le_of_ble_eq_true rfl, Nat.le_of_ble_eq_true rfl⟩) ((hX.gw)) rfl hl.1 rfl (Nat.le_of_ble_eq_true rfl) dX9_suffix_12 ⟨Nat.zero_le _, Nat.zero_le _⟩ (fun r12 hr12 => ?_)
    obtain ⟨z12, rfl, hz12⟩ := hr12
    exact zr_i hx hb hr hlocks dX9_suffix_15 (by unfold aSuffix; rw [zIf_f (by omega)]; exact congrArg zI (hz12.1))
  · refine zv_bipush hx hb dX9_suffix_4 (by decide +kernel) ?_
    exact zr_i hx hb hr hlocks dX9_suffix_6 (by unfold aSuffix; rw [zIf_t (by omega)])

theorem mX9_square_0 : ∀ w ∈ wsX90, w ∈ wsX9_square := by decide +kernel
theorem mX9_square_1 : (Cond.fieldLink RX9 10 "BorderRuns" "word" "LBorderRuns$Word;") ∈ wsX9_square := by decide +kernel
set_option maxHeartbeats 4000000 in
set_option maxRecDepth 100000 in
/-- X9_square -/
theorem kX9_square (l : Launch) (g : zG) (ad : Nat → Nat) (w : Int → Int) (n : Int) (ee : Nat → Int → Int) (en : Nat → Int) (hc : Int) (u : Int → Int) (un hs : Int) (tc : Int → Int) (tn : Int) (r q : Int) (hr0 : -2147483648 ≤ r ∧ r < 2147483648) (hq : -2147483648 ≤ q ∧ q < 2147483648) : Met l yX9_square wsX9_square (zRm 4 92) (zP g [.ref (ad 16), .int (zI r), .int (zI q)] (AX g ad w n ee en hc u un hs tc tn)) (vp_Si (fun y => y = zI (aSquare w n r q))) 0 0 (fun _ => False) := by
  refine Met.ofZ (cc := cX9_square) (maxL := 3) (ret := (some .int)) (by decide) rfl (Nat.le_of_ble_eq_true rfl) ?_
  intro p e s m args below meth c ls hx hb hr hlocks S hin hK hpic hl
  have hown := S.2.2.2.1
  have hts := S.2.2.2.2
  have hl : lv_has ls 3 [(0, .ref (ad 16)), (1, .int (zI r)), (2, .int (zI q))] := hl
  obtain ⟨d, dn, u9, un9, hf, hn, v, vn, nx, pf, ig, bp, hX, hsn, hrg⟩ := hpic
  have hg := hX.grg
  have hn0 := hX.gw.1
  have hd0 := hX.gd.1
  have hu0 := hX.gu.1
  have hv0 := hX.gv.1
  have ht0 := hX.gt.1
  refine lv_iload_n hx hb dX9_square_0 rfl (lv_at hl 1 rfl) ?_
  refine zv_if_lt (tgt := 13) hx hb dX9_square_1 (by decide) (by omega) (fun c1 => ?_) (fun c1 => ?_)
  · refine zv_bipush hx hb dX9_square_13 (by decide +kernel) ?_
    exact zr_i hx hb hr hlocks dX9_square_15 (by unfold aSquare; rw [zIf_f (by omega)])
  · refine lv_iload_n hx hb dX9_square_4 rfl (lv_at hl 2 rfl) ?_
    refine zv_if_lt (tgt := 13) hx hb dX9_square_5 (by decide) (by omega) (fun c5 => ?_) (fun c5 => ?_)
    · refine zv_bipush hx hb dX9_square_13 (by decide +kernel) ?_
      exact zr_i hx hb hr hlocks dX9_square_15 (by unfold aSquare; rw [zIf_f (by omega)])
    · refine lv_iload_n hx hb dX9_square_8 rfl (lv_at hl 2 rfl) ?_
      refine zv_iconst hx hb dX9_square_9 ?_
      refine zv_icmp_le (tgt := 16) hx hb dX9_square_10 (by decide) (by omega) (by omega) (fun c10 => ?_) (fun c10 => ?_)
      · refine lv_aload_n hx hb dX9_square_16 rfl (lv_at hl 0 rfl) ?_
        refine va_get (D := g.1) (ci := 4) (v := .ref (ad 0)) (C := RX9) (T := TX9) (N := 7) hx hb hts mX9_square_0 hown hK (hX.gx) 0 rfl rfl 0 (by decide) (hts _ mX9_square_1) (fun _ h9 => h9) rfl dX9_square_17 ?_
        refine lv_iload_n hx hb dX9_square_20 rfl (lv_at hl 1 rfl) ?_
        refine lv_iload_n hx hb dX9_square_21 rfl (lv_at hl 2 rfl) ?_
        refine zc_S (As := [.ref (ad 0), .int (zI r), .int (zI q)]) (rest := []) S hK (kX5_ranked l g (ad 0) (ad 1) w n r q (by omega) (by omega)) (va_cwS 3 hts gX9_square_X5_ranked rfl rfl rfl (by decide +kernel) ⟨Nat.le_of_ble_eq_true rfl, Nat.le_of_ble_eq_true rfl⟩) ((hX.gw)) rfl hl.1 rfl (Nat.le_of_ble_eq_true rfl) dX9_square_22 ⟨Nat.zero_le _, Nat.zero_le _⟩ (fun r22 hr22 => ?_)
        obtain ⟨z22, rfl, hz22⟩ := hr22
        exact zr_i hx hb hr hlocks dX9_square_25 (by unfold aSquare; rw [zIf_t (by omega)]; exact congrArg zI (hz22.1))
      · refine zv_bipush hx hb dX9_square_13 (by decide +kernel) ?_
        exact zr_i hx hb hr hlocks dX9_square_15 (by unfold aSquare; rw [zIf_f (by omega)])

theorem mX9_run_0 : ∀ w ∈ wsX90, w ∈ wsX9_run := by decide +kernel
theorem mX9_run_1 : (Cond.fieldLink RX9 10 "BorderRuns" "word" "LBorderRuns$Word;") ∈ wsX9_run := by decide +kernel
set_option maxHeartbeats 4000000 in
set_option maxRecDepth 100000 in
/-- X9_run -/
theorem kX9_run (l : Launch) (g : zG) (ad : Nat → Nat) (w : Int → Int) (n : Int) (ee : Nat → Int → Int) (en : Nat → Int) (hc : Int) (u : Int → Int) (un hs : Int) (tc : Int → Int) (tn : Int) (r q : Int) (hr0 : -2147483648 ≤ r ∧ r < 2147483648) (hq : -2147483648 ≤ q ∧ q < 2147483648) : Met l yX9_run wsX9_run (zRm 5 121) (zP g [.ref (ad 16), .int (zI r), .int (zI q)] (AX g ad w n ee en hc u un hs tc tn)) (vp_Si (fun y => y = zI (aRun w n r q))) 0 0 (fun _ => False) := by
  refine Met.ofZ (cc := cX9_run) (maxL := 3) (ret := (some .int)) (by decide) rfl (Nat.le_of_ble_eq_true rfl) ?_
  intro p e s m args below meth c ls hx hb hr hlocks S hin hK hpic hl
  have hown := S.2.2.2.1
  have hts := S.2.2.2.2
  have hl : lv_has ls 3 [(0, .ref (ad 16)), (1, .int (zI r)), (2, .int (zI q))] := hl
  obtain ⟨d, dn, u9, un9, hf, hn, v, vn, nx, pf, ig, bp, hX, hsn, hrg⟩ := hpic
  have hg := hX.grg
  have hn0 := hX.gw.1
  have hd0 := hX.gd.1
  have hu0 := hX.gu.1
  have hv0 := hX.gv.1
  have ht0 := hX.gt.1
  refine lv_iload_n hx hb dX9_run_0 rfl (lv_at hl 1 rfl) ?_
  refine zv_if_lt (tgt := 13) hx hb dX9_run_1 (by decide) (by omega) (fun c1 => ?_) (fun c1 => ?_)
  · refine zv_bipush hx hb dX9_run_13 (by decide +kernel) ?_
    exact zr_i hx hb hr hlocks dX9_run_15 (by unfold aRun; rw [zIf_f (by omega)])
  · refine lv_iload_n hx hb dX9_run_4 rfl (lv_at hl 2 rfl) ?_
    refine zv_if_lt (tgt := 13) hx hb dX9_run_5 (by decide) (by omega) (fun c5 => ?_) (fun c5 => ?_)
    · refine zv_bipush hx hb dX9_run_13 (by decide +kernel) ?_
      exact zr_i hx hb hr hlocks dX9_run_15 (by unfold aRun; rw [zIf_f (by omega)])
    · refine lv_iload_n hx hb dX9_run_8 rfl (lv_at hl 2 rfl) ?_
      refine zv_iconst hx hb dX9_run_9 ?_
      refine zv_icmp_le (tgt := 16) hx hb dX9_run_10 (by decide) (by omega) (by omega) (fun c10 => ?_) (fun c10 => ?_)
      · refine lv_aload_n hx hb dX9_run_16 rfl (lv_at hl 0 rfl) ?_
        refine va_get (D := g.1) (ci := 4) (v := .ref (ad 0)) (C := RX9) (T := TX9) (N := 7) hx hb hts mX9_run_0 hown hK (hX.gx) 0 rfl rfl 0 (by decide) (hts _ mX9_run_1) (fun _ h9 => h9) rfl dX9_run_17 ?_
        refine lv_iload_n hx hb dX9_run_20 rfl (lv_at hl 1 rfl) ?_
        refine lv_iload_n hx hb dX9_run_21 rfl (lv_at hl 2 rfl) ?_
        refine zc_S (As := [.ref (ad 0), .int (zI r), .int (zI q)]) (rest := []) S hK (kX4_ranked l g (ad 0) (ad 1) w n r q (by omega) (by omega)) (va_cwS 3 hts gX9_run_X4_ranked rfl rfl rfl (by decide +kernel) ⟨Nat.le_of_ble_eq_true rfl, Nat.le_of_ble_eq_true rfl⟩) ((hX.gw)) rfl hl.1 rfl (Nat.le_of_ble_eq_true rfl) dX9_run_22 ⟨Nat.zero_le _, Nat.zero_le _⟩ (fun r22 hr22 => ?_)
        obtain ⟨z22, rfl, hz22⟩ := hr22
        exact zr_i hx hb hr hlocks dX9_run_25 (by unfold aRun; rw [zIf_t (by omega)]; exact congrArg zI (hz22.1))
      · refine zv_bipush hx hb dX9_run_13 (by decide +kernel) ?_
        exact zr_i hx hb hr hlocks dX9_run_15 (by unfold aRun; rw [zIf_f (by omega)])

theorem mX9_unlike_0 : ∀ w ∈ wsX90, w ∈ wsX9_unlike := by decide +kernel
theorem mX9_unlike_1 : (Cond.fieldLink RX9 10 "BorderRuns" "word" "LBorderRuns$Word;") ∈ wsX9_unlike := by decide +kernel
set_option maxHeartbeats 4000000 in
set_option maxRecDepth 100000 in
/-- X9_unlike -/
theorem kX9_unlike (l : Launch) (g : zG) (ad : Nat → Nat) (w : Int → Int) (n : Int) (ee : Nat → Int → Int) (en : Nat → Int) (hc : Int) (u : Int → Int) (un hs : Int) (tc : Int → Int) (tn : Int) (i : Int) (hi : -2147483648 ≤ i ∧ i < 2147483648) : Met l yX9_unlike wsX9_unlike (zRm 5 112) (zP g [.ref (ad 16), .int (zI i)] (AX g ad w n ee en hc u un hs tc tn)) (vp_Si (fun y => y = zI (aUnlike w n i))) 0 0 (fun _ => False) := by
  refine Met.ofZ (cc := cX9_unlike) (maxL := 2) (ret := (some .int)) (by decide) rfl (Nat.le_of_ble_eq_true rfl) ?_
  intro p e s m args below meth c ls hx hb hr hlocks S hin hK hpic hl
  have hown := S.2.2.2.1
  have hts := S.2.2.2.2
  have hl : lv_has ls 2 [(0, .ref (ad 16)), (1, .int (zI i))] := hl
  obtain ⟨d, dn, u9, un9, hf, hn, v, vn, nx, pf, ig, bp, hX, hsn, hrg⟩ := hpic
  have hg := hX.grg
  have hn0 := hX.gw.1
  have hd0 := hX.gd.1
  have hu0 := hX.gu.1
  have hv0 := hX.gv.1
  have ht0 := hX.gt.1
  refine lv_iload_n hx hb dX9_unlike_0 rfl (lv_at hl 1 rfl) ?_
  refine zv_if_lt (tgt := 15) hx hb dX9_unlike_1 (by decide) (by omega) (fun c1 => ?_) (fun c1 => ?_)
  · refine zv_iconst hx hb dX9_unlike_15 ?_
    exact zr_i hx hb hr hlocks dX9_unlike_16 (by unfold aUnlike; rw [zIf_f (by omega)])
  · refine lv_iload_n hx hb dX9_unlike_4 rfl (lv_at hl 1 rfl) ?_
    refine lv_aload_n hx hb dX9_unlike_5 rfl (lv_at hl 0 rfl) ?_
    refine va_get (D := g.1) (ci := 4) (v := .ref (ad 0)) (C := RX9) (T := TX9) (N := 7) hx hb hts mX9_unlike_0 hown hK (hX.gx) 0 rfl rfl 0 (by decide) (hts _ mX9_unlike_1) (fun _ h9 => h9) rfl dX9_unlike_6 ?_
    refine zc_V (As := []) (rest := [.int (zI i)]) S hK (kX8_length l g (ad 0) (ad 1) w n) (cwV 0 hts gX9_unlike_X8_length rfl rfl rfl (by decide +kernel) ⟨Nat.le_of_ble_eq_true rfl, Nat.le_of_ble_eq_true rfl⟩) ((hX.gw)) ((hX.gw).recv hK) rfl hl.1 rfl (Nat.le_of_ble_eq_true rfl) dX9_unlike_9 ⟨Nat.zero_le _, Nat.zero_le _⟩ (fun r9 hr9 => ?_)
    obtain rfl := hr9
    refine zv_icmp_le (tgt := 17) hx hb dX9_unlike_12 (by decide) (by omega) (by omega) (fun c12 => ?_) (fun c12 => ?_)
    · refine lv_aload_n hx hb dX9_unlike_17 rfl (lv_at hl 0 rfl) ?_
      refine va_get (D := g.1) (ci := 4) (v := .ref (ad 0)) (C := RX9) (T := TX9) (N := 7) hx hb hts mX9_unlike_0 hown hK (hX.gx) 0 rfl rfl 0 (by decide) (hts _ mX9_unlike_1) (fun _ h9 => h9) rfl dX9_unlike_18 ?_
      refine lv_iload_n hx hb dX9_unlike_21 rfl (lv_at hl 1 rfl) ?_
      refine zc_S (As := [.ref (ad 0), .int (zI i)]) (rest := []) S hK (kX0_unlikeFactors l g (ad 0) (ad 1) w n i (by omega)) (va_cwS 2 hts gX9_unlike_X0_unlikeFactors rfl rfl rfl (by decide +kernel) ⟨Nat.le_of_ble_eq_true rfl, Nat.le_of_ble_eq_true rfl⟩) ((hX.gw)) rfl hl.1 rfl (Nat.le_of_ble_eq_true rfl) dX9_unlike_22 ⟨Nat.zero_le _, Nat.zero_le _⟩ (fun r22 hr22 => ?_)
      obtain ⟨z22, rfl, hz22⟩ := hr22
      exact zr_i hx hb hr hlocks dX9_unlike_25 (by unfold aUnlike; rw [zIf_t (by omega)]; exact congrArg zI (hz22.1))
    · refine zv_iconst hx hb dX9_unlike_15 ?_
      exact zr_i hx hb hr hlocks dX9_unlike_16 (by unfold aUnlike; rw [zIf_f (by omega)])

theorem mX9_broughtBy_0 : ∀ w ∈ wsX90, w ∈ wsX9_broughtBy := by decide +kernel
theorem mX9_broughtBy_1 : (Cond.fieldLink RX9 16 "BorderRuns" "draft" "LBorderRuns$Word;") ∈ wsX9_broughtBy := by decide +kernel
set_option maxHeartbeats 4000000 in
set_option maxRecDepth 100000 in
/-- broughtBy -/
theorem kX9_broughtBy (l : Launch) (g : zG) (ad : Nat → Nat) (w : Int → Int) (n : Int) (d : Int → Int) (dn : Int) (u : Int → Int) (un : Int) (hf : Nat → Int → Int) (hn : Nat → Int) (v : Int → Int) (vn hs nx hd tn pf ig bp : Int) (tc : Int → Int) (x q : Int) (hx0 : 0 ≤ x ∧ x ≤ 25) (hq : 0 ≤ q ∧ q ≤ 3) (hn40 : n < 40) : Met l yX9_broughtBy wsX9_broughtBy (zRm 5 116) (zP g [.ref (ad 16), .int (zI x), .int (zI q)] (PX g ad w n d dn u un hf hn v vn hs nx hd tn pf ig bp tc)) (zQi (fun r H => ∃ z : Int, r = zI z ∧ z = zBr w n x q ∧ 0 ≤ z ∧ z ≤ 3000 ∧ PX g ad w n (zApp w n x) (n + 1) u un hf hn v vn hs nx hd tn pf ig bp tc H) (zAx ad)) 0 0 (zAx ad) := by
  refine Met.ofZ (cc := cX9_broughtBy) (maxL := 4) (ret := (some .int)) (by decide) rfl (Nat.le_of_ble_eq_true rfl) ?_
  intro p e s m args below meth c ls hx hb hr hlocks S hin hK hpic hl
  have hown := S.2.2.2.1
  have hts := S.2.2.2.2
  have hl : lv_has ls 4 [(0, .ref (ad 16)), (1, .int (zI x)), (2, .int (zI q))] := hl
  have hX := hpic
  have hg := hX.grg
  have hn0 := hX.gw.1
  have hd0 := hX.gd.1
  have hu0 := hX.gu.1
  have hv0 := hX.gv.1
  have ht0 := hX.gt.1
  have hS : va_S (zAx ad) s.heap s.heap [] := va_S.rf
  refine lv_aload_n hx hb dX9_broughtBy_0 rfl (lv_at hl 0 rfl) ?_
  refine lv_iload_n hx hb dX9_broughtBy_1 rfl (lv_at hl 1 rfl) ?_
  refine zc_VWv (As := [.int (zI x)]) (rest := []) S hK (kX9_draftWith l g ad w n d dn u un hf hn v vn hs nx hd tn pf ig bp tc x (by omega) (by omega)) (cwV 1 hts gX9_broughtBy_X9_draftWith rfl rfl rfl (by decide +kernel) ⟨Nat.le_of_ble_eq_true rfl, Nat.le_of_ble_eq_true rfl⟩) (hX) (hX.recvx hK) rfl hl.1 rfl (Nat.le_of_ble_eq_true rfl) dX9_broughtBy_2 ⟨Nat.zero_le _, Nat.zero_le _⟩ hS (fun q h => h) (fun H1 locs hp hz hk hS => ?_)
  have hX := hp
  refine lv_aload_n hx hb dX9_broughtBy_5 rfl (lv_at hl 0 rfl) ?_
  refine va_get (D := g.1) (ci := 4) (v := .ref (ad 2)) (C := RX9) (T := TX9) (N := 7) hx hb hts mX9_broughtBy_0 hown hK (hX.gx) 0 rfl rfl 1 (by decide) (hts _ mX9_broughtBy_1) (fun _ h9 => h9) rfl dX9_broughtBy_6 ?_
  refine zc_V (As := []) (rest := []) S hK (kX8_length l g (ad 2) (ad 3) (zApp w n x) (n + 1)) (cwV 0 hts gX9_broughtBy_X8_length rfl rfl rfl (by decide +kernel) ⟨Nat.le_of_ble_eq_true rfl, Nat.le_of_ble_eq_true rfl⟩) ((hX.gd)) ((hX.gd).recv hK) rfl hl.1 rfl (Nat.le_of_ble_eq_true rfl) dX9_broughtBy_9 ⟨Nat.zero_le _, Nat.zero_le _⟩ (fun r9 hr9 => ?_)
  obtain rfl := hr9
  refine lv_istore_n (lv' := [(3, .int (zI (n + 1))), (0, .ref (ad 16)), (1, .int (zI x)), (2, .int (zI q))]) hx hb dX9_broughtBy_12 rfl hl (by decide) rfl (fun ls hl => ?_)
  refine lv_iload_n hx hb dX9_broughtBy_13 rfl (lv_at hl 3 rfl) ?_
  rcases (show q = 0 ∨ q = 1 ∨ q = 2 ∨ (q < 0 ∨ 2 < q) by omega) with c14 | c14 | c14 | c14
  · subst c14
    refine zv_tableIn (a := 0) (tgt := 40) hx hb dX9_broughtBy_14 (by omega) (by omega) (by omega) rfl (by decide) ?_
    refine lv_aload_n hx hb dX9_broughtBy_40 rfl (lv_at hl 1 rfl) ?_
    refine va_get (D := g.1) (ci := 4) (v := .ref (ad 2)) (C := RX9) (T := TX9) (N := 7) hx hb hts mX9_broughtBy_0 hown hK (hX.gx) 0 rfl rfl 1 (by decide) (hts _ mX9_broughtBy_1) (fun _ h9 => h9) rfl dX9_broughtBy_41 ?_
    refine zv_iconst hx hb dX9_broughtBy_44 ?_
    refine lv_iload_n hx hb dX9_broughtBy_45 rfl (lv_at hl 0 rfl) ?_
    refine zc_S (As := [.ref (ad 2), .int (zI 0), .int (zI (n + 1))]) (rest := []) S hK (kX2_longestBorder l g (ad 2) (ad 3) (zApp w n x) (n + 1) 0 (n + 1) (by omega)) (va_cwS 3 hts gX9_broughtBy_X2_longestBorder rfl rfl rfl (by decide +kernel) ⟨Nat.le_of_ble_eq_true rfl, Nat.le_of_ble_eq_true rfl⟩) ((hX.gd)) rfl hl.1 rfl (Nat.le_of_ble_eq_true rfl) dX9_broughtBy_46 ⟨Nat.zero_le _, Nat.zero_le _⟩ (fun r46 hr46 => ?_)
    obtain ⟨z46, rfl, hz46⟩ := hr46
    exact zw_i hx hb hr hlocks hS dX9_broughtBy_49 (⟨_, rfl, by unfold zBr; rw [zIf_t rfl]; exact (hz46.1.trans (by rw [show n + 1 - 0 = n + 1 by omega])), by omega, by omega, hX⟩)
  · subst c14
    refine zv_tableIn (a := 1) (tgt := 50) hx hb dX9_broughtBy_14 (by omega) (by omega) (by omega) rfl (by decide) ?_
    refine lv_aload_n hx hb dX9_broughtBy_50 rfl (lv_at hl 1 rfl) ?_
    refine va_get (D := g.1) (ci := 4) (v := .ref (ad 2)) (C := RX9) (T := TX9) (N := 7) hx hb hts mX9_broughtBy_0 hown hK (hX.gx) 0 rfl rfl 1 (by decide) (hts _ mX9_broughtBy_1) (fun _ h9 => h9) rfl dX9_broughtBy_51 ?_
    refine lv_iload_n hx hb dX9_broughtBy_54 rfl (lv_at hl 0 rfl) ?_
    refine zc_S (As := [.ref (ad 2), .int (zI (n + 1))]) (rest := []) S hK (kX0_endingFirstAt l g (ad 2) (ad 3) (zApp w n x) (n + 1) (n + 1) (by omega)) (va_cwS 2 hts gX9_broughtBy_X0_endingFirstAt rfl rfl rfl (by decide +kernel) ⟨Nat.le_of_ble_eq_true rfl, Nat.le_of_ble_eq_true rfl⟩) ((hX.gd)) rfl hl.1 rfl (Nat.le_of_ble_eq_true rfl) dX9_broughtBy_55 ⟨Nat.zero_le _, Nat.zero_le _⟩ (fun r55 hr55 => ?_)
    obtain ⟨z55, rfl, hz55⟩ := hr55
    exact zw_i hx hb hr hlocks hS dX9_broughtBy_58 (⟨_, rfl, by unfold zBr; rw [zIf_f (by omega), zIf_t rfl]; exact hz55.1, by omega, by omega, hX⟩)
  · subst c14
    refine zv_tableIn (a := 2) (tgt := 59) hx hb dX9_broughtBy_14 (by omega) (by omega) (by omega) rfl (by decide) ?_
    refine lv_aload_n hx hb dX9_broughtBy_59 rfl (lv_at hl 1 rfl) ?_
    refine va_get (D := g.1) (ci := 4) (v := .ref (ad 2)) (C := RX9) (T := TX9) (N := 7) hx hb hts mX9_broughtBy_0 hown hK (hX.gx) 0 rfl rfl 1 (by decide) (hts _ mX9_broughtBy_1) (fun _ h9 => h9) rfl dX9_broughtBy_60 ?_
    refine lv_iload_n hx hb dX9_broughtBy_63 rfl (lv_at hl 0 rfl) ?_
    refine zc_S (As := [.ref (ad 2), .int (zI (n + 1))]) (rest := []) S hK (kX5_endingAt l g (ad 2) (ad 3) (zApp w n x) (n + 1) (n + 1) (by omega)) (va_cwS 2 hts gX9_broughtBy_X5_endingAt rfl rfl rfl (by decide +kernel) ⟨Nat.le_of_ble_eq_true rfl, Nat.le_of_ble_eq_true rfl⟩) ((hX.gd)) rfl hl.1 rfl (Nat.le_of_ble_eq_true rfl) dX9_broughtBy_64 ⟨Nat.zero_le _, Nat.zero_le _⟩ (fun r64 hr64 => ?_)
    obtain ⟨z64, rfl, hz64⟩ := hr64
    exact zw_i hx hb hr hlocks hS dX9_broughtBy_67 (⟨_, rfl, by unfold zBr; rw [zIf_f (by omega), zIf_f (by omega), zIf_t rfl]; exact hz64.1, by omega, by omega, hX⟩)
  · refine zv_tableOut (tgt := 68) hx hb dX9_broughtBy_14 (by omega) (by omega) (by decide) ?_
    refine lv_aload_n hx hb dX9_broughtBy_68 rfl (lv_at hl 1 rfl) ?_
    refine va_get (D := g.1) (ci := 4) (v := .ref (ad 2)) (C := RX9) (T := TX9) (N := 7) hx hb hts mX9_broughtBy_0 hown hK (hX.gx) 0 rfl rfl 1 (by decide) (hts _ mX9_broughtBy_1) (fun _ h9 => h9) rfl dX9_broughtBy_69 ?_
    refine zc_S (As := [.ref (ad 2)]) (rest := []) S hK (kX4_total l g (ad 2) (ad 3) (zApp w n x) (n + 1)  ) (va_cwS 1 hts gX9_broughtBy_X4_total rfl rfl rfl (by decide +kernel) ⟨Nat.le_of_ble_eq_true rfl, Nat.le_of_ble_eq_true rfl⟩) ((hX.gd)) rfl hl.1 rfl (Nat.le_of_ble_eq_true rfl) dX9_broughtBy_72 ⟨Nat.zero_le _, Nat.zero_le _⟩ (fun r72 hr72 => ?_)
    obtain ⟨z72, rfl, hz72⟩ := hr72
    exact zw_i hx hb hr hlocks hS dX9_broughtBy_75 (⟨_, rfl, by unfold zBr; rw [zIf_f (by omega), zIf_f (by omega), zIf_f (by omega)]; exact hz72.1, by omega, by omega, hX⟩)

theorem mX9_ifLetter_0 : ∀ w ∈ wsX90, w ∈ wsX9_ifLetter := by decide +kernel
theorem mX9_ifLetter_1 : (Cond.fieldLink RX9 10 "BorderRuns" "word" "LBorderRuns$Word;") ∈ wsX9_ifLetter := by decide +kernel
set_option maxHeartbeats 4000000 in
set_option maxRecDepth 100000 in
/-- X9_ifLetter -/
theorem kX9_ifLetter (l : Launch) (g : zG) (ad : Nat → Nat) (w : Int → Int) (n : Int) (ee : Nat → Int → Int) (en : Nat → Int) (hc : Int) (u : Int → Int) (un hs : Int) (tc : Int → Int) (tn : Int) (x q : Int) (hx0 : -2147483648 ≤ x ∧ x < 2147483648) (hq : -2147483648 ≤ q ∧ q < 2147483648) : Met l yX9_ifLetter wsX9_ifLetter (zRm 6 139) (zP g [.ref (ad 16), .int (zI x), .int (zI q)] (AX g ad w n ee en hc u un hs tc tn)) (zQi (fun r H => r = zI (aIf w n x q) ∧ AX g ad w n ee en hc u un hs tc tn H) (zAx ad)) 0 0 (zAx ad) := by
  refine Met.ofZ (cc := cX9_ifLetter) (maxL := 3) (ret := (some .int)) (by decide) rfl (Nat.le_of_ble_eq_true rfl) ?_
  intro p e s m args below meth c ls hx hb hr hlocks S hin hK hpic hl
  have hown := S.2.2.2.1
  have hts := S.2.2.2.2
  have hl : lv_has ls 3 [(0, .ref (ad 16)), (1, .int (zI x)), (2, .int (zI q))] := hl
  obtain ⟨d, dn, u9, un9, hf, hn, v, vn, nx, pf, ig, bp, hX, hsn, hrg⟩ := hpic
  have hg := hX.grg
  have hn0 := hX.gw.1
  have hd0 := hX.gd.1
  have hu0 := hX.gu.1
  have hv0 := hX.gv.1
  have ht0 := hX.gt.1
  have hS : va_S (zAx ad) s.heap s.heap [] := va_S.rf
  refine lv_iload_n hx hb dX9_ifLetter_0 rfl (lv_at hl 1 rfl) ?_
  refine zc_S (As := [.int (zI x)]) (rest := []) S hK (kX9_isLetter l g x (by omega)) (va_cwS 1 hts gX9_ifLetter_X9_isLetter rfl rfl rfl (by decide +kernel) ⟨Nat.le_of_ble_eq_true rfl, Nat.le_of_ble_eq_true rfl⟩) (trivial) rfl hl.1 rfl (Nat.le_of_ble_eq_true rfl) dX9_ifLetter_1 ⟨Nat.zero_le _, Nat.zero_le _⟩ (fun r1 hr1 => ?_)
  obtain rfl := hr1
  refine zv_ifB_eq (tgt := 14) hx hb dX9_ifLetter_4 (by decide) (fun c4 => ?_) (fun c4 => ?_)
  · refine zv_bipush hx hb dX9_ifLetter_14 (by decide +kernel) ?_
    exact zw_i hx hb hr hlocks hS dX9_ifLetter_16 (⟨by unfold aIf; rw [zIf_f (by omega)], AX.of hX hsn hrg⟩)
  · refine lv_iload_n hx hb dX9_ifLetter_7 rfl (lv_at hl 2 rfl) ?_
    refine zc_S (As := [.int (zI q)]) (rest := []) S hK (kX9_isBrought l g q (by omega)) (va_cwS 1 hts gX9_ifLetter_X9_isBrought rfl rfl rfl (by decide +kernel) ⟨Nat.le_of_ble_eq_true rfl, Nat.le_of_ble_eq_true rfl⟩) (trivial) rfl hl.1 rfl (Nat.le_of_ble_eq_true rfl) dX9_ifLetter_8 ⟨Nat.zero_le _, Nat.zero_le _⟩ (fun r8 hr8 => ?_)
    obtain rfl := hr8
    refine zv_ifB_ne (tgt := 17) hx hb dX9_ifLetter_11 (by decide) (fun c11 => ?_) (fun c11 => ?_)
    · refine lv_aload_n hx hb dX9_ifLetter_17 rfl (lv_at hl 0 rfl) ?_
      refine va_get (D := g.1) (ci := 4) (v := .ref (ad 0)) (C := RX9) (T := TX9) (N := 7) hx hb hts mX9_ifLetter_0 hown hK (hX.gx) 0 rfl rfl 0 (by decide) (hts _ mX9_ifLetter_1) (fun _ h9 => h9) rfl dX9_ifLetter_18 ?_
      refine zc_V (As := []) (rest := []) S hK (kX8_isFull l g (ad 0) (ad 1) w n  ) (cwV 0 hts gX9_ifLetter_X8_isFull rfl rfl rfl (by decide +kernel) ⟨Nat.le_of_ble_eq_true rfl, Nat.le_of_ble_eq_true rfl⟩) ((hX.gw)) ((hX.gw).recv hK) rfl hl.1 rfl (Nat.le_of_ble_eq_true rfl) dX9_ifLetter_21 ⟨Nat.zero_le _, Nat.zero_le _⟩ (fun r21 hr21 => ?_)
      obtain rfl := hr21
      refine zv_ifB_eq (tgt := 30) hx hb dX9_ifLetter_24 (by decide) (fun c24 => ?_) (fun c24 => ?_)
      · refine lv_aload_n hx hb dX9_ifLetter_30 rfl (lv_at hl 0 rfl) ?_
        refine lv_iload_n hx hb dX9_ifLetter_31 rfl (lv_at hl 1 rfl) ?_
        refine lv_iload_n hx hb dX9_ifLetter_32 rfl (lv_at hl 2 rfl) ?_
        refine zc_VWi (As := [.int (zI x), .int (zI q)]) (rest := []) S hK (kX9_broughtBy l g ad w n d dn u9 un9 hf hn v vn hs nx hc tn pf ig bp tc x q (by omega) (by omega) (by omega)) (cwV 2 hts gX9_ifLetter_X9_broughtBy rfl rfl rfl (by decide +kernel) ⟨Nat.le_of_ble_eq_true rfl, Nat.le_of_ble_eq_true rfl⟩) (hX) (hX.recvx hK) rfl hl.1 rfl (Nat.le_of_ble_eq_true rfl) dX9_ifLetter_33 ⟨Nat.zero_le _, Nat.zero_le _⟩ hS (fun q h => h) (fun r33 H1 locs hp hz hk hS => ?_)
        obtain ⟨z33, rfl, hz33, hy33, hw33, hX⟩ := hp
        exact zw_i hx hb hr hlocks hS dX9_ifLetter_36 (⟨by unfold aIf; rw [zIf_t ⟨c4, c11⟩, zIf_f c24, hz33], AX.of hX hsn hrg⟩)
      · refine zv_bipush hx hb dX9_ifLetter_27 (by decide +kernel) ?_
        exact zw_i hx hb hr hlocks hS dX9_ifLetter_29 (⟨by unfold aIf; rw [zIf_t ⟨c4, c11⟩, zIf_t c24], AX.of hX hsn hrg⟩)
    · refine zv_bipush hx hb dX9_ifLetter_14 (by decide +kernel) ?_
      exact zw_i hx hb hr hlocks hS dX9_ifLetter_16 (⟨by unfold aIf; rw [zIf_f (by omega)], AX.of hX hsn hrg⟩)

theorem mX9_bestLetter_0 : ∀ w ∈ wsX90, w ∈ wsX9_bestLetter := by decide +kernel
theorem mX9_bestLetter_1 : (Cond.fieldLink RX9 10 "BorderRuns" "word" "LBorderRuns$Word;") ∈ wsX9_bestLetter := by decide +kernel
set_option maxHeartbeats 4000000 in
set_option maxRecDepth 100000 in
/-- X9_bestLetter -/
theorem kX9_bestLetter (l : Launch) (g : zG) (ad : Nat → Nat) (w : Int → Int) (n : Int) (ee : Nat → Int → Int) (en : Nat → Int) (hc : Int) (u : Int → Int) (un hs : Int) (tc : Int → Int) (tn : Int) (q : Int) (hq : -2147483648 ≤ q ∧ q < 2147483648) : Met l yX9_bestLetter wsX9_bestLetter (zRm 6 139) (zP g [.ref (ad 16), .int (zI q)] (AX g ad w n ee en hc u un hs tc tn)) (zQi (fun r H => r = zI (aBest w n q) ∧ AX g ad w n ee en hc u un hs tc tn H) (zAx ad)) 0 0 (zAx ad) := by
  refine Met.ofZ (cc := cX9_bestLetter) (maxL := 6) (ret := (some .int)) (by decide) rfl (Nat.le_of_ble_eq_true rfl) ?_
  intro p e s m args below meth c ls hx hb hr hlocks S hin hK hpic hl
  have hown := S.2.2.2.1
  have hts := S.2.2.2.2
  have hl : lv_has ls 6 [(0, .ref (ad 16)), (1, .int (zI q))] := hl
  obtain ⟨d, dn, u9, un9, hf, hn, v, vn, nx, pf, ig, bp, hX, hsn, hrg⟩ := hpic
  have hg := hX.grg
  have hn0 := hX.gw.1
  have hd0 := hX.gd.1
  have hu0 := hX.gu.1
  have hv0 := hX.gv.1
  have ht0 := hX.gt.1
  have hS : va_S (zAx ad) s.heap s.heap [] := va_S.rf
  refine lv_iload_n hx hb dX9_bestLetter_0 rfl (lv_at hl 1 rfl) ?_
  refine zc_S (As := [.int (zI q)]) (rest := []) S hK (kX9_isBrought l g q (by omega)) (va_cwS 1 hts gX9_bestLetter_X9_isBrought rfl rfl rfl (by decide +kernel) ⟨Nat.le_of_ble_eq_true rfl, Nat.le_of_ble_eq_true rfl⟩) (trivial) rfl hl.1 rfl (Nat.le_of_ble_eq_true rfl) dX9_bestLetter_1 ⟨Nat.zero_le _, Nat.zero_le _⟩ (fun r1 hr1 => ?_)
  obtain rfl := hr1
  refine zv_ifB_ne (tgt := 10) hx hb dX9_bestLetter_4 (by decide) (fun c4 => ?_) (fun c4 => ?_)
  · refine lv_aload_n hx hb dX9_bestLetter_10 rfl (lv_at hl 0 rfl) ?_
    refine va_get (D := g.1) (ci := 4) (v := .ref (ad 0)) (C := RX9) (T := TX9) (N := 7) hx hb hts mX9_bestLetter_0 hown hK (hX.gx) 0 rfl rfl 0 (by decide) (hts _ mX9_bestLetter_1) (fun _ h9 => h9) rfl dX9_bestLetter_11 ?_
    refine zc_V (As := []) (rest := []) S hK (kX8_isFull l g (ad 0) (ad 1) w n  ) (cwV 0 hts gX9_bestLetter_X8_isFull rfl rfl rfl (by decide +kernel) ⟨Nat.le_of_ble_eq_true rfl, Nat.le_of_ble_eq_true rfl⟩) ((hX.gw)) ((hX.gw).recv hK) rfl hl.1 rfl (Nat.le_of_ble_eq_true rfl) dX9_bestLetter_14 ⟨Nat.zero_le _, Nat.zero_le _⟩ (fun r14 hr14 => ?_)
    obtain rfl := hr14
    refine zv_ifB_eq (tgt := 23) hx hb dX9_bestLetter_17 (by decide) (fun c17 => ?_) (fun c17 => ?_)
    · refine zv_iconst hx hb dX9_bestLetter_23 ?_
      refine lv_istore_n (lv' := [(2, .int (zI 0)), (0, .ref (ad 16)), (1, .int (zI q))]) hx hb dX9_bestLetter_24 rfl hl (by decide) rfl (fun ls hl => ?_)
      refine lv_aload_n hx hb dX9_bestLetter_25 rfl (lv_at hl 1 rfl) ?_
      refine lv_iload_n hx hb dX9_bestLetter_26 rfl (lv_at hl 0 rfl) ?_
      refine lv_iload_n hx hb dX9_bestLetter_27 rfl (lv_at hl 2 rfl) ?_
      refine zc_VWi (As := [.int (zI 0), .int (zI q)]) (rest := []) S hK (kX9_broughtBy l g ad w n d dn u9 un9 hf hn v vn hs nx hc tn pf ig bp tc 0 q (by omega) (by omega) (by omega)) (cwV 2 hts gX9_bestLetter_X9_broughtBy rfl rfl rfl (by decide +kernel) ⟨Nat.le_of_ble_eq_true rfl, Nat.le_of_ble_eq_true rfl⟩) (hX) (hX.recvx hK) rfl hl.1 rfl (Nat.le_of_ble_eq_true rfl) dX9_bestLetter_28 ⟨Nat.zero_le _, Nat.zero_le _⟩ hS (fun q h => h) (fun r28 H1 locs hp hz hk hS => ?_)
      obtain ⟨z28, rfl, hz28, hy28, hw28, hX⟩ := hp
      refine lv_istore_n (lv' := [(3, .int (zI z28)), (2, .int (zI 0)), (0, .ref (ad 16)), (1, .int (zI q))]) hx hb dX9_bestLetter_31 rfl hl (by decide) rfl (fun ls hl => ?_)
      refine zv_iconst hx hb dX9_bestLetter_32 ?_
      refine lv_istore (lv' := [(4, .int (zI 1)), (3, .int (zI z28)), (2, .int (zI 0)), (0, .ref (ad 16)), (1, .int (zI q))]) hx hb dX9_bestLetter_33 hl (by decide) rfl (fun ls hl => ?_)
      have lp35 : ∀ (z_f : Nat) (b : Int) (o : Int) (k : Int) (d1 : Int → Int) (dn1 : Int) (H1 : Heap) (locs : List Loc), (1 ≤ k ∧ k ≤ 26 ∧ 0 ≤ b ∧ b < k ∧ 0 ≤ o ∧ o ≤ 3000) → (b = zBst (fun x => zBr w n x q) k) → (o = zBr w n b q) → (PX g ad w n d1 dn1 u9 un9 hf hn v vn hs nx hc tn pf ig bp tc H1) → (va_S (zAx ad) s.heap H1 locs) → ((26 - k).toNat) < z_f → ∀ (ls : Array Slot), lv_has ls 6 [(0, .ref (ad 16)), (1, .int (zI q)), (2, .int (zI b)), (3, .int (zI o)), (4, .int (zI k))] → W p l e (zRm 6 139) s m args below meth c H1 locs 0 0 (MQ below (zQi (fun r H => r = zI (aBest w n q) ∧ AX g ad w n ee en hc u un hs tc tn H) (zAx ad)) args s 0 0 (zAx ad)) (F0 m 35 ls []) := by
        intro z_f
        induction z_f with
        | zero => intro b o k d1 dn1 H1 locs h0 h1 h2 hX hS z_m; exact absurd z_m (Nat.not_lt_zero _)
        | succ z_f ih35 =>
          intro b o k d1 dn1 H1 locs h0 h1 h2 hX hS z_m35 ls hl
          refine lv_iload hx hb dX9_bestLetter_35 (lv_at hl 4 rfl) ?_
          refine zv_bipush hx hb dX9_bestLetter_37 (by decide +kernel) ?_
          refine zv_icmp_ge (tgt := 69) hx hb dX9_bestLetter_39 (by decide) (by omega) (by omega) (fun c39 => ?_) (fun c39 => ?_)
          · have e9 : b = zBst (fun x => zBr w n x q) 26 := by rw [h1, show k = 26 by omega]
            refine lv_iload_n hx hb dX9_bestLetter_69 rfl (lv_at hl 2 rfl) ?_
            exact zw_i hx hb hr hlocks hS dX9_bestLetter_70 (⟨by unfold aBest; rw [zIf_t c4, zIf_f c17, ← e9], AX.of hX hsn hrg⟩)
          · refine lv_aload_n hx hb dX9_bestLetter_42 rfl (lv_at hl 0 rfl) ?_
            refine lv_iload hx hb dX9_bestLetter_43 (lv_at hl 4 rfl) ?_
            refine lv_iload_n hx hb dX9_bestLetter_45 rfl (lv_at hl 1 rfl) ?_
            refine zc_VWi (As := [.int (zI k), .int (zI q)]) (rest := []) S hK (kX9_broughtBy l g ad w n d1 dn1 u9 un9 hf hn v vn hs nx hc tn pf ig bp tc k q (by omega) (by omega) (by omega)) (cwV 2 hts gX9_bestLetter_X9_broughtBy rfl rfl rfl (by decide +kernel) ⟨Nat.le_of_ble_eq_true rfl, Nat.le_of_ble_eq_true rfl⟩) (hX) (hX.recvx hK) rfl hl.1 rfl (Nat.le_of_ble_eq_true rfl) dX9_bestLetter_46 ⟨Nat.zero_le _, Nat.zero_le _⟩ hS (fun q h => h) (fun r46 H1 locs hp hz hk hS => ?_)
            obtain ⟨z46, rfl, hz46, hy46, hw46, hX⟩ := hp
            refine lv_istore (lv' := [(5, .int (zI z46)), (0, .ref (ad 16)), (1, .int (zI q)), (2, .int (zI b)), (3, .int (zI o)), (4, .int (zI k))]) hx hb dX9_bestLetter_49 hl (by decide) rfl (fun ls hl => ?_)
            refine lv_iload hx hb dX9_bestLetter_51 (lv_at hl 0 rfl) ?_
            refine lv_iload_n hx hb dX9_bestLetter_53 rfl (lv_at hl 4 rfl) ?_
            refine zv_icmp_le (tgt := 63) hx hb dX9_bestLetter_54 (by decide) (by omega) (by omega) (fun c54 => ?_) (fun c54 => ?_)
            · refine zv_iinc (lv' := [(4, .int (zI (k + 1))), (5, .int (zI z46)), (0, .ref (ad 16)), (1, .int (zI q)), (2, .int (zI b)), (3, .int (zI o))]) hx hb dX9_bestLetter_63 hl (k := 5) rfl (by decide) rfl (fun ls hl => ?_)
              refine lv_goto (tgt := 35) hx hb dX9_bestLetter_66 (by decide) ?_
              exact ih35 b o (k + 1) (zApp w n k) (n + 1) _ _ (by omega) (h1.trans (zBst_f (f := (fun x => zBr w n x q)) (by omega) (by show ¬ zBr w n (zBst (fun x => zBr w n x q) k) q < zBr w n k q; rw [← h1]; omega)).symm) (h2) (hX) (hS) (by omega) _ (lv_sub hl [2, 3, 4, 5, 0] rfl)
            · refine lv_iload hx hb dX9_bestLetter_57 (lv_at hl 5 rfl) ?_
              refine lv_istore_n (lv' := [(2, .int (zI k)), (5, .int (zI z46)), (0, .ref (ad 16)), (1, .int (zI q)), (3, .int (zI o)), (4, .int (zI k))]) hx hb dX9_bestLetter_59 rfl hl (by decide) rfl (fun ls hl => ?_)
              refine lv_iload hx hb dX9_bestLetter_60 (lv_at hl 1 rfl) ?_
              refine lv_istore_n (lv' := [(3, .int (zI z46)), (2, .int (zI k)), (5, .int (zI z46)), (0, .ref (ad 16)), (1, .int (zI q)), (4, .int (zI k))]) hx hb dX9_bestLetter_62 rfl hl (by decide) rfl (fun ls hl => ?_)
              refine zv_iinc (lv' := [(4, .int (zI (k + 1))), (3, .int (zI z46)), (2, .int (zI k)), (5, .int (zI z46)), (0, .ref (ad 16)), (1, .int (zI q))]) hx hb dX9_bestLetter_63 hl (k := 5) rfl (by decide) rfl (fun ls hl => ?_)
              refine lv_goto (tgt := 35) hx hb dX9_bestLetter_66 (by decide) ?_
              exact ih35 k z46 (k + 1) (zApp w n k) (n + 1) _ _ (by omega) ((zBst_t (f := (fun x => zBr w n x q)) (by omega) (by show zBr w n (zBst (fun x => zBr w n x q) k) q < zBr w n k q; rw [← h1]; omega)).symm) (hz46) (hX) (hS) (by omega) _ (lv_sub hl [4, 5, 2, 1, 0] rfl)
      exact lp35 _ 0 z28 1 (zApp w n 0) (n + 1) _ _ (by omega) (rfl) (hz28) (hX) (hS) (Nat.lt_succ_self _) _ (lv_sub hl [3, 4, 2, 1, 0] rfl)
    · refine zv_bipush hx hb dX9_bestLetter_20 (by decide +kernel) ?_
      exact zw_i hx hb hr hlocks hS dX9_bestLetter_22 (⟨by unfold aBest; rw [zIf_t c4, zIf_t c17], AX.of hX hsn hrg⟩)
  · refine zv_bipush hx hb dX9_bestLetter_7 (by decide +kernel) ?_
    exact zw_i hx hb hr hlocks hS dX9_bestLetter_9 (⟨by unfold aBest; rw [zIf_f c4], AX.of hX hsn hrg⟩)

theorem mX10_add_0 : ∀ w ∈ wsX100, w ∈ wsX10_add := by decide +kernel
theorem mX10_add_1 : (Cond.fieldLink RX10 7 "BorderRunsModel" "s" "[I") ∈ wsX10_add := by decide +kernel
set_option maxHeartbeats 4000000 in
set_option maxRecDepth 100000 in
/-- X10_add -/
theorem kX10_add (l : Launch) (g : zG) (y sa ta oa : Nat) (w : Int → Int) (n : Int) (ee : Nat → Int → Int) (en : Nat → Int) (hc : Int) (u : Int → Int) (un hs : Int) (tc : Int → Int) (tn : Int) (x : Int) (hx0 : -2147483648 ≤ x ∧ x < 2147483648) : Met l yX10_add wsX10_add (zRm 3 72) (zP g [.ref y, .int (zI x)] (AM g y sa ta oa w n ee en hc u un hs tc tn)) (zQi (fun r H => r = zI (sAdd w n ee en hc u un hs tc tn x).1 ∧ AMt g y sa ta oa (sAdd w n ee en hc u un hs tc tn x).2 H) (zA4 y sa ta oa)) 0 0 (zA4 y sa ta oa) := by
  refine Met.ofZ (cc := cX10_add) (maxL := 2) (ret := (some .int)) (by decide) rfl (Nat.le_of_ble_eq_true rfl) ?_
  intro p e s m args below meth c ls hx hb hr hlocks S hin hK hpic hl
  have hown := S.2.2.2.1
  have hts := S.2.2.2.2
  have hl : lv_has ls 2 [(0, .ref y), (1, .int (zI x))] := hl
  obtain ⟨f, gt, od, hX, hm, hgt⟩ := hpic
  have hR := hX.rg
  have hsl := hm.1
  have hs0 := hsl.1
  have hn := hsl.2.1
  have hS : va_S (zA4 y sa ta oa) s.heap s.heap [] := va_S.rf
  refine lv_iload_n hx hb dX10_add_0 rfl (lv_at hl 1 rfl) ?_
  refine zv_iconst hx hb dX10_add_1 ?_
  refine zv_bipush hx hb dX10_add_2 (by decide +kernel) ?_
  refine zc_S (As := [.int (zI x), .int (zI 0), .int (zI 25)]) (rest := []) S hK (kX10_in l g x 0 25 (by omega) (by omega) (by omega)) (va_cwS 3 hts gX10_add_X10_in rfl rfl rfl (by decide +kernel) ⟨Nat.le_of_ble_eq_true rfl, Nat.le_of_ble_eq_true rfl⟩) (trivial) rfl hl.1 rfl (Nat.le_of_ble_eq_true rfl) dX10_add_4 ⟨Nat.zero_le _, Nat.zero_le _⟩ (fun r4 hr4 => ?_)
  obtain rfl := hr4
  refine zv_ifB_ne (tgt := 13) hx hb dX10_add_7 (by decide) (fun c7 => ?_) (fun c7 => ?_)
  · refine lv_aload_n hx hb dX10_add_13 rfl (lv_at hl 0 rfl) ?_
    refine va_get (D := g.1) (ci := 5) (v := .ref sa) (C := RX10) (T := TX10) (N := 6) hx hb hts mX10_add_0 hown hK (hX.gy) 0 rfl rfl 0 (by decide) (hts _ mX10_add_1) (fun _ h9 => h9) rfl dX10_add_14 ?_
    refine zv_iconst hx hb dX10_add_17 ?_
    refine zy_ild hx hb hK hX (by omega) dX10_add_18 ?_
    refine zv_bipush hx hb dX10_add_19 (by decide +kernel) ?_
    refine zv_icmp_ne (tgt := 27) hx hb dX10_add_21 (by decide) (by omega) (by omega) (fun c21 => ?_) (fun c21 => ?_)
    · refine lv_aload_n hx hb dX10_add_27 rfl (lv_at hl 0 rfl) ?_
      refine zc_VWv (As := []) (rest := []) S hK (kX10_records l g y sa ta oa f gt od hc hs tn) (cwV 0 hts gX10_add_X10_records rfl rfl rfl (by decide +kernel) ⟨Nat.le_of_ble_eq_true rfl, Nat.le_of_ble_eq_true rfl⟩) (hX) (hX.recv hK) rfl hl.1 rfl (Nat.le_of_ble_eq_true rfl) dX10_add_28 ⟨Nat.zero_le _, Nat.zero_le _⟩ hS (fun _ h9 => h9) (fun H1 locs hp hz hk hS => ?_)
      obtain ⟨f28, sv28, es28, hX, ha28, hb28, hc28, hd28⟩ := hp
      have hm := hm.push hR.1 es28 ha28 hb28 hc28 hd28
      subst es28
      have hR := hX.rg
      have hsl := hm.1
      have hs0 := hsl.1
      refine lv_aload_n hx hb dX10_add_31 rfl (lv_at hl 0 rfl) ?_
      refine va_get (D := g.1) (ci := 5) (v := .ref sa) (C := RX10) (T := TX10) (N := 6) hx hb hts mX10_add_0 hown hK (hX.gy) 0 rfl rfl 0 (by decide) (hts _ mX10_add_1) (fun _ h9 => h9) rfl dX10_add_32 ?_
      refine zv_iconst hx hb dX10_add_35 ?_
      refine lv_dup2_11 hx hb dX10_add_36 rfl rfl ?_
      refine zy_ild hx hb hK hX (by omega) dX10_add_37 ?_
      refine zv_iconst hx hb dX10_add_38 ?_
      refine zv_iadd hx hb dX10_add_39 ?_
      refine zy_ist hx hb hK hX hS (by omega) (by omega) dX10_add_40 (fun H1 locs hX hS => ?_)
      obtain ⟨f40, e40⟩ : ∃ z9, z9 = zApp f28 0 ((f28 0) + 1) := ⟨_, rfl⟩
      rw [← e40] at hX
      have r40 : f40 0 = (f28 0) + 1 := by rw [e40]; exact zApp_eq _ _ _
      have q40 : ∀ x9, x9 ≠ 0 → f40 x9 = f28 x9 := fun x9 h => by rw [e40]; exact zApp_ne h
      have l40 : f40 0 = n + 1 := by omega
      refine lv_aload_n hx hb dX10_add_41 rfl (lv_at hl 0 rfl) ?_
      refine va_get (D := g.1) (ci := 5) (v := .ref sa) (C := RX10) (T := TX10) (N := 6) hx hb hts mX10_add_0 hown hK (hX.gy) 0 rfl rfl 0 (by decide) (hts _ mX10_add_1) (fun _ h9 => h9) rfl dX10_add_42 ?_
      refine lv_aload_n hx hb dX10_add_45 rfl (lv_at hl 0 rfl) ?_
      refine va_get (D := g.1) (ci := 5) (v := .ref sa) (C := RX10) (T := TX10) (N := 6) hx hb hts mX10_add_0 hown hK (hX.gy) 0 rfl rfl 0 (by decide) (hts _ mX10_add_1) (fun _ h9 => h9) rfl dX10_add_46 ?_
      refine zv_iconst hx hb dX10_add_49 ?_
      refine zy_ild hx hb hK hX (by omega) dX10_add_50 ?_
      refine lv_iload_n hx hb dX10_add_51 rfl (lv_at hl 1 rfl) ?_
      refine zy_ist hx hb hK hX hS (by omega) (by omega) dX10_add_52 (fun H1 locs hX hS => ?_)
      obtain ⟨f52, e52⟩ : ∃ z9, z9 = zApp f40 (f40 0) x := ⟨_, rfl⟩
      rw [← e52] at hX
      have r52 : f52 (f40 0) = x := by rw [e52]; exact zApp_eq _ _ _
      have q52 : ∀ x9, x9 ≠ f40 0 → f52 x9 = f40 x9 := fun x9 h => by rw [e52]; exact zApp_ne h
      have l52 : f52 0 = n + 1 := by rw [q52 0 (by omega)]; exact l40
      have sl2 : SL f52 0 (zApp w n x) (n + 1) := hsl.app (by omega) (by omega) l52 (by rw [show (0 : Int) + 1 + n = f40 0 by omega]; exact r52) (fun k a b => by rw [q52 k (by omega), q40 k (by omega)])
      have hm := hm.set0 (f2 := f52) hR.1 (fun k a b => by rw [q52 k (by omega), q40 k (by omega)]) sl2
      refine lv_aload_n hx hb dX10_add_53 rfl (lv_at hl 0 rfl) ?_
      refine zv_iconst hx hb dX10_add_54 ?_
      refine zv_iconst hx hb dX10_add_55 ?_
      refine lv_aload_n hx hb dX10_add_56 rfl (lv_at hl 0 rfl) ?_
      refine va_get (D := g.1) (ci := 5) (v := .ref sa) (C := RX10) (T := TX10) (N := 6) hx hb hts mX10_add_0 hown hK (hX.gy) 0 rfl rfl 0 (by decide) (hts _ mX10_add_1) (fun _ h9 => h9) rfl dX10_add_57 ?_
      refine zv_iconst hx hb dX10_add_60 ?_
      refine zy_ild hx hb hK hX (by omega) dX10_add_61 ?_
      refine lv_aload_n hx hb dX10_add_62 rfl (lv_at hl 0 rfl) ?_
      refine va_get (D := g.1) (ci := 5) (v := .ref sa) (C := RX10) (T := TX10) (N := 6) hx hb hts mX10_add_0 hown hK (hX.gy) 0 rfl rfl 0 (by decide) (hts _ mX10_add_1) (fun _ h9 => h9) rfl dX10_add_63 ?_
      refine zv_iconst hx hb dX10_add_66 ?_
      refine zy_ild hx hb hK hX (by omega) dX10_add_67 ?_
      refine zc_V (As := [.int (zI 0), .int (zI 0), .int (zI (f52 0)), .int (zI (f52 0))]) (rest := []) S hK (kX10_edge l g y sa ta oa f52 gt od (min (hc + 1) 4) hs tn 0 (zApp w n x) (n + 1) (by omega) sl2 0 (f52 0) (f52 0) (by omega)) (cwV 4 hts gX10_add_X10_edge rfl rfl rfl (by decide +kernel) ⟨Nat.le_of_ble_eq_true rfl, Nat.le_of_ble_eq_true rfl⟩) (hX) (hX.recv hK) rfl hl.1 rfl (Nat.le_of_ble_eq_true rfl) dX10_add_68 ⟨Nat.zero_le _, Nat.zero_le _⟩ (fun r68 hr68 => ?_)
      obtain ⟨z68, rfl, hz68⟩ := hr68
      exact zw_i hx hb hr hlocks hS dX10_add_71 (by rw [show sAdd w n ee en hc u un hs tc tn x = _ from (zIf_t c7).trans (zIf_f (by omega))]; exact ⟨congrArg zI (by rw [l52] at hz68; exact hz68.1), ⟨_, _, _, hX, hm, hgt⟩⟩)
    · refine zv_bipush hx hb dX10_add_24 (by decide +kernel) ?_
      exact zw_i hx hb hr hlocks hS dX10_add_26 (by rw [show sAdd w n ee en hc u un hs tc tn x = _ from (zIf_t c7).trans (zIf_t (by omega))]; exact ⟨rfl, ⟨_, _, _, hX, hm, hgt⟩⟩)
  · refine zv_bipush hx hb dX10_add_10 (by decide +kernel) ?_
    exact zw_i hx hb hr hlocks hS dX10_add_12 (by rw [show sAdd w n ee en hc u un hs tc tn x = _ from zIf_f c7]; exact ⟨rfl, ⟨_, _, _, hX, hm, hgt⟩⟩)

theorem mX10_drop_0 : ∀ w ∈ wsX100, w ∈ wsX10_drop := by decide +kernel
theorem mX10_drop_1 : (Cond.fieldLink RX10 7 "BorderRunsModel" "s" "[I") ∈ wsX10_drop := by decide +kernel
set_option maxHeartbeats 4000000 in
set_option maxRecDepth 100000 in
/-- X10_drop -/
theorem kX10_drop (l : Launch) (g : zG) (y sa ta oa : Nat) (w : Int → Int) (n : Int) (ee : Nat → Int → Int) (en : Nat → Int) (hc : Int) (u : Int → Int) (un hs : Int) (tc : Int → Int) (tn : Int) (x : Int) (hx0 : -2147483648 ≤ x ∧ x < 2147483648) : Met l yX10_drop wsX10_drop (zRm 2 44) (zP g [.ref y, .int (zI x)] (AM g y sa ta oa w n ee en hc u un hs tc tn)) (zQi (fun r H => r = zI (sDrop w n ee en hc u un hs tc tn x).1 ∧ AMt g y sa ta oa (sDrop w n ee en hc u un hs tc tn x).2 H) (zA4 y sa ta oa)) 0 0 (zA4 y sa ta oa) := by
  refine Met.ofZ (cc := cX10_drop) (maxL := 2) (ret := (some .int)) (by decide) rfl (Nat.le_of_ble_eq_true rfl) ?_
  intro p e s m args below meth c ls hx hb hr hlocks S hin hK hpic hl
  have hown := S.2.2.2.1
  have hts := S.2.2.2.2
  have hl : lv_has ls 2 [(0, .ref y), (1, .int (zI x))] := hl
  obtain ⟨f, gt, od, hX, hm, hgt⟩ := hpic
  have hR := hX.rg
  have hsl := hm.1
  have hs0 := hsl.1
  have hn := hsl.2.1
  have hS : va_S (zA4 y sa ta oa) s.heap s.heap [] := va_S.rf
  refine lv_iload_n hx hb dX10_drop_0 rfl (lv_at hl 1 rfl) ?_
  refine zv_iconst hx hb dX10_drop_1 ?_
  refine zv_bipush hx hb dX10_drop_2 (by decide +kernel) ?_
  refine zc_S (As := [.int (zI x), .int (zI 1), .int (zI 40)]) (rest := []) S hK (kX10_in l g x 1 40 (by omega) (by omega) (by omega)) (va_cwS 3 hts gX10_drop_X10_in rfl rfl rfl (by decide +kernel) ⟨Nat.le_of_ble_eq_true rfl, Nat.le_of_ble_eq_true rfl⟩) (trivial) rfl hl.1 rfl (Nat.le_of_ble_eq_true rfl) dX10_drop_4 ⟨Nat.zero_le _, Nat.zero_le _⟩ (fun r4 hr4 => ?_)
  obtain rfl := hr4
  refine zv_ifB_ne (tgt := 13) hx hb dX10_drop_7 (by decide) (fun c7 => ?_) (fun c7 => ?_)
  · refine lv_aload_n hx hb dX10_drop_13 rfl (lv_at hl 0 rfl) ?_
    refine va_get (D := g.1) (ci := 5) (v := .ref sa) (C := RX10) (T := TX10) (N := 6) hx hb hts mX10_drop_0 hown hK (hX.gy) 0 rfl rfl 0 (by decide) (hts _ mX10_drop_1) (fun _ h9 => h9) rfl dX10_drop_14 ?_
    refine zv_iconst hx hb dX10_drop_17 ?_
    refine zy_ild hx hb hK hX (by omega) dX10_drop_18 ?_
    refine lv_iload_n hx hb dX10_drop_19 rfl (lv_at hl 1 rfl) ?_
    refine zv_icmp_ge (tgt := 25) hx hb dX10_drop_20 (by decide) (by omega) (by omega) (fun c20 => ?_) (fun c20 => ?_)
    · refine lv_aload_n hx hb dX10_drop_25 rfl (lv_at hl 0 rfl) ?_
      refine zc_VWv (As := []) (rest := []) S hK (kX10_records l g y sa ta oa f gt od hc hs tn) (cwV 0 hts gX10_drop_X10_records rfl rfl rfl (by decide +kernel) ⟨Nat.le_of_ble_eq_true rfl, Nat.le_of_ble_eq_true rfl⟩) (hX) (hX.recv hK) rfl hl.1 rfl (Nat.le_of_ble_eq_true rfl) dX10_drop_26 ⟨Nat.zero_le _, Nat.zero_le _⟩ hS (fun _ h9 => h9) (fun H1 locs hp hz hk hS => ?_)
      obtain ⟨f26, sv26, es26, hX, ha26, hb26, hc26, hd26⟩ := hp
      have hm := hm.push hR.1 es26 ha26 hb26 hc26 hd26
      subst es26
      have hR := hX.rg
      have hsl := hm.1
      have hs0 := hsl.1
      refine lv_aload_n hx hb dX10_drop_29 rfl (lv_at hl 0 rfl) ?_
      refine va_get (D := g.1) (ci := 5) (v := .ref sa) (C := RX10) (T := TX10) (N := 6) hx hb hts mX10_drop_0 hown hK (hX.gy) 0 rfl rfl 0 (by decide) (hts _ mX10_drop_1) (fun _ h9 => h9) rfl dX10_drop_30 ?_
      refine zv_iconst hx hb dX10_drop_33 ?_
      refine lv_dup2_11 hx hb dX10_drop_34 rfl rfl ?_
      refine zy_ild hx hb hK hX (by omega) dX10_drop_35 ?_
      refine lv_iload_n hx hb dX10_drop_36 rfl (lv_at hl 1 rfl) ?_
      refine zv_isub hx hb dX10_drop_37 ?_
      refine zy_ist hx hb hK hX hS (by omega) (by omega) dX10_drop_38 (fun H1 locs hX hS => ?_)
      obtain ⟨f38, e38⟩ : ∃ z9, z9 = zApp f26 0 ((f26 0) - x) := ⟨_, rfl⟩
      rw [← e38] at hX
      have r38 : f38 0 = (f26 0) - x := by rw [e38]; exact zApp_eq _ _ _
      have q38 : ∀ x9, x9 ≠ 0 → f38 x9 = f26 x9 := fun x9 h => by rw [e38]; exact zApp_ne h
      have l38 : f38 0 = n - x := by omega
      have hm := hm.set0 (f2 := f38) hR.1 (fun k a b => q38 k (by omega)) (hsl.cut (by omega) l38 (fun k a b => q38 k (by omega)))
      refine lv_aload_n hx hb dX10_drop_39 rfl (lv_at hl 0 rfl) ?_
      refine va_get (D := g.1) (ci := 5) (v := .ref sa) (C := RX10) (T := TX10) (N := 6) hx hb hts mX10_drop_0 hown hK (hX.gy) 0 rfl rfl 0 (by decide) (hts _ mX10_drop_1) (fun _ h9 => h9) rfl dX10_drop_40 ?_
      refine zv_iconst hx hb dX10_drop_43 ?_
      refine zy_ild hx hb hK hX (by omega) dX10_drop_44 ?_
      exact zw_i hx hb hr hlocks hS dX10_drop_45 (by rw [show sDrop w n ee en hc u un hs tc tn x = _ from (zIf_t c7).trans (zIf_f (by omega))]; exact ⟨congrArg zI l38, ⟨_, _, _, hX, hm, hgt⟩⟩)
    · refine zv_iconst hx hb dX10_drop_23 ?_
      exact zw_i hx hb hr hlocks hS dX10_drop_24 (by rw [show sDrop w n ee en hc u un hs tc tn x = _ from (zIf_t c7).trans (zIf_t (by omega))]; exact ⟨rfl, ⟨_, _, _, hX, hm, hgt⟩⟩)
  · refine zv_bipush hx hb dX10_drop_10 (by decide +kernel) ?_
    exact zw_i hx hb hr hlocks hS dX10_drop_12 (by rw [show sDrop w n ee en hc u un hs tc tn x = _ from zIf_f c7]; exact ⟨rfl, ⟨_, _, _, hX, hm, hgt⟩⟩)

theorem mX10_change_0 : ∀ w ∈ wsX100, w ∈ wsX10_change := by decide +kernel
theorem mX10_change_1 : (Cond.fieldLink RX10 7 "BorderRunsModel" "s" "[I") ∈ wsX10_change := by decide +kernel
set_option maxHeartbeats 4000000 in
set_option maxRecDepth 100000 in
/-- X10_change -/
theorem kX10_change (l : Launch) (g : zG) (y sa ta oa : Nat) (w : Int → Int) (n : Int) (ee : Nat → Int → Int) (en : Nat → Int) (hc : Int) (u : Int → Int) (un hs : Int) (tc : Int → Int) (tn : Int) (i x : Int) (hi : -2147483648 ≤ i ∧ i < 2147483648) (hx0 : -2147483648 ≤ x ∧ x < 2147483648) : Met l yX10_change wsX10_change (zRm 2 44) (zP g [.ref y, .int (zI i), .int (zI x)] (AM g y sa ta oa w n ee en hc u un hs tc tn)) (zQi (fun r H => r = zI (sChange w n ee en hc u un hs tc tn i x).1 ∧ AMt g y sa ta oa (sChange w n ee en hc u un hs tc tn i x).2 H) (zA4 y sa ta oa)) 0 0 (zA4 y sa ta oa) := by
  refine Met.ofZ (cc := cX10_change) (maxL := 4) (ret := (some .int)) (by decide) rfl (Nat.le_of_ble_eq_true rfl) ?_
  intro p e s m args below meth c ls hx hb hr hlocks S hin hK hpic hl
  have hown := S.2.2.2.1
  have hts := S.2.2.2.2
  have hl : lv_has ls 4 [(0, .ref y), (1, .int (zI i)), (2, .int (zI x))] := hl
  obtain ⟨f, gt, od, hX, hm, hgt⟩ := hpic
  have hR := hX.rg
  have hsl := hm.1
  have hs0 := hsl.1
  have hn := hsl.2.1
  have hS : va_S (zA4 y sa ta oa) s.heap s.heap [] := va_S.rf
  refine lv_aload_n hx hb dX10_change_0 rfl (lv_at hl 0 rfl) ?_
  refine lv_iload_n hx hb dX10_change_1 rfl (lv_at hl 1 rfl) ?_
  refine zc_V (As := [.int (zI i)]) (rest := []) S hK (kX10_isPlace l g y sa ta oa f gt od hc hs tn w n hsl i (by omega)) (cwV 1 hts gX10_change_X10_isPlace rfl rfl rfl (by decide +kernel) ⟨Nat.le_of_ble_eq_true rfl, Nat.le_of_ble_eq_true rfl⟩) (hX) (hX.recv hK) rfl hl.1 rfl (Nat.le_of_ble_eq_true rfl) dX10_change_2 ⟨Nat.zero_le _, Nat.zero_le _⟩ (fun r2 hr2 => ?_)
  obtain rfl := hr2
  refine zv_ifB_ne (tgt := 10) hx hb dX10_change_5 (by decide) (fun c5 => ?_) (fun c5 => ?_)
  · refine lv_iload_n hx hb dX10_change_10 rfl (lv_at hl 2 rfl) ?_
    refine zv_iconst hx hb dX10_change_11 ?_
    refine zv_bipush hx hb dX10_change_12 (by decide +kernel) ?_
    refine zc_S (As := [.int (zI x), .int (zI 0), .int (zI 25)]) (rest := []) S hK (kX10_in l g x 0 25 (by omega) (by omega) (by omega)) (va_cwS 3 hts gX10_change_X10_in rfl rfl rfl (by decide +kernel) ⟨Nat.le_of_ble_eq_true rfl, Nat.le_of_ble_eq_true rfl⟩) (trivial) rfl hl.1 rfl (Nat.le_of_ble_eq_true rfl) dX10_change_14 ⟨Nat.zero_le _, Nat.zero_le _⟩ (fun r14 hr14 => ?_)
    obtain rfl := hr14
    refine zv_ifB_ne (tgt := 23) hx hb dX10_change_17 (by decide) (fun c17 => ?_) (fun c17 => ?_)
    · refine lv_aload_n hx hb dX10_change_23 rfl (lv_at hl 0 rfl) ?_
      refine zv_iconst hx hb dX10_change_24 ?_
      refine lv_iload_n hx hb dX10_change_25 rfl (lv_at hl 1 rfl) ?_
      refine zc_V (As := [.int (zI 0), .int (zI i)]) (rest := []) S hK (kX10_letAt l g y sa ta oa f gt od hc hs tn 0 w n (by omega) hsl i (by omega)) (cwV 2 hts gX10_change_X10_letAt rfl rfl rfl (by decide +kernel) ⟨Nat.le_of_ble_eq_true rfl, Nat.le_of_ble_eq_true rfl⟩) (hX) (hX.recv hK) rfl hl.1 rfl (Nat.le_of_ble_eq_true rfl) dX10_change_26 ⟨Nat.zero_le _, Nat.zero_le _⟩ (fun r26 hr26 => ?_)
      obtain ⟨z26, rfl, hz26⟩ := hr26
      refine lv_istore_n (lv' := [(3, .int (zI z26)), (0, .ref y), (1, .int (zI i)), (2, .int (zI x))]) hx hb dX10_change_29 rfl hl (by decide) rfl (fun ls hl => ?_)
      have e26 := hz26.1
      refine lv_iload_n hx hb dX10_change_30 rfl (lv_at hl 0 rfl) ?_
      refine lv_iload_n hx hb dX10_change_31 rfl (lv_at hl 3 rfl) ?_
      refine zv_icmp_ne (tgt := 38) hx hb dX10_change_32 (by decide) (by omega) (by omega) (fun c32 => ?_) (fun c32 => ?_)
      · refine lv_aload_n hx hb dX10_change_38 rfl (lv_at hl 1 rfl) ?_
        refine zc_VWv (As := []) (rest := []) S hK (kX10_records l g y sa ta oa f gt od hc hs tn) (cwV 0 hts gX10_change_X10_records rfl rfl rfl (by decide +kernel) ⟨Nat.le_of_ble_eq_true rfl, Nat.le_of_ble_eq_true rfl⟩) (hX) (hX.recv hK) rfl hl.1 rfl (Nat.le_of_ble_eq_true rfl) dX10_change_39 ⟨Nat.zero_le _, Nat.zero_le _⟩ hS (fun _ h9 => h9) (fun H1 locs hp hz hk hS => ?_)
        obtain ⟨f39, sv39, es39, hX, ha39, hb39, hc39, hd39⟩ := hp
        have hm := hm.push hR.1 es39 ha39 hb39 hc39 hd39
        subst es39
        have hR := hX.rg
        have hsl := hm.1
        have hs0 := hsl.1
        refine lv_aload_n hx hb dX10_change_42 rfl (lv_at hl 1 rfl) ?_
        refine va_get (D := g.1) (ci := 5) (v := .ref sa) (C := RX10) (T := TX10) (N := 6) hx hb hts mX10_change_0 hown hK (hX.gy) 0 rfl rfl 0 (by decide) (hts _ mX10_change_1) (fun _ h9 => h9) rfl dX10_change_43 ?_
        refine zv_iconst hx hb dX10_change_46 ?_
        refine lv_iload_n hx hb dX10_change_47 rfl (lv_at hl 2 rfl) ?_
        refine zv_iadd hx hb dX10_change_48 ?_
        refine lv_iload_n hx hb dX10_change_49 rfl (lv_at hl 3 rfl) ?_
        refine zy_ist hx hb hK hX hS (by omega) (by omega) dX10_change_50 (fun H1 locs hX hS => ?_)
        obtain ⟨f50, e50⟩ : ∃ z9, z9 = zApp f39 (1 + i) x := ⟨_, rfl⟩
        rw [← e50] at hX
        have r50 : f50 (1 + i) = x := by rw [e50]; exact zApp_eq _ _ _
        have q50 : ∀ x9, x9 ≠ 1 + i → f50 x9 = f39 x9 := fun x9 h => by rw [e50]; exact zApp_ne h
        have hm := hm.set0 (f2 := f50) hR.1 (fun k a b => q50 k (by omega)) (hsl.chg (i := i) (x := x) (by omega) (by omega) (by rw [show (0 : Int) + 1 + i = 1 + i by omega]; exact r50) (fun k a => q50 k (by omega)))
        refine lv_iload_n hx hb dX10_change_51 rfl (lv_at hl 0 rfl) ?_
        exact zw_i hx hb hr hlocks hS dX10_change_52 (by rw [show sChange w n ee en hc u un hs tc tn i x = _ from (zIf_t c5).trans ((zIf_t c17).trans (zIf_f (by omega)))]; exact ⟨congrArg zI e26, ⟨_, _, _, hX, hm, hgt⟩⟩)
      · refine zv_bipush hx hb dX10_change_35 (by decide +kernel) ?_
        exact zw_i hx hb hr hlocks hS dX10_change_37 (by rw [show sChange w n ee en hc u un hs tc tn i x = _ from (zIf_t c5).trans ((zIf_t c17).trans (zIf_t (by omega)))]; exact ⟨rfl, ⟨_, _, _, hX, hm, hgt⟩⟩)
    · refine zv_bipush hx hb dX10_change_20 (by decide +kernel) ?_
      exact zw_i hx hb hr hlocks hS dX10_change_22 (by rw [show sChange w n ee en hc u un hs tc tn i x = _ from (zIf_t c5).trans (zIf_f c17)]; exact ⟨rfl, ⟨_, _, _, hX, hm, hgt⟩⟩)
  · refine zv_iconst hx hb dX10_change_8 ?_
    exact zw_i hx hb hr hlocks hS dX10_change_9 (by rw [show sChange w n ee en hc u un hs tc tn i x = _ from zIf_f c5]; exact ⟨rfl, ⟨_, _, _, hX, hm, hgt⟩⟩)

theorem mX10_isOther_0 : ∀ w ∈ wsX100, w ∈ wsX10_isOther := by decide +kernel
theorem mX10_isOther_1 : (Cond.fieldLink RX10 7 "BorderRunsModel" "s" "[I") ∈ wsX10_isOther := by decide +kernel
set_option maxHeartbeats 4000000 in
set_option maxRecDepth 100000 in
/-- isOther -/
theorem kX10_isOther (l : Launch) (g : zG) (y sa ta oa : Nat) (f gt od : Int → Int) (w : Int → Int) (n : Int) (ee : Nat → Int → Int) (en : Nat → Int) (hc : Int) (u : Int → Int) (un hs : Int) (tc : Int → Int) (tn : Int) (hm : MF f w n ee en hc u un hs) (hgt : ∀ k, 0 ≤ k → k < tn → gt k = tc k) (o : Int → Int) (hso : SL f 246 o n) : Met l yX10_isOther wsX10_isOther (zRm 2 44) (zP g [.ref y] (RM g y sa ta oa f gt od hc hs tn)) (zQi (fun r H => (zEqW o n w n ∧ r = zI (zB False) ∧ AM g y sa ta oa w n ee en hc u un hs tc tn H) ∨ (¬ zEqW o n w n ∧ r = zI (zB True) ∧ AM g y sa ta oa o n (zPush ee w) (zPush en n) (min (hc + 1) 4) u un hs tc tn H)) (zA4 y sa ta oa)) 0 0 (zA4 y sa ta oa) := by
  refine Met.ofZ (cc := cX10_isOther) (maxL := 3) (ret := (some .boolean)) (by decide) rfl (Nat.le_of_ble_eq_true rfl) ?_
  intro p e s m args below meth c ls hx hb hr hlocks S hin hK hpic hl
  have hown := S.2.2.2.1
  have hts := S.2.2.2.2
  have hl : lv_has ls 3 [(0, .ref y)] := hl
  have hX := hpic
  have hR := hX.rg
  have hsl := hm.1
  have hs0 := hsl.1
  have hn := hsl.2.1
  have hS : va_S (zA4 y sa ta oa) s.heap s.heap [] := va_S.rf
  refine zv_iconst hx hb dX10_isOther_0 ?_
  refine lv_istore_n (lv' := [(1, .int (zI 0)), (0, .ref y)]) hx hb dX10_isOther_1 rfl hl (by decide) rfl (fun ls hl => ?_)
  refine zv_iconst hx hb dX10_isOther_2 ?_
  refine lv_istore_n (lv' := [(2, .int (zI 0)), (1, .int (zI 0)), (0, .ref y)]) hx hb dX10_isOther_3 rfl hl (by decide) rfl (fun ls hl => ?_)
  have lp4 : ∀ (z_f : Nat) (d : Int) (k : Int), (0 ≤ k ∧ k ≤ n + 1 ∧ 0 ≤ d ∧ d ≤ 1) → ((d = 0 ∧ ∀ x, 0 ≤ x → x < k → f x = f (246 + x)) ∨ (d = 1 ∧ ∃ x, 0 ≤ x ∧ x < k ∧ f x ≠ f (246 + x))) → ((n + 1 - k).toNat) < z_f → ∀ (ls : Array Slot), lv_has ls 3 [(0, .ref y), (1, .int (zI d)), (2, .int (zI k))] → W p l e (zRm 2 44) s m args below meth c s.heap [] 0 0 (MQ below (zQi (fun r H => (zEqW o n w n ∧ r = zI (zB False) ∧ AM g y sa ta oa w n ee en hc u un hs tc tn H) ∨ (¬ zEqW o n w n ∧ r = zI (zB True) ∧ AM g y sa ta oa o n (zPush ee w) (zPush en n) (min (hc + 1) 4) u un hs tc tn H)) (zA4 y sa ta oa)) args s 0 0 (zA4 y sa ta oa)) (F0 m 4 ls []) := by
    intro z_f
    induction z_f with
    | zero => intro d k h0 h1 z_m; exact absurd z_m (Nat.not_lt_zero _)
    | succ z_f ih4 =>
      intro d k h0 h1 z_m4 ls hl
      refine lv_iload_n hx hb dX10_isOther_4 rfl (lv_at hl 2 rfl) ?_
      refine lv_aload_n hx hb dX10_isOther_5 rfl (lv_at hl 0 rfl) ?_
      refine va_get (D := g.1) (ci := 5) (v := .ref sa) (C := RX10) (T := TX10) (N := 6) hx hb hts mX10_isOther_0 hown hK (hX.gy) 0 rfl rfl 0 (by decide) (hts _ mX10_isOther_1) (fun _ h9 => h9) rfl dX10_isOther_6 ?_
      refine zv_iconst hx hb dX10_isOther_9 ?_
      refine zy_ild hx hb hK hX (by omega) dX10_isOther_10 ?_
      refine zv_icmp_gt (tgt := 49) hx hb dX10_isOther_11 (by decide) (by omega) (by omega) (fun c11 => ?_) (fun c11 => ?_)
      · refine lv_iload_n hx hb dX10_isOther_49 rfl (lv_at hl 1 rfl) ?_
        refine zv_if_eq (tgt := 64) hx hb dX10_isOther_50 (by decide) (by omega) (fun c50 => ?_) (fun c50 => ?_)
        · obtain rfl : d = 0 := by omega
          have e9 : zEqW o n w n := zEqW_yes hsl hso (fun x a b => (h1.resolve_right (by omega)).2 x a (by omega))
          refine lv_iload_n hx hb dX10_isOther_64 rfl (lv_at hl 1 rfl) ?_
          exact zw_z hx hb hr hlocks hS dX10_isOther_65 rfl (Or.inl ⟨e9, by rw [zB_f id], ⟨_, _, _, hX, hm, hgt⟩⟩)
        · obtain rfl : d = 1 := by omega
          have e9 : ¬ zEqW o n w n := by
            obtain ⟨-, x, x1, x2, x3⟩ := h1.resolve_left (by omega)
            exact zEqW_no hsl hso ⟨x1, by omega⟩ x3
          refine lv_aload_n hx hb dX10_isOther_53 rfl (lv_at hl 0 rfl) ?_
          refine zc_VWv (As := []) (rest := []) S hK (kX10_records l g y sa ta oa f gt od hc hs tn) (cwV 0 hts gX10_isOther_X10_records rfl rfl rfl (by decide +kernel) ⟨Nat.le_of_ble_eq_true rfl, Nat.le_of_ble_eq_true rfl⟩) (hX) (hX.recv hK) rfl hl.1 rfl (Nat.le_of_ble_eq_true rfl) dX10_isOther_54 ⟨Nat.zero_le _, Nat.zero_le _⟩ hS (fun _ h9 => h9) (fun H1 locs hp hz hk hS => ?_)
          obtain ⟨f54, sv54, es54, hX, ha54, hb54, hc54, hd54⟩ := hp
          have hm := hm.push hR.1 es54 ha54 hb54 hc54 hd54
          subst es54
          have hR := hX.rg
          have hsl := hm.1
          have hs0 := hsl.1
          refine lv_aload_n hx hb dX10_isOther_57 rfl (lv_at hl 0 rfl) ?_
          refine zv_bipush hx hb dX10_isOther_58 (by decide +kernel) ?_
          refine zv_iconst hx hb dX10_isOther_60 ?_
          refine zc_VWv (As := [.int (zI 6), .int (zI 0)]) (rest := []) S hK (kX10_copies l g y sa ta oa f54 gt od (min (hc + 1) 4) hs tn 6 0 (by omega)) (cwV 2 hts gX10_isOther_X10_copies rfl rfl rfl (by decide +kernel) ⟨Nat.le_of_ble_eq_true rfl, Nat.le_of_ble_eq_true rfl⟩) (hX) (hX.recv hK) rfl hl.1 rfl (Nat.le_of_ble_eq_true rfl) dX10_isOther_61 ⟨Nat.zero_le _, Nat.zero_le _⟩ hS (fun _ h9 => h9) (fun H1 locs hp hz hk hS => ?_)
          have hX := hp
          obtain ⟨f61, e61⟩ : ∃ z9, z9 = zCp f54 6 0 41 := ⟨_, rfl⟩
          rw [← e61] at hX
          have k61 : ∀ x9, 0 ≤ x9 → x9 < 41 → f61 (41 * 0 + x9) = f54 (41 * 6 + x9) := fun x9 a9 b9 => by rw [e61, zCp_in (by omega)]; congr 1; omega
          have o61 : ∀ x9, x9 < 41 * 0 ∨ 41 * 0 + 41 ≤ x9 → f61 x9 = f54 x9 := fun x9 h => by rw [e61, zCp_out (by omega)]
          have sl2 : SL f61 0 o n := (hso.mv (b2 := 246) (f2 := f54) (fun k a b => hb54 _ (by omega) (by omega))).mv (fun k a b => by rw [show (0 : Int) + k = 41 * 0 + k by omega, show (246 : Int) + k = 41 * 6 + k by omega]; exact k61 k a b)
          have hm := hm.set0 (f2 := f61) hR.1 (fun k a b => o61 k (by omega)) sl2
          refine lv_iload_n hx hb dX10_isOther_64 rfl (lv_at hl 1 rfl) ?_
          exact zw_z hx hb hr hlocks hS dX10_isOther_65 rfl (Or.inr ⟨e9, by rw [zB_t trivial], ⟨_, _, _, hX, hm, hgt⟩⟩)
      · refine lv_iload_n hx hb dX10_isOther_14 rfl (lv_at hl 1 rfl) ?_
        refine zv_if_ne (tgt := 37) hx hb dX10_isOther_15 (by decide) (by omega) (fun c15 => ?_) (fun c15 => ?_)
        · refine zv_iconst hx hb dX10_isOther_37 ?_
          refine lv_goto (tgt := 42) hx hb dX10_isOther_38 (by decide) ?_
          refine lv_istore_n (lv' := [(1, .int (zI 1)), (0, .ref y), (2, .int (zI k))]) hx hb dX10_isOther_42 rfl hl (by decide) rfl (fun ls hl => ?_)
          refine zv_iinc (lv' := [(2, .int (zI (k + 1))), (1, .int (zI 1)), (0, .ref y)]) hx hb dX10_isOther_43 hl (k := 2) rfl (by decide) rfl (fun ls hl => ?_)
          refine lv_goto (tgt := 4) hx hb dX10_isOther_46 (by decide) ?_
          exact ih4 1 (k + 1) (by omega) (h1.elim (fun v => by first | exact absurd v.1 (by omega) | exact Or.inr ⟨rfl, k, by omega, by omega, c34⟩) (fun v => Or.inr ⟨rfl, by obtain ⟨-, x, x1, x2, x3⟩ := v; exact ⟨x, x1, by omega, x3⟩⟩)) (by omega) _ (lv_sub hl [2, 1, 0] rfl)
        · refine lv_aload_n hx hb dX10_isOther_18 rfl (lv_at hl 0 rfl) ?_
          refine va_get (D := g.1) (ci := 5) (v := .ref sa) (C := RX10) (T := TX10) (N := 6) hx hb hts mX10_isOther_0 hown hK (hX.gy) 0 rfl rfl 0 (by decide) (hts _ mX10_isOther_1) (fun _ h9 => h9) rfl dX10_isOther_19 ?_
          refine lv_iload_n hx hb dX10_isOther_22 rfl (lv_at hl 2 rfl) ?_
          refine zy_ild hx hb hK hX (by omega) dX10_isOther_23 ?_
          refine lv_aload_n hx hb dX10_isOther_24 rfl (lv_at hl 0 rfl) ?_
          refine va_get (D := g.1) (ci := 5) (v := .ref sa) (C := RX10) (T := TX10) (N := 6) hx hb hts mX10_isOther_0 hown hK (hX.gy) 0 rfl rfl 0 (by decide) (hts _ mX10_isOther_1) (fun _ h9 => h9) rfl dX10_isOther_25 ?_
          refine zv_sipush hx hb dX10_isOther_28 (by decide +kernel) ?_
          refine lv_iload_n hx hb dX10_isOther_31 rfl (lv_at hl 2 rfl) ?_
          refine zv_iadd hx hb dX10_isOther_32 ?_
          refine zy_ild hx hb hK hX (by omega) dX10_isOther_33 ?_
          refine zv_icmp_eq (tgt := 41) hx hb dX10_isOther_34 (by decide) (hX.gf (by omega)) (hX.gf (by omega)) (fun c34 => ?_) (fun c34 => ?_)
          · refine zv_iconst hx hb dX10_isOther_41 ?_
            refine lv_istore_n (lv' := [(1, .int (zI 0)), (0, .ref y), (2, .int (zI k))]) hx hb dX10_isOther_42 rfl hl (by decide) rfl (fun ls hl => ?_)
            refine zv_iinc (lv' := [(2, .int (zI (k + 1))), (1, .int (zI 0)), (0, .ref y)]) hx hb dX10_isOther_43 hl (k := 2) rfl (by decide) rfl (fun ls hl => ?_)
            refine lv_goto (tgt := 4) hx hb dX10_isOther_46 (by decide) ?_
            exact ih4 0 (k + 1) (by omega) (h1.elim (fun v => Or.inl ⟨rfl, fun x a b => (show x < k ∨ x = k by omega).elim (fun z => v.2 x a z) (fun z => by rw [z]; omega)⟩) (fun v => absurd v.1 (by omega))) (by omega) _ (lv_sub hl [2, 1, 0] rfl)
          · refine zv_iconst hx hb dX10_isOther_37 ?_
            refine lv_goto (tgt := 42) hx hb dX10_isOther_38 (by decide) ?_
            refine lv_istore_n (lv' := [(1, .int (zI 1)), (0, .ref y), (2, .int (zI k))]) hx hb dX10_isOther_42 rfl hl (by decide) rfl (fun ls hl => ?_)
            refine zv_iinc (lv' := [(2, .int (zI (k + 1))), (1, .int (zI 1)), (0, .ref y)]) hx hb dX10_isOther_43 hl (k := 2) rfl (by decide) rfl (fun ls hl => ?_)
            refine lv_goto (tgt := 4) hx hb dX10_isOther_46 (by decide) ?_
            exact ih4 1 (k + 1) (by omega) (h1.elim (fun v => by first | exact absurd v.1 (by omega) | exact Or.inr ⟨rfl, k, by omega, by omega, c34⟩) (fun v => Or.inr ⟨rfl, by obtain ⟨-, x, x1, x2, x3⟩ := v; exact ⟨x, x1, by omega, x3⟩⟩)) (by omega) _ (lv_sub hl [2, 1, 0] rfl)
  exact lp4 _ 0 0 (by omega) (Or.inl ⟨rfl, fun x a b => absurd b (by omega)⟩) (Nat.lt_succ_self _) _ (lv_sub hl [2, 1, 0] rfl)

theorem mX10_reverse_0 : ∀ w ∈ wsX100, w ∈ wsX10_reverse := by decide +kernel
theorem mX10_reverse_1 : (Cond.fieldLink RX10 7 "BorderRunsModel" "s" "[I") ∈ wsX10_reverse := by decide +kernel
set_option maxHeartbeats 4000000 in
set_option maxRecDepth 100000 in
/-- X10_reverse -/
theorem kX10_reverse (l : Launch) (g : zG) (y sa ta oa : Nat) (w : Int → Int) (n : Int) (ee : Nat → Int → Int) (en : Nat → Int) (hc : Int) (u : Int → Int) (un hs : Int) (tc : Int → Int) (tn : Int)  : Met l yX10_reverse wsX10_reverse (zRm 3 66) (zP g [.ref y] (AM g y sa ta oa w n ee en hc u un hs tc tn)) (zQi (fun r H => r = zI (sReverse w n ee en hc u un hs tc tn ).1 ∧ AMt g y sa ta oa (sReverse w n ee en hc u un hs tc tn ).2 H) (zA4 y sa ta oa)) 0 0 (zA4 y sa ta oa) := by
  refine Met.ofZ (cc := cX10_reverse) (maxL := 2) (ret := (some .int)) (by decide) rfl (Nat.le_of_ble_eq_true rfl) ?_
  intro p e s m args below meth c ls hx hb hr hlocks S hin hK hpic hl
  have hown := S.2.2.2.1
  have hts := S.2.2.2.2
  have hl : lv_has ls 2 [(0, .ref y)] := hl
  obtain ⟨f, gt, od, hX, hm, hgt⟩ := hpic
  have hR := hX.rg
  have hsl := hm.1
  have hs0 := hsl.1
  have hn := hsl.2.1
  have hS : va_S (zA4 y sa ta oa) s.heap s.heap [] := va_S.rf
  refine lv_aload_n hx hb dX10_reverse_0 rfl (lv_at hl 0 rfl) ?_
  refine zv_iconst hx hb dX10_reverse_1 ?_
  refine zv_bipush hx hb dX10_reverse_2 (by decide +kernel) ?_
  refine zc_VWv (As := [.int (zI 0), .int (zI 6)]) (rest := []) S hK (kX10_copies l g y sa ta oa f gt od hc hs tn 0 6 (by omega)) (cwV 2 hts gX10_reverse_X10_copies rfl rfl rfl (by decide +kernel) ⟨Nat.le_of_ble_eq_true rfl, Nat.le_of_ble_eq_true rfl⟩) (hX) (hX.recv hK) rfl hl.1 rfl (Nat.le_of_ble_eq_true rfl) dX10_reverse_4 ⟨Nat.zero_le _, Nat.zero_le _⟩ hS (fun _ h9 => h9) (fun H1 locs hp hz hk hS => ?_)
  have hX := hp
  obtain ⟨f4, e4⟩ : ∃ z9, z9 = zCp f 0 6 41 := ⟨_, rfl⟩
  rw [← e4] at hX
  have k4 : ∀ x9, 0 ≤ x9 → x9 < 41 → f4 (41 * 6 + x9) = f (41 * 0 + x9) := fun x9 a9 b9 => by rw [e4, zCp_in (by omega)]; congr 1; omega
  have o4 : ∀ x9, x9 < 41 * 6 ∨ 41 * 6 + 41 ≤ x9 → f4 x9 = f x9 := fun x9 h => by rw [e4, zCp_out (by omega)]
  refine zv_iconst hx hb dX10_reverse_7 ?_
  refine lv_istore_n (lv' := [(1, .int (zI 0)), (0, .ref y)]) hx hb dX10_reverse_8 rfl hl (by decide) rfl (fun ls hl => ?_)
  have lp9 : ∀ (z_f : Nat) (k : Int) (f1 : Int → Int) (H1 : Heap) (locs : List Loc), (0 ≤ k ∧ k ≤ n) → (∀ x9, 0 ≤ x9 → x9 < 247 → f1 x9 = f4 x9) → (∀ x9, 0 ≤ x9 → x9 < k → f1 (247 + x9) = (zRev w n) x9) → (RM g y sa ta oa f1 gt od hc hs tn H1) → (va_S (zA4 y sa ta oa) s.heap H1 locs) → ((n - k).toNat) < z_f → ∀ (ls : Array Slot), lv_has ls 2 [(0, .ref y), (1, .int (zI k))] → W p l e (zRm 3 66) s m args below meth c H1 locs 0 0 (MQ below (zQi (fun r H => r = zI (sReverse w n ee en hc u un hs tc tn ).1 ∧ AMt g y sa ta oa (sReverse w n ee en hc u un hs tc tn ).2 H) (zA4 y sa ta oa)) args s 0 0 (zA4 y sa ta oa)) (F0 m 9 ls []) := by
    intro z_f
    induction z_f with
    | zero => intro k f1 H1 locs h0 h1 h2 hX hS z_m; exact absurd z_m (Nat.not_lt_zero _)
    | succ z_f ih9 =>
      intro k f1 H1 locs h0 h1 h2 hX hS z_m9 ls hl
      have lo : ∀ x9, 0 ≤ x9 → x9 < 246 → f1 x9 = f x9 := fun x9 a b => by rw [h1 x9 a (by omega), o4 x9 (by omega)]
      have sl1 : SL f1 0 w n := hsl.mv (fun k a b => lo _ (by omega) (by omega))
      have l1 := sl1.1
      refine lv_iload_n hx hb dX10_reverse_9 rfl (lv_at hl 1 rfl) ?_
      refine lv_aload_n hx hb dX10_reverse_10 rfl (lv_at hl 0 rfl) ?_
      refine va_get (D := g.1) (ci := 5) (v := .ref sa) (C := RX10) (T := TX10) (N := 6) hx hb hts mX10_reverse_0 hown hK (hX.gy) 0 rfl rfl 0 (by decide) (hts _ mX10_reverse_1) (fun _ h9 => h9) rfl dX10_reverse_11 ?_
      refine zv_iconst hx hb dX10_reverse_14 ?_
      refine zy_ild hx hb hK hX (by omega) dX10_reverse_15 ?_
      refine zv_icmp_ge (tgt := 50) hx hb dX10_reverse_16 (by decide) (by omega) (by omega) (fun c16 => ?_) (fun c16 => ?_)
      · have sl6 : SL f1 246 (zRev w n) n := (hsl.mv (b2 := 246) (f2 := f4) (fun k a b => by rw [show (246 : Int) + k = 41 * 6 + k by omega, show (0 : Int) + k = 41 * 0 + k by omega]; exact k4 k a b)).fill (h1 246 (by omega) (by omega)) (fun k a b => by rw [show (246 : Int) + 1 + k = 247 + k by omega]; exact h2 k a (by omega)) (fun k a b => (hsl.2.2 (n - 1 - k) (by omega) (by omega)).2)
        have hm2 : MF f1 w n ee en hc u un hs := hm.scr hR.1 lo
        refine lv_aload_n hx hb dX10_reverse_50 rfl (lv_at hl 0 rfl) ?_
        refine zc_VWi (As := []) (rest := []) S hK (kX10_isOther l g y sa ta oa f1 gt od w n ee en hc u un hs tc tn hm2 hgt (zRev w n) sl6) (cwV 0 hts gX10_reverse_X10_isOther rfl rfl rfl (by decide +kernel) ⟨Nat.le_of_ble_eq_true rfl, Nat.le_of_ble_eq_true rfl⟩) (hX) (hX.recv hK) rfl hl.1 rfl (Nat.le_of_ble_eq_true rfl) dX10_reverse_51 ⟨Nat.zero_le _, Nat.zero_le _⟩ hS (fun _ h9 => h9) (fun r51 H1 locs hp hz hk hS => ?_)
        rcases hp with ⟨e51, rfl, hp⟩ | ⟨e51, rfl, hp⟩
        · obtain ⟨f51, gt51, od51, hX, hm, hgt⟩ := hp
          have hR := hX.rg
          have hsl := hm.1
          have hs0 := hsl.1
          refine zv_ifB_eq (tgt := 66) hx hb dX10_reverse_54 (by decide) (fun c54 => ?_) (fun c54 => ?_)
          · refine zv_bipush hx hb dX10_reverse_66 (by decide +kernel) ?_
            exact zw_i hx hb hr hlocks hS dX10_reverse_68 (by rw [show sReverse w n ee en hc u un hs tc tn  = _ from zIf_t e51]; exact ⟨rfl, ⟨_, _, _, hX, hm, hgt⟩⟩)
          · exact c54.elim
        · obtain ⟨f51, gt51, od51, hX, hm, hgt⟩ := hp
          have hR := hX.rg
          have hsl := hm.1
          have hs0 := hsl.1
          refine zv_ifB_eq (tgt := 66) hx hb dX10_reverse_54 (by decide) (fun c54 => ?_) (fun c54 => ?_)
          · exact absurd trivial c54
          · refine lv_aload_n hx hb dX10_reverse_57 rfl (lv_at hl 0 rfl) ?_
            refine va_get (D := g.1) (ci := 5) (v := .ref sa) (C := RX10) (T := TX10) (N := 6) hx hb hts mX10_reverse_0 hown hK (hX.gy) 0 rfl rfl 0 (by decide) (hts _ mX10_reverse_1) (fun _ h9 => h9) rfl dX10_reverse_58 ?_
            refine zv_iconst hx hb dX10_reverse_61 ?_
            refine zy_ild hx hb hK hX (by omega) dX10_reverse_62 ?_
            refine lv_goto (tgt := 68) hx hb dX10_reverse_63 (by decide) ?_
            exact zw_i hx hb hr hlocks hS dX10_reverse_68 (by rw [show sReverse w n ee en hc u un hs tc tn  = _ from zIf_f e51]; exact ⟨congrArg zI hs0, ⟨_, _, _, hX, hm, hgt⟩⟩)
      · refine lv_aload_n hx hb dX10_reverse_19 rfl (lv_at hl 0 rfl) ?_
        refine va_get (D := g.1) (ci := 5) (v := .ref sa) (C := RX10) (T := TX10) (N := 6) hx hb hts mX10_reverse_0 hown hK (hX.gy) 0 rfl rfl 0 (by decide) (hts _ mX10_reverse_1) (fun _ h9 => h9) rfl dX10_reverse_20 ?_
        refine zv_sipush hx hb dX10_reverse_23 (by decide +kernel) ?_
        refine lv_iload_n hx hb dX10_reverse_26 rfl (lv_at hl 1 rfl) ?_
        refine zv_iadd hx hb dX10_reverse_27 ?_
        refine lv_aload_n hx hb dX10_reverse_28 rfl (lv_at hl 0 rfl) ?_
        refine zv_iconst hx hb dX10_reverse_29 ?_
        refine lv_aload_n hx hb dX10_reverse_30 rfl (lv_at hl 0 rfl) ?_
        refine va_get (D := g.1) (ci := 5) (v := .ref sa) (C := RX10) (T := TX10) (N := 6) hx hb hts mX10_reverse_0 hown hK (hX.gy) 0 rfl rfl 0 (by decide) (hts _ mX10_reverse_1) (fun _ h9 => h9) rfl dX10_reverse_31 ?_
        refine zv_iconst hx hb dX10_reverse_34 ?_
        refine zy_ild hx hb hK hX (by omega) dX10_reverse_35 ?_
        refine zv_iconst hx hb dX10_reverse_36 ?_
        refine zv_isub hx hb dX10_reverse_37 ?_
        refine lv_iload_n hx hb dX10_reverse_38 rfl (lv_at hl 1 rfl) ?_
        refine zv_isub hx hb dX10_reverse_39 ?_
        refine zc_V (As := [.int (zI 0), .int (zI (((f1 0) - 1) - k))]) (rest := [.int (zI (247 + k)), .ref sa]) S hK (kX10_letAt l g y sa ta oa f1 gt od hc hs tn 0 w n (by omega) sl1 (((f1 0) - 1) - k) (by omega)) (cwV 2 hts gX10_reverse_X10_letAt rfl rfl rfl (by decide +kernel) ⟨Nat.le_of_ble_eq_true rfl, Nat.le_of_ble_eq_true rfl⟩) (hX) (hX.recv hK) rfl hl.1 rfl (Nat.le_of_ble_eq_true rfl) dX10_reverse_40 ⟨Nat.zero_le _, Nat.zero_le _⟩ (fun r40 hr40 => ?_)
        obtain ⟨z40, rfl, hz40⟩ := hr40
        refine zy_ist hx hb hK hX hS (by omega) (by omega) dX10_reverse_43 (fun H1 locs hX hS => ?_)
        obtain ⟨f43, e43⟩ : ∃ z9, z9 = zApp f1 (247 + k) z40 := ⟨_, rfl⟩
        rw [← e43] at hX
        have r43 : f43 (247 + k) = z40 := by rw [e43]; exact zApp_eq _ _ _
        have q43 : ∀ x9, x9 ≠ 247 + k → f43 x9 = f1 x9 := fun x9 h => by rw [e43]; exact zApp_ne h
        refine zv_iinc (lv' := [(1, .int (zI (k + 1))), (0, .ref y)]) hx hb dX10_reverse_44 hl (k := 1) rfl (by decide) rfl (fun ls hl => ?_)
        refine lv_goto (tgt := 9) hx hb dX10_reverse_47 (by decide) ?_
        exact ih9 (k + 1) f43 _ _ (by omega) (fun x9 a b => by rw [q43 x9 (by omega)]; exact h1 x9 a b) (fun x9 a b => (show x9 < k ∨ x9 = k by omega).elim (fun v => by rw [q43 _ (by omega)]; exact h2 x9 a v) (fun v => by rw [v, r43]; exact (by rw [hz40.1]; show w (f1 0 - 1 - k) = w (n - 1 - k); rw [l1]))) (hX) (hS) (by omega) _ (lv_sub hl [1, 0] rfl)
  exact lp9 _ 0 f4 _ _ (by omega) (fun _ _ _ => rfl) (fun x9 a b => absurd b (by omega)) (hX) (hS) (Nat.lt_succ_self _) _ (lv_sub hl [1, 0] rfl)

theorem mX10_turn_0 : ∀ w ∈ wsX100, w ∈ wsX10_turn := by decide +kernel
theorem mX10_turn_1 : (Cond.fieldLink RX10 7 "BorderRunsModel" "s" "[I") ∈ wsX10_turn := by decide +kernel
set_option maxHeartbeats 4000000 in
set_option maxRecDepth 100000 in
/-- X10_turn -/
theorem kX10_turn (l : Launch) (g : zG) (y sa ta oa : Nat) (w : Int → Int) (n : Int) (ee : Nat → Int → Int) (en : Nat → Int) (hc : Int) (u : Int → Int) (un hs : Int) (tc : Int → Int) (tn : Int) (x : Int) (hx0 : -2147483648 ≤ x ∧ x < 2147483648) : Met l yX10_turn wsX10_turn (zRm 3 66) (zP g [.ref y, .int (zI x)] (AM g y sa ta oa w n ee en hc u un hs tc tn)) (zQi (fun r H => r = zI (sTurn w n ee en hc u un hs tc tn x).1 ∧ AMt g y sa ta oa (sTurn w n ee en hc u un hs tc tn x).2 H) (zA4 y sa ta oa)) 0 0 (zA4 y sa ta oa) := by
  refine Met.ofZ (cc := cX10_turn) (maxL := 3) (ret := (some .int)) (by decide) rfl (Nat.le_of_ble_eq_true rfl) ?_
  intro p e s m args below meth c ls hx hb hr hlocks S hin hK hpic hl
  have hown := S.2.2.2.1
  have hts := S.2.2.2.2
  have hl : lv_has ls 3 [(0, .ref y), (1, .int (zI x))] := hl
  obtain ⟨f, gt, od, hX, hm, hgt⟩ := hpic
  have hR := hX.rg
  have hsl := hm.1
  have hs0 := hsl.1
  have hn := hsl.2.1
  have hS : va_S (zA4 y sa ta oa) s.heap s.heap [] := va_S.rf
  refine lv_iload_n hx hb dX10_turn_0 rfl (lv_at hl 1 rfl) ?_
  refine zv_iconst hx hb dX10_turn_1 ?_
  refine zv_bipush hx hb dX10_turn_2 (by decide +kernel) ?_
  refine zc_S (As := [.int (zI x), .int (zI 1), .int (zI 39)]) (rest := []) S hK (kX10_in l g x 1 39 (by omega) (by omega) (by omega)) (va_cwS 3 hts gX10_turn_X10_in rfl rfl rfl (by decide +kernel) ⟨Nat.le_of_ble_eq_true rfl, Nat.le_of_ble_eq_true rfl⟩) (trivial) rfl hl.1 rfl (Nat.le_of_ble_eq_true rfl) dX10_turn_4 ⟨Nat.zero_le _, Nat.zero_le _⟩ (fun r4 hr4 => ?_)
  obtain rfl := hr4
  refine zv_ifB_ne (tgt := 13) hx hb dX10_turn_7 (by decide) (fun c7 => ?_) (fun c7 => ?_)
  · refine lv_aload_n hx hb dX10_turn_13 rfl (lv_at hl 0 rfl) ?_
    refine va_get (D := g.1) (ci := 5) (v := .ref sa) (C := RX10) (T := TX10) (N := 6) hx hb hts mX10_turn_0 hown hK (hX.gy) 0 rfl rfl 0 (by decide) (hts _ mX10_turn_1) (fun _ h9 => h9) rfl dX10_turn_14 ?_
    refine zv_iconst hx hb dX10_turn_17 ?_
    refine zy_ild hx hb hK hX (by omega) dX10_turn_18 ?_
    refine lv_iload_n hx hb dX10_turn_19 rfl (lv_at hl 1 rfl) ?_
    refine zv_icmp_gt (tgt := 25) hx hb dX10_turn_20 (by decide) (by omega) (by omega) (fun c20 => ?_) (fun c20 => ?_)
    · refine lv_aload_n hx hb dX10_turn_25 rfl (lv_at hl 0 rfl) ?_
      refine zv_iconst hx hb dX10_turn_26 ?_
      refine zv_bipush hx hb dX10_turn_27 (by decide +kernel) ?_
      refine zc_VWv (As := [.int (zI 0), .int (zI 6)]) (rest := []) S hK (kX10_copies l g y sa ta oa f gt od hc hs tn 0 6 (by omega)) (cwV 2 hts gX10_turn_X10_copies rfl rfl rfl (by decide +kernel) ⟨Nat.le_of_ble_eq_true rfl, Nat.le_of_ble_eq_true rfl⟩) (hX) (hX.recv hK) rfl hl.1 rfl (Nat.le_of_ble_eq_true rfl) dX10_turn_29 ⟨Nat.zero_le _, Nat.zero_le _⟩ hS (fun _ h9 => h9) (fun H1 locs hp hz hk hS => ?_)
      have hX := hp
      obtain ⟨f29, e29⟩ : ∃ z9, z9 = zCp f 0 6 41 := ⟨_, rfl⟩
      rw [← e29] at hX
      have k29 : ∀ x9, 0 ≤ x9 → x9 < 41 → f29 (41 * 6 + x9) = f (41 * 0 + x9) := fun x9 a9 b9 => by rw [e29, zCp_in (by omega)]; congr 1; omega
      have o29 : ∀ x9, x9 < 41 * 6 ∨ 41 * 6 + 41 ≤ x9 → f29 x9 = f x9 := fun x9 h => by rw [e29, zCp_out (by omega)]
      refine zv_iconst hx hb dX10_turn_32 ?_
      refine lv_istore_n (lv' := [(2, .int (zI 0)), (0, .ref y), (1, .int (zI x))]) hx hb dX10_turn_33 rfl hl (by decide) rfl (fun ls hl => ?_)
      have lp34 : ∀ (z_f : Nat) (k : Int) (f1 : Int → Int) (H1 : Heap) (locs : List Loc), (0 ≤ k ∧ k ≤ n) → (∀ x9, 0 ≤ x9 → x9 < 247 → f1 x9 = f29 x9) → (∀ x9, 0 ≤ x9 → x9 < k → f1 (247 + x9) = (zTurn w n x) x9) → (RM g y sa ta oa f1 gt od hc hs tn H1) → (va_S (zA4 y sa ta oa) s.heap H1 locs) → ((n - k).toNat) < z_f → ∀ (ls : Array Slot), lv_has ls 3 [(0, .ref y), (1, .int (zI x)), (2, .int (zI k))] → W p l e (zRm 3 66) s m args below meth c H1 locs 0 0 (MQ below (zQi (fun r H => r = zI (sTurn w n ee en hc u un hs tc tn x).1 ∧ AMt g y sa ta oa (sTurn w n ee en hc u un hs tc tn x).2 H) (zA4 y sa ta oa)) args s 0 0 (zA4 y sa ta oa)) (F0 m 34 ls []) := by
        intro z_f
        induction z_f with
        | zero => intro k f1 H1 locs h0 h1 h2 hX hS z_m; exact absurd z_m (Nat.not_lt_zero _)
        | succ z_f ih34 =>
          intro k f1 H1 locs h0 h1 h2 hX hS z_m34 ls hl
          have lo : ∀ x9, 0 ≤ x9 → x9 < 246 → f1 x9 = f x9 := fun x9 a b => by rw [h1 x9 a (by omega), o29 x9 (by omega)]
          have sl1 : SL f1 0 w n := hsl.mv (fun k a b => lo _ (by omega) (by omega))
          have l1 := sl1.1
          refine lv_iload_n hx hb dX10_turn_34 rfl (lv_at hl 2 rfl) ?_
          refine lv_aload_n hx hb dX10_turn_35 rfl (lv_at hl 0 rfl) ?_
          refine va_get (D := g.1) (ci := 5) (v := .ref sa) (C := RX10) (T := TX10) (N := 6) hx hb hts mX10_turn_0 hown hK (hX.gy) 0 rfl rfl 0 (by decide) (hts _ mX10_turn_1) (fun _ h9 => h9) rfl dX10_turn_36 ?_
          refine zv_iconst hx hb dX10_turn_39 ?_
          refine zy_ild hx hb hK hX (by omega) dX10_turn_40 ?_
          refine zv_icmp_ge (tgt := 75) hx hb dX10_turn_41 (by decide) (by omega) (by omega) (fun c41 => ?_) (fun c41 => ?_)
          · have sl6 : SL f1 246 (zTurn w n x) n := (hsl.mv (b2 := 246) (f2 := f29) (fun k a b => by rw [show (246 : Int) + k = 41 * 6 + k by omega, show (0 : Int) + k = 41 * 0 + k by omega]; exact k29 k a b)).fill (h1 246 (by omega) (by omega)) (fun k a b => by rw [show (246 : Int) + 1 + k = 247 + k by omega]; exact h2 k a (by omega)) (fun k a b => by rw [← zTurn_mod (w := w) (n := n) (x := x) (k := k) (by omega) (by omega)]; exact (hsl.2.2 _ (Int.emod_nonneg _ (by omega)) (Int.emod_lt_of_pos _ (by omega))).2)
            have hm2 : MF f1 w n ee en hc u un hs := hm.scr hR.1 lo
            refine lv_aload_n hx hb dX10_turn_75 rfl (lv_at hl 0 rfl) ?_
            refine zc_VWi (As := []) (rest := []) S hK (kX10_isOther l g y sa ta oa f1 gt od w n ee en hc u un hs tc tn hm2 hgt (zTurn w n x) sl6) (cwV 0 hts gX10_turn_X10_isOther rfl rfl rfl (by decide +kernel) ⟨Nat.le_of_ble_eq_true rfl, Nat.le_of_ble_eq_true rfl⟩) (hX) (hX.recv hK) rfl hl.1 rfl (Nat.le_of_ble_eq_true rfl) dX10_turn_76 ⟨Nat.zero_le _, Nat.zero_le _⟩ hS (fun _ h9 => h9) (fun r76 H1 locs hp hz hk hS => ?_)
            rcases hp with ⟨e76, rfl, hp⟩ | ⟨e76, rfl, hp⟩
            · obtain ⟨f76, gt76, od76, hX, hm, hgt⟩ := hp
              have hR := hX.rg
              have hsl := hm.1
              have hs0 := hsl.1
              refine zv_ifB_eq (tgt := 91) hx hb dX10_turn_79 (by decide) (fun c79 => ?_) (fun c79 => ?_)
              · refine zv_bipush hx hb dX10_turn_91 (by decide +kernel) ?_
                exact zw_i hx hb hr hlocks hS dX10_turn_93 (by rw [show sTurn w n ee en hc u un hs tc tn x = _ from (zIf_t c7).trans ((zIf_f (by omega)).trans (zIf_t e76))]; exact ⟨rfl, ⟨_, _, _, hX, hm, hgt⟩⟩)
              · exact c79.elim
            · obtain ⟨f76, gt76, od76, hX, hm, hgt⟩ := hp
              have hR := hX.rg
              have hsl := hm.1
              have hs0 := hsl.1
              refine zv_ifB_eq (tgt := 91) hx hb dX10_turn_79 (by decide) (fun c79 => ?_) (fun c79 => ?_)
              · exact absurd trivial c79
              · refine lv_aload_n hx hb dX10_turn_82 rfl (lv_at hl 0 rfl) ?_
                refine zv_iconst hx hb dX10_turn_83 ?_
                refine zv_iconst hx hb dX10_turn_84 ?_
                refine zc_V (As := [.int (zI 0), .int (zI 0)]) (rest := []) S hK (kX10_letAt l g y sa ta oa f76 gt76 od76 (min (hc + 1) 4) hs tn 0 (zTurn w n x) n (by omega) hsl 0 (by omega)) (cwV 2 hts gX10_turn_X10_letAt rfl rfl rfl (by decide +kernel) ⟨Nat.le_of_ble_eq_true rfl, Nat.le_of_ble_eq_true rfl⟩) (hX) (hX.recv hK) rfl hl.1 rfl (Nat.le_of_ble_eq_true rfl) dX10_turn_85 ⟨Nat.zero_le _, Nat.zero_le _⟩ (fun r85 hr85 => ?_)
                obtain ⟨z85, rfl, hz85⟩ := hr85
                refine lv_goto (tgt := 93) hx hb dX10_turn_88 (by decide) ?_
                exact zw_i hx hb hr hlocks hS dX10_turn_93 (by rw [show sTurn w n ee en hc u un hs tc tn x = _ from (zIf_t c7).trans ((zIf_f (by omega)).trans (zIf_f e76))]; exact ⟨congrArg zI hz85.1, ⟨_, _, _, hX, hm, hgt⟩⟩)
          · refine lv_aload_n hx hb dX10_turn_44 rfl (lv_at hl 0 rfl) ?_
            refine va_get (D := g.1) (ci := 5) (v := .ref sa) (C := RX10) (T := TX10) (N := 6) hx hb hts mX10_turn_0 hown hK (hX.gy) 0 rfl rfl 0 (by decide) (hts _ mX10_turn_1) (fun _ h9 => h9) rfl dX10_turn_45 ?_
            refine zv_sipush hx hb dX10_turn_48 (by decide +kernel) ?_
            refine lv_iload_n hx hb dX10_turn_51 rfl (lv_at hl 2 rfl) ?_
            refine zv_iadd hx hb dX10_turn_52 ?_
            refine lv_aload_n hx hb dX10_turn_53 rfl (lv_at hl 0 rfl) ?_
            refine zv_iconst hx hb dX10_turn_54 ?_
            refine lv_iload_n hx hb dX10_turn_55 rfl (lv_at hl 2 rfl) ?_
            refine lv_iload_n hx hb dX10_turn_56 rfl (lv_at hl 1 rfl) ?_
            refine zv_iadd hx hb dX10_turn_57 ?_
            refine lv_aload_n hx hb dX10_turn_58 rfl (lv_at hl 0 rfl) ?_
            refine va_get (D := g.1) (ci := 5) (v := .ref sa) (C := RX10) (T := TX10) (N := 6) hx hb hts mX10_turn_0 hown hK (hX.gy) 0 rfl rfl 0 (by decide) (hts _ mX10_turn_1) (fun _ h9 => h9) rfl dX10_turn_59 ?_
            refine zv_iconst hx hb dX10_turn_62 ?_
            refine zy_ild hx hb hK hX (by omega) dX10_turn_63 ?_
            refine zv_irem hx hb dX10_turn_64 (by omega) (by omega) ?_
            refine zc_V (As := [.int (zI 0), .int (zI ((k + x) % (f1 0)))]) (rest := [.int (zI (247 + k)), .ref sa]) S hK (kX10_letAt l g y sa ta oa f1 gt od hc hs tn 0 w n (by omega) sl1 ((k + x) % (f1 0)) (by rw [l1]; exact ⟨Int.emod_nonneg _ (by omega), Int.emod_lt_of_pos _ (by omega)⟩)) (cwV 2 hts gX10_turn_X10_letAt rfl rfl rfl (by decide +kernel) ⟨Nat.le_of_ble_eq_true rfl, Nat.le_of_ble_eq_true rfl⟩) (hX) (hX.recv hK) rfl hl.1 rfl (Nat.le_of_ble_eq_true rfl) dX10_turn_65 ⟨Nat.zero_le _, Nat.zero_le _⟩ (fun r65 hr65 => ?_)
            obtain ⟨z65, rfl, hz65⟩ := hr65
            refine zy_ist hx hb hK hX hS (by omega) (by omega) dX10_turn_68 (fun H1 locs hX hS => ?_)
            obtain ⟨f68, e68⟩ : ∃ z9, z9 = zApp f1 (247 + k) z65 := ⟨_, rfl⟩
            rw [← e68] at hX
            have r68 : f68 (247 + k) = z65 := by rw [e68]; exact zApp_eq _ _ _
            have q68 : ∀ x9, x9 ≠ 247 + k → f68 x9 = f1 x9 := fun x9 h => by rw [e68]; exact zApp_ne h
            refine zv_iinc (lv' := [(2, .int (zI (k + 1))), (0, .ref y), (1, .int (zI x))]) hx hb dX10_turn_69 hl (k := 2) rfl (by decide) rfl (fun ls hl => ?_)
            refine lv_goto (tgt := 34) hx hb dX10_turn_72 (by decide) ?_
            exact ih34 (k + 1) f68 _ _ (by omega) (fun x9 a b => by rw [q68 x9 (by omega)]; exact h1 x9 a b) (fun x9 a b => (show x9 < k ∨ x9 = k by omega).elim (fun v => by rw [q68 _ (by omega)]; exact h2 x9 a v) (fun v => by rw [v, r68]; exact (by rw [hz65.1, l1]; exact zTurn_mod (by omega) (by omega)))) (hX) (hS) (by omega) _ (lv_sub hl [1, 2, 0] rfl)
      exact lp34 _ 0 f29 _ _ (by omega) (fun _ _ _ => rfl) (fun x9 a b => absurd b (by omega)) (hX) (hS) (Nat.lt_succ_self _) _ (lv_sub hl [1, 2, 0] rfl)
    · refine zv_iconst hx hb dX10_turn_23 ?_
      exact zw_i hx hb hr hlocks hS dX10_turn_24 (by rw [show sTurn w n ee en hc u un hs tc tn x = _ from (zIf_t c7).trans (zIf_t (by omega))]; exact ⟨rfl, ⟨_, _, _, hX, hm, hgt⟩⟩)
  · refine zv_bipush hx hb dX10_turn_10 (by decide +kernel) ?_
    exact zw_i hx hb hr hlocks hS dX10_turn_12 (by rw [show sTurn w n ee en hc u un hs tc tn x = _ from zIf_f c7]; exact ⟨rfl, ⟨_, _, _, hX, hm, hgt⟩⟩)

theorem mkX10_letAtR_0 : ∀ w ∈ wsX100, w ∈ wsX10_letAt := by decide +kernel
theorem mkX10_letAtR_1 : (Cond.fieldLink RX10 7 "BorderRunsModel" "s" "[I") ∈ wsX10_letAt := by decide +kernel
set_option maxHeartbeats 4000000 in
set_option maxRecDepth 100000 in
/-- X10_letAt -/
theorem kX10_letAtR (l : Launch) (g : zG) (y sa ta oa : Nat) (f gt od : Int → Int) (sv ik tp : Int) (b i : Int) (hi : 0 ≤ b ∧ 0 ≤ i ∧ b + 1 + i < 287) : Met l yX10_letAt wsX10_letAt (zRm 0 0) (zP g [.ref y, .int (zI b), .int (zI i)] (RM g y sa ta oa f gt od sv ik tp)) (vp_Si (fun r => r = zI (f (b + 1 + i)))) 0 0 (fun _ => False) := by
  refine Met.ofZ (cc := cX10_letAt) (maxL := 3) (ret := (some .int)) (by decide) rfl (Nat.le_of_ble_eq_true rfl) ?_
  intro p e s m args below meth c ls hx hb hr hlocks S hin hK hpic hl
  have hown := S.2.2.2.1
  have hts := S.2.2.2.2
  have hl : lv_has ls 3 [(0, .ref y), (1, .int (zI b)), (2, .int (zI i))] := hl
  obtain ⟨F, G, O, hP, hF, hG, hO, hdis, hrg⟩ := id hpic
  refine lv_aload_n hx hb dX10_letAt_0 rfl (lv_at hl 0 rfl) ?_
  refine va_get (D := g.1) (ci := 5) (v := .ref sa) (C := RX10) (T := TX10) (N := 6) hx hb hts mkX10_letAtR_0 hown hK hP 0 rfl rfl 0 (by decide) (hts _ mkX10_letAtR_1) (fun _ h9 => h9) rfl dX10_letAt_1 ?_
  refine lv_iload_n hx hb dX10_letAt_4 rfl (lv_at hl 1 rfl) ?_
  refine zv_iconst hx hb dX10_letAt_5 ?_
  refine zv_iadd hx hb dX10_letAt_6 ?_
  refine lv_iload_n hx hb dX10_letAt_7 rfl (lv_at hl 2 rfl) ?_
  refine zv_iadd hx hb dX10_letAt_8 ?_
  refine va_iald (D := g.1) hx hb hK hP 1 0 rfl rfl (zI_in (by omega) (by decide)) dX10_letAt_9 ?_
  rw [zI_cl (by omega)]
  rw [(hF ((b + 1) + i) (by omega) (by omega)).1]
  exact zr_i hx hb hr hlocks dX10_letAt_10 rfl

theorem mX10_fold_0 : ∀ w ∈ wsX100, w ∈ wsX10_fold := by decide +kernel
theorem mX10_fold_1 : (Cond.fieldLink RX10 7 "BorderRunsModel" "s" "[I") ∈ wsX10_fold := by decide +kernel
set_option maxHeartbeats 4000000 in
set_option maxRecDepth 100000 in
/-- X10_fold -/
theorem kX10_fold (l : Launch) (g : zG) (y sa ta oa : Nat) (w : Int → Int) (n : Int) (ee : Nat → Int → Int) (en : Nat → Int) (hc : Int) (u : Int → Int) (un hs : Int) (tc : Int → Int) (tn : Int) (i j : Int) (hi : -2147483648 ≤ i ∧ i < 2147483648) (hj : -2147483648 ≤ j ∧ j < 2147483648) : Met l yX10_fold wsX10_fold (zRm 2 44) (zP g [.ref y, .int (zI i), .int (zI j)] (AM g y sa ta oa w n ee en hc u un hs tc tn)) (zQi (fun r H => r = zI (sFold w n ee en hc u un hs tc tn i j).1 ∧ AMt g y sa ta oa (sFold w n ee en hc u un hs tc tn i j).2 H) (zA4 y sa ta oa)) 0 0 (zA4 y sa ta oa) := by
  refine Met.ofZ (cc := cX10_fold) (maxL := 4) (ret := (some .int)) (by decide) rfl (Nat.le_of_ble_eq_true rfl) ?_
  intro p e s m args below meth c ls hx hb hr hlocks S hin hK hpic hl
  have hown := S.2.2.2.1
  have hts := S.2.2.2.2
  have hl : lv_has ls 4 [(0, .ref y), (1, .int (zI i)), (2, .int (zI j))] := hl
  obtain ⟨f, gt, od, hX, hm, hgt⟩ := hpic
  have hR := hX.rg
  have hsl := hm.1
  have hs0 := hsl.1
  have hn := hsl.2.1
  have hS : va_S (zA4 y sa ta oa) s.heap s.heap [] := va_S.rf
  refine lv_aload_n hx hb dX10_fold_0 rfl (lv_at hl 0 rfl) ?_
  refine lv_iload_n hx hb dX10_fold_1 rfl (lv_at hl 1 rfl) ?_
  refine lv_iload_n hx hb dX10_fold_2 rfl (lv_at hl 2 rfl) ?_
  refine zc_V (As := [.int (zI i), .int (zI j)]) (rest := []) S hK (kX10_isFactor l g y sa ta oa f gt od hc hs tn w n hsl i j (by omega) (by omega)) (cwV 2 hts gX10_fold_X10_isFactor rfl rfl rfl (by decide +kernel) ⟨Nat.le_of_ble_eq_true rfl, Nat.le_of_ble_eq_true rfl⟩) (hX) (hX.recv hK) rfl hl.1 rfl (Nat.le_of_ble_eq_true rfl) dX10_fold_3 ⟨Nat.zero_le _, Nat.zero_le _⟩ (fun r3 hr3 => ?_)
  obtain rfl := hr3
  refine zv_ifB_ne (tgt := 11) hx hb dX10_fold_6 (by decide) (fun c6 => ?_) (fun c6 => ?_)
  · refine lv_aload_n hx hb dX10_fold_11 rfl (lv_at hl 0 rfl) ?_
    refine va_get (D := g.1) (ci := 5) (v := .ref sa) (C := RX10) (T := TX10) (N := 6) hx hb hts mX10_fold_0 hown hK (hX.gy) 0 rfl rfl 0 (by decide) (hts _ mX10_fold_1) (fun _ h9 => h9) rfl dX10_fold_12 ?_
    refine zv_iconst hx hb dX10_fold_15 ?_
    refine zy_ild hx hb hK hX (by omega) dX10_fold_16 ?_
    refine lv_iload_n hx hb dX10_fold_17 rfl (lv_at hl 2 rfl) ?_
    refine zv_iadd hx hb dX10_fold_18 ?_
    refine lv_iload_n hx hb dX10_fold_19 rfl (lv_at hl 1 rfl) ?_
    refine zv_isub hx hb dX10_fold_20 ?_
    refine zv_bipush hx hb dX10_fold_21 (by decide +kernel) ?_
    refine zv_icmp_le (tgt := 29) hx hb dX10_fold_23 (by decide) (by omega) (by omega) (fun c23 => ?_) (fun c23 => ?_)
    · refine lv_aload_n hx hb dX10_fold_29 rfl (lv_at hl 0 rfl) ?_
      refine zc_VWv (As := []) (rest := []) S hK (kX10_records l g y sa ta oa f gt od hc hs tn) (cwV 0 hts gX10_fold_X10_records rfl rfl rfl (by decide +kernel) ⟨Nat.le_of_ble_eq_true rfl, Nat.le_of_ble_eq_true rfl⟩) (hX) (hX.recv hK) rfl hl.1 rfl (Nat.le_of_ble_eq_true rfl) dX10_fold_30 ⟨Nat.zero_le _, Nat.zero_le _⟩ hS (fun _ h9 => h9) (fun H1 locs hp hz hk hS => ?_)
      obtain ⟨f30, sv30, es30, hX, ha30, hb30, hc30, hd30⟩ := hp
      have hm := hm.push hR.1 es30 ha30 hb30 hc30 hd30
      subst es30
      have hR := hX.rg
      have hsl := hm.1
      have hs0 := hsl.1
      refine lv_iload_n hx hb dX10_fold_33 rfl (lv_at hl 1 rfl) ?_
      refine lv_istore_n (lv' := [(3, .int (zI i)), (0, .ref y), (1, .int (zI i)), (2, .int (zI j))]) hx hb dX10_fold_34 rfl hl (by decide) rfl (fun ls hl => ?_)
      have lp35 : ∀ (z_f : Nat) (k : Int) (f1 : Int → Int) (H1 : Heap) (locs : List Loc), (i ≤ k ∧ k ≤ j) → (SL f1 0 (zExt w n w i) (n + (k - i))) → (∀ x9, 41 ≤ x9 → x9 < 246 → f1 x9 = f30 x9) → (RM g y sa ta oa f1 gt od (min (hc + 1) 4) hs tn H1) → (va_S (zA4 y sa ta oa) s.heap H1 locs) → ((j - k).toNat) < z_f → ∀ (ls : Array Slot), lv_has ls 4 [(0, .ref y), (1, .int (zI i)), (2, .int (zI j)), (3, .int (zI k))] → W p l e (zRm 2 44) s m args below meth c H1 locs 0 0 (MQ below (zQi (fun r H => r = zI (sFold w n ee en hc u un hs tc tn i j).1 ∧ AMt g y sa ta oa (sFold w n ee en hc u un hs tc tn i j).2 H) (zA4 y sa ta oa)) args s 0 0 (zA4 y sa ta oa)) (F0 m 35 ls []) := by
        intro z_f
        induction z_f with
        | zero => intro k f1 H1 locs h0 h1 h2 hX hS z_m; exact absurd z_m (Nat.not_lt_zero _)
        | succ z_f ih35 =>
          intro k f1 H1 locs h0 h1 h2 hX hS z_m35 ls hl
          have l1 := h1.1
          refine lv_iload_n hx hb dX10_fold_35 rfl (lv_at hl 3 rfl) ?_
          refine lv_iload_n hx hb dX10_fold_36 rfl (lv_at hl 2 rfl) ?_
          refine zv_icmp_ge (tgt := 73) hx hb dX10_fold_37 (by decide) (by omega) (by omega) (fun c37 => ?_) (fun c37 => ?_)
          · obtain rfl : k = j := by omega
            have hm := hm.set0 (f2 := f1) hR.1 h2 h1
            refine lv_aload_n hx hb dX10_fold_73 rfl (lv_at hl 0 rfl) ?_
            refine va_get (D := g.1) (ci := 5) (v := .ref sa) (C := RX10) (T := TX10) (N := 6) hx hb hts mX10_fold_0 hown hK (hX.gy) 0 rfl rfl 0 (by decide) (hts _ mX10_fold_1) (fun _ h9 => h9) rfl dX10_fold_74 ?_
            refine zv_iconst hx hb dX10_fold_77 ?_
            refine zy_ild hx hb hK hX (by omega) dX10_fold_78 ?_
            exact zw_i hx hb hr hlocks hS dX10_fold_79 (by rw [show sFold w n ee en hc u un hs tc tn i k = _ from (zIf_t c6).trans (zIf_f (by omega))]; exact ⟨congrArg zI l1, ⟨_, _, _, hX, hm, hgt⟩⟩)
          · refine lv_aload_n hx hb dX10_fold_40 rfl (lv_at hl 0 rfl) ?_
            refine va_get (D := g.1) (ci := 5) (v := .ref sa) (C := RX10) (T := TX10) (N := 6) hx hb hts mX10_fold_0 hown hK (hX.gy) 0 rfl rfl 0 (by decide) (hts _ mX10_fold_1) (fun _ h9 => h9) rfl dX10_fold_41 ?_
            refine zv_iconst hx hb dX10_fold_44 ?_
            refine lv_dup2_11 hx hb dX10_fold_45 rfl rfl ?_
            refine zy_ild hx hb hK hX (by omega) dX10_fold_46 ?_
            refine zv_iconst hx hb dX10_fold_47 ?_
            refine zv_iadd hx hb dX10_fold_48 ?_
            refine zy_ist hx hb hK hX hS (by omega) (by omega) dX10_fold_49 (fun H1 locs hX hS => ?_)
            obtain ⟨f49, e49⟩ : ∃ z9, z9 = zApp f1 0 ((f1 0) + 1) := ⟨_, rfl⟩
            rw [← e49] at hX
            have r49 : f49 0 = (f1 0) + 1 := by rw [e49]; exact zApp_eq _ _ _
            have q49 : ∀ x9, x9 ≠ 0 → f49 x9 = f1 x9 := fun x9 h => by rw [e49]; exact zApp_ne h
            refine lv_aload_n hx hb dX10_fold_50 rfl (lv_at hl 0 rfl) ?_
            refine va_get (D := g.1) (ci := 5) (v := .ref sa) (C := RX10) (T := TX10) (N := 6) hx hb hts mX10_fold_0 hown hK (hX.gy) 0 rfl rfl 0 (by decide) (hts _ mX10_fold_1) (fun _ h9 => h9) rfl dX10_fold_51 ?_
            refine lv_aload_n hx hb dX10_fold_54 rfl (lv_at hl 0 rfl) ?_
            refine va_get (D := g.1) (ci := 5) (v := .ref sa) (C := RX10) (T := TX10) (N := 6) hx hb hts mX10_fold_0 hown hK (hX.gy) 0 rfl rfl 0 (by decide) (hts _ mX10_fold_1) (fun _ h9 => h9) rfl dX10_fold_55 ?_
            refine zv_iconst hx hb dX10_fold_58 ?_
            refine zy_ild hx hb hK hX (by omega) dX10_fold_59 ?_
            have l49 : f49 0 = n + (k - i) + 1 := by omega
            have a62 : f49 (0 + 1 + k) = w k := by rw [q49 _ (by omega)]; exact (h1.2.2 k (by omega) (by omega)).1.trans (zExt_lo (by omega))
            have b62 := (hsl.2.2 k (by omega) (by omega)).2
            refine lv_aload_n hx hb dX10_fold_60 rfl (lv_at hl 0 rfl) ?_
            refine zv_iconst hx hb dX10_fold_61 ?_
            refine lv_iload_n hx hb dX10_fold_62 rfl (lv_at hl 3 rfl) ?_
            refine zc_V (As := [.int (zI 0), .int (zI k)]) (rest := [.int (zI (f49 0)), .ref sa]) S hK (kX10_letAtR l g y sa ta oa f49 gt od (min (hc + 1) 4) hs tn 0 k (by omega)) (cwV 2 hts gX10_fold_X10_letAt rfl rfl rfl (by decide +kernel) ⟨Nat.le_of_ble_eq_true rfl, Nat.le_of_ble_eq_true rfl⟩) (hX) (hX.recv hK) rfl hl.1 rfl (Nat.le_of_ble_eq_true rfl) dX10_fold_63 ⟨Nat.zero_le _, Nat.zero_le _⟩ (fun r63 hr63 => ?_)
            obtain rfl := hr63
            refine zy_ist hx hb hK hX hS (by omega) (by omega) dX10_fold_66 (fun H1 locs hX hS => ?_)
            obtain ⟨f66, e66⟩ : ∃ z9, z9 = zApp f49 (f49 0) (f49 (0 + 1 + k)) := ⟨_, rfl⟩
            rw [← e66] at hX
            have r66 : f66 (f49 0) = f49 (0 + 1 + k) := by rw [e66]; exact zApp_eq _ _ _
            have q66 : ∀ x9, x9 ≠ f49 0 → f66 x9 = f49 x9 := fun x9 h => by rw [e66]; exact zApp_ne h
            refine zv_iinc (lv' := [(3, .int (zI (k + 1))), (0, .ref y), (1, .int (zI i)), (2, .int (zI j))]) hx hb dX10_fold_67 hl (k := 3) rfl (by decide) rfl (fun ls hl => ?_)
            refine lv_goto (tgt := 35) hx hb dX10_fold_70 (by decide) ?_
            exact ih35 (k + 1) f66 _ _ (by omega) (((h1.app (x := w k) (f2 := f66) (by omega) b62 (by rw [q66 0 (by omega)]; exact l49) (by rw [show (0 : Int) + 1 + (n + (k - i)) = f49 0 by omega, r66]; exact a62) (fun z a b => by rw [q66 z (by omega), q49 z (by omega)])).word (n2 := n + (k + 1 - i)) (by omega) (fun z a b => zExt_step h0.1 z (by omega)))) (fun x9 a b => by rw [q66 x9 (by omega), q49 x9 (by omega)]; exact h2 x9 a b) (hX) (hS) (by omega) _ (lv_sub hl [1, 2, 3, 0] rfl)
      exact lp35 _ i f30 _ _ (by omega) (hsl.word (by omega) (fun k a b => zExt_lo (by omega))) (fun _ _ _ => rfl) (hX) (hS) (Nat.lt_succ_self _) _ (lv_sub hl [1, 2, 3, 0] rfl)
    · refine zv_bipush hx hb dX10_fold_26 (by decide +kernel) ?_
      exact zw_i hx hb hr hlocks hS dX10_fold_28 (by rw [show sFold w n ee en hc u un hs tc tn i j = _ from (zIf_t c6).trans (zIf_t (by omega))]; exact ⟨rfl, ⟨_, _, _, hX, hm, hgt⟩⟩)
  · refine zv_iconst hx hb dX10_fold_9 ?_
    exact zw_i hx hb hr hlocks hS dX10_fold_10 (by rw [show sFold w n ee en hc u un hs tc tn i j = _ from zIf_f c6]; exact ⟨rfl, ⟨_, _, _, hX, hm, hgt⟩⟩)

theorem mX10_isLetter_0 : ∀ w ∈ wsX100, w ∈ wsX10_isLetter := by decide +kernel
theorem mX10_isLetter_1 : (Cond.fieldLink RX10 88 "BorderRunsModel" "typed" "I") ∈ wsX10_isLetter := by decide +kernel
theorem mX10_isLetter_2 : (Cond.fieldLink RX10 13 "BorderRunsModel" "text" "[C") ∈ wsX10_isLetter := by decide +kernel
set_option maxHeartbeats 4000000 in
set_option maxRecDepth 100000 in
/-- X10_isLetter -/
theorem kX10_isLetter (l : Launch) (g : zG) (y sa ta oa : Nat) (f gt od : Int → Int) (sv ik tp : Int) (i : Int) (hi : 0 ≤ i ∧ i ≤ 60) : Met l yX10_isLetter wsX10_isLetter (zRm 1 22) (zP g [.ref y, .int (zI i)] (RM g y sa ta oa f gt od sv ik tp)) (vp_Si (fun r => r = zI (zB (i < tp ∧ 97 ≤ gt i ∧ gt i ≤ 122)))) 0 0 (fun _ => False) := by
  refine Met.ofZ (cc := cX10_isLetter) (maxL := 2) (ret := (some .boolean)) (by decide) rfl (Nat.le_of_ble_eq_true rfl) ?_
  intro p e s m args below meth c ls hx hb hr hlocks S hin hK hpic hl
  have hown := S.2.2.2.1
  have hts := S.2.2.2.2
  have hl : lv_has ls 2 [(0, .ref y), (1, .int (zI i))] := hl
  obtain ⟨F, G, O, hP, hF, hG, hO, hdis, hrg⟩ := id hpic
  have hgr : 0 ≤ i → i < 60 → _ := fun a b => (hG i a b).2
  refine lv_iload_n hx hb dX10_isLetter_0 rfl (lv_at hl 1 rfl) ?_
  refine lv_aload_n hx hb dX10_isLetter_1 rfl (lv_at hl 0 rfl) ?_
  refine va_get (D := g.1) (ci := 5) (v := .int (zI tp)) (C := RX10) (T := TX10) (N := 6) hx hb hts mX10_isLetter_0 hown hK hP 0 rfl rfl 4 (by decide) (hts _ mX10_isLetter_1) (fun _ h9 => h9) rfl dX10_isLetter_2 ?_
  refine zv_icmp_ge (tgt := 28) hx hb dX10_isLetter_5 (by decide) (by omega) (by omega) (fun c5 => ?_) (fun c5 => ?_)
  · refine zv_iconst hx hb dX10_isLetter_28 ?_
    exact zr_z hx hb hr hlocks dX10_isLetter_29 rfl (by rw [zB_f (fun q => by first | exact absurd q.1 (by omega) | exact c21 ⟨q.2.1, q.2.2⟩)])
  · refine lv_aload_n hx hb dX10_isLetter_8 rfl (lv_at hl 0 rfl) ?_
    refine va_get (D := g.1) (ci := 5) (v := .ref ta) (C := RX10) (T := TX10) (N := 6) hx hb hts mX10_isLetter_0 hown hK hP 0 rfl rfl 3 (by decide) (hts _ mX10_isLetter_2) (fun _ h9 => h9) rfl dX10_isLetter_9 ?_
    refine lv_iload_n hx hb dX10_isLetter_12 rfl (lv_at hl 1 rfl) ?_
    refine va_cald (D := g.1) hx hb hK hP 2 1 rfl rfl (zI_in (by omega) (by decide)) dX10_isLetter_13 ?_
    rw [zI_cl (by omega)]
    rw [(hG i (by omega) (by omega)).1]
    refine zv_bipush hx hb dX10_isLetter_14 (by decide +kernel) ?_
    refine zv_bipush hx hb dX10_isLetter_16 (by decide +kernel) ?_
    refine zc_S (As := [.int (zI (gt i)), .int (zI 97), .int (zI 122)]) (rest := []) S hK (kX10_in l g (gt i) 97 122 (by omega) (by omega) (by omega)) (va_cwS 3 hts gX10_isLetter_X10_in rfl rfl rfl (by decide +kernel) ⟨Nat.le_of_ble_eq_true rfl, Nat.le_of_ble_eq_true rfl⟩) (trivial) rfl hl.1 rfl (Nat.le_of_ble_eq_true rfl) dX10_isLetter_18 ⟨Nat.zero_le _, Nat.zero_le _⟩ (fun r18 hr18 => ?_)
    obtain rfl := hr18
    refine zv_ifB_eq (tgt := 28) hx hb dX10_isLetter_21 (by decide) (fun c21 => ?_) (fun c21 => ?_)
    · refine zv_iconst hx hb dX10_isLetter_28 ?_
      exact zr_z hx hb hr hlocks dX10_isLetter_29 rfl (by rw [zB_f (fun q => by first | exact absurd q.1 (by omega) | exact c21 ⟨q.2.1, q.2.2⟩)])
    · refine zv_iconst hx hb dX10_isLetter_24 ?_
      refine lv_goto (tgt := 29) hx hb dX10_isLetter_25 (by decide) ?_
      exact zr_z hx hb hr hlocks dX10_isLetter_29 rfl (by rw [zB_t ⟨by omega, by omega, by omega⟩])

theorem mX10_type_0 : ∀ w ∈ wsX100, w ∈ wsX10_type := by decide +kernel
theorem mX10_type_1 : (Cond.fieldLink RX10 88 "BorderRunsModel" "typed" "I") ∈ wsX10_type := by decide +kernel
theorem mX10_type_2 : (Cond.fieldLink RX10 13 "BorderRunsModel" "text" "[C") ∈ wsX10_type := by decide +kernel
set_option maxHeartbeats 4000000 in
set_option maxRecDepth 100000 in
/-- X10_type -/
theorem kX10_type (l : Launch) (g : zG) (y sa ta oa : Nat) (w : Int → Int) (n : Int) (ee : Nat → Int → Int) (en : Nat → Int) (hc : Int) (u : Int → Int) (un hs : Int) (tc : Int → Int) (tn : Int) (x : Int) (hx0 : 0 ≤ x ∧ x < 65536) : Met l yX10_type wsX10_type (zRm 0 0) (zP g [.ref y, .int (zI x)] (AM g y sa ta oa w n ee en hc u un hs tc tn)) (zQi (fun r H => r = zI (sType w n ee en hc u un hs tc tn x).1 ∧ AMt g y sa ta oa (sType w n ee en hc u un hs tc tn x).2 H) (zA4 y sa ta oa)) 0 0 (zA4 y sa ta oa) := by
  refine Met.ofZ (cc := cX10_type) (maxL := 2) (ret := (some .int)) (by decide) rfl (Nat.le_of_ble_eq_true rfl) ?_
  intro p e s m args below meth c ls hx hb hr hlocks S hin hK hpic hl
  have hown := S.2.2.2.1
  have hts := S.2.2.2.2
  have hl : lv_has ls 2 [(0, .ref y), (1, .int (zI x))] := hl
  obtain ⟨f, gt, od, hX, hm, hgt⟩ := hpic
  have hR := hX.rg
  have hsl := hm.1
  have hs0 := hsl.1
  have hn := hsl.2.1
  have hS : va_S (zA4 y sa ta oa) s.heap s.heap [] := va_S.rf
  refine lv_aload_n hx hb dX10_type_0 rfl (lv_at hl 0 rfl) ?_
  refine va_get (D := g.1) (ci := 5) (v := .int (zI tn)) (C := RX10) (T := TX10) (N := 6) hx hb hts mX10_type_0 hown hK (hX.gy) 0 rfl rfl 4 (by decide) (hts _ mX10_type_1) (fun _ h9 => h9) rfl dX10_type_1 ?_
  refine zv_bipush hx hb dX10_type_4 (by decide +kernel) ?_
  refine zv_icmp_ne (tgt := 12) hx hb dX10_type_6 (by decide) (by omega) (by omega) (fun c6 => ?_) (fun c6 => ?_)
  · refine lv_aload_n hx hb dX10_type_12 rfl (lv_at hl 0 rfl) ?_
    refine va_get (D := g.1) (ci := 5) (v := .ref ta) (C := RX10) (T := TX10) (N := 6) hx hb hts mX10_type_0 hown hK (hX.gy) 0 rfl rfl 3 (by decide) (hts _ mX10_type_2) (fun _ h9 => h9) rfl dX10_type_13 ?_
    refine lv_aload_n hx hb dX10_type_16 rfl (lv_at hl 0 rfl) ?_
    refine va_get (D := g.1) (ci := 5) (v := .int (zI tn)) (C := RX10) (T := TX10) (N := 6) hx hb hts mX10_type_0 hown hK (hX.gy) 0 rfl rfl 4 (by decide) (hts _ mX10_type_1) (fun _ h9 => h9) rfl dX10_type_17 ?_
    refine lv_iload_n hx hb dX10_type_20 rfl (lv_at hl 1 rfl) ?_
    refine zy_tst hx hb hK hX hS (by omega) (by omega) dX10_type_21 (fun H1 locs hX hS => ?_)
    obtain ⟨gt21, e21⟩ : ∃ z9, z9 = zApp gt tn x := ⟨_, rfl⟩
    rw [← e21] at hX
    have r21 : gt21 tn = x := by rw [e21]; exact zApp_eq _ _ _
    have q21 : ∀ x9, x9 ≠ tn → gt21 x9 = gt x9 := fun x9 h => by rw [e21]; exact zApp_ne h
    refine lv_aload_n hx hb dX10_type_22 rfl (lv_at hl 0 rfl) ?_
    refine lv_dup hx hb dX10_type_23 rfl ?_
    refine va_get (D := g.1) (ci := 5) (v := .int (zI tn)) (C := RX10) (T := TX10) (N := 6) hx hb hts mX10_type_0 hown hK (hX.gy) 0 rfl rfl 4 (by decide) (hts _ mX10_type_1) (fun _ h9 => h9) rfl dX10_type_24 ?_
    refine zv_iconst hx hb dX10_type_27 ?_
    refine zv_iadd hx hb dX10_type_28 ?_
    refine zx_put (D := g.1) (A := (zA4 y sa ta oa)) (ci := 5) (v := .int (zI (tn + 1))) (ty := .int) (C := RX10) (T := TX10) (N := 6) hx hb hts mX10_type_0 tyX10 tyX10_ok nmX10 hown hK (hX.gy) (Or.inl rfl) hS rfl 4 (by decide) (hts _ mX10_type_1) (fun _ h9 => h9) rfl (by decide +kernel) rfl rfl (Nat.le_of_ble_eq_true rfl) dX10_type_29 (fun H1 locs hp hk hS => ?_)
    have hX := hX.put hk hp (by omega)
    refine lv_aload_n hx hb dX10_type_32 rfl (lv_at hl 0 rfl) ?_
    refine va_get (D := g.1) (ci := 5) (v := .int (zI (tn + 1))) (C := RX10) (T := TX10) (N := 6) hx hb hts mX10_type_0 hown hK (hX.gy) 0 rfl rfl 4 (by decide) (hts _ mX10_type_1) (fun _ h9 => h9) rfl dX10_type_33 ?_
    exact zw_i hx hb hr hlocks hS dX10_type_36 (by rw [show sType w n ee en hc u un hs tc tn x = _ from zIf_f (by omega)]; exact ⟨rfl, (show AM g y sa ta oa w n ee en hc u un hs (zApp tc tn x) (tn + 1) _ from ⟨_, _, _, hX, hm, fun k a b => (show k = tn ∨ k < tn by omega).elim (fun v => by rw [v, r21, zApp_eq]) (fun v => by rw [q21 k (by omega), zApp_ne (by omega)]; exact hgt k a v)⟩)⟩)
  · refine zv_bipush hx hb dX10_type_9 (by decide +kernel) ?_
    exact zw_i hx hb hr hlocks hS dX10_type_11 (by rw [show sType w n ee en hc u un hs tc tn x = _ from zIf_t (by omega)]; exact ⟨rfl, ⟨_, _, _, hX, hm, hgt⟩⟩)

theorem mX10_clearText_0 : ∀ w ∈ wsX100, w ∈ wsX10_clearText := by decide +kernel
theorem mX10_clearText_1 : (Cond.fieldLink RX10 88 "BorderRunsModel" "typed" "I") ∈ wsX10_clearText := by decide +kernel
set_option maxHeartbeats 4000000 in
set_option maxRecDepth 100000 in
/-- X10_clearText -/
theorem kX10_clearText (l : Launch) (g : zG) (y sa ta oa : Nat) (w : Int → Int) (n : Int) (ee : Nat → Int → Int) (en : Nat → Int) (hc : Int) (u : Int → Int) (un hs : Int) (tc : Int → Int) (tn : Int)  : Met l yX10_clearText wsX10_clearText (zRm 0 0) (zP g [.ref y] (AM g y sa ta oa w n ee en hc u un hs tc tn)) (zQi (fun r H => r = zI (sClear w n ee en hc u un hs tc tn ).1 ∧ AMt g y sa ta oa (sClear w n ee en hc u un hs tc tn ).2 H) (zA4 y sa ta oa)) 0 0 (zA4 y sa ta oa) := by
  refine Met.ofZ (cc := cX10_clearText) (maxL := 2) (ret := (some .int)) (by decide) rfl (Nat.le_of_ble_eq_true rfl) ?_
  intro p e s m args below meth c ls hx hb hr hlocks S hin hK hpic hl
  have hown := S.2.2.2.1
  have hts := S.2.2.2.2
  have hl : lv_has ls 2 [(0, .ref y)] := hl
  obtain ⟨f, gt, od, hX, hm, hgt⟩ := hpic
  have hR := hX.rg
  have hsl := hm.1
  have hs0 := hsl.1
  have hn := hsl.2.1
  have hS : va_S (zA4 y sa ta oa) s.heap s.heap [] := va_S.rf
  refine lv_aload_n hx hb dX10_clearText_0 rfl (lv_at hl 0 rfl) ?_
  refine va_get (D := g.1) (ci := 5) (v := .int (zI tn)) (C := RX10) (T := TX10) (N := 6) hx hb hts mX10_clearText_0 hown hK (hX.gy) 0 rfl rfl 4 (by decide) (hts _ mX10_clearText_1) (fun _ h9 => h9) rfl dX10_clearText_1 ?_
  refine lv_istore_n (lv' := [(1, .int (zI tn)), (0, .ref y)]) hx hb dX10_clearText_4 rfl hl (by decide) rfl (fun ls hl => ?_)
  refine lv_aload_n hx hb dX10_clearText_5 rfl (lv_at hl 1 rfl) ?_
  refine zv_iconst hx hb dX10_clearText_6 ?_
  refine zx_put (D := g.1) (A := (zA4 y sa ta oa)) (ci := 5) (v := .int (zI 0)) (ty := .int) (C := RX10) (T := TX10) (N := 6) hx hb hts mX10_clearText_0 tyX10 tyX10_ok nmX10 hown hK (hX.gy) (Or.inl rfl) hS rfl 4 (by decide) (hts _ mX10_clearText_1) (fun _ h9 => h9) rfl (by decide +kernel) rfl rfl (Nat.le_of_ble_eq_true rfl) dX10_clearText_7 (fun H1 locs hp hk hS => ?_)
  have hX := hX.put hk hp (by omega)
  refine lv_iload_n hx hb dX10_clearText_10 rfl (lv_at hl 0 rfl) ?_
  exact zw_i hx hb hr hlocks hS dX10_clearText_11 (⟨rfl, (show AM g y sa ta oa w n ee en hc u un hs tc 0 _ from ⟨_, _, _, hX, hm, fun k a b => absurd b (by omega)⟩)⟩)

theorem mX10_undo_0 : ∀ w ∈ wsX100, w ∈ wsX10_undo := by decide +kernel
theorem mX10_undo_1 : (Cond.fieldLink RX10 20 "BorderRunsModel" "states" "I") ∈ wsX10_undo := by decide +kernel
set_option maxHeartbeats 4000000 in
set_option maxRecDepth 100000 in
/-- X10_undo -/
theorem kX10_undo (l : Launch) (g : zG) (y sa ta oa : Nat) (w : Int → Int) (n : Int) (ee : Nat → Int → Int) (en : Nat → Int) (hc : Int) (u : Int → Int) (un hs : Int) (tc : Int → Int) (tn : Int)  : Met l yX10_undo wsX10_undo (zRm 1 23) (zP g [.ref y] (AM g y sa ta oa w n ee en hc u un hs tc tn)) (zQi (fun r H => r = zI (sUndo w n ee en hc u un hs tc tn ).1 ∧ AMt g y sa ta oa (sUndo w n ee en hc u un hs tc tn ).2 H) (zA4 y sa ta oa)) 0 0 (zA4 y sa ta oa) := by
  refine Met.ofZ (cc := cX10_undo) (maxL := 1) (ret := (some .int)) (by decide) rfl (Nat.le_of_ble_eq_true rfl) ?_
  intro p e s m args below meth c ls hx hb hr hlocks S hin hK hpic hl
  have hown := S.2.2.2.1
  have hts := S.2.2.2.2
  have hl : lv_has ls 1 [(0, .ref y)] := hl
  obtain ⟨f, gt, od, hX, hm, hgt⟩ := hpic
  have hR := hX.rg
  have hsl := hm.1
  have hs0 := hsl.1
  have hn := hsl.2.1
  have hS : va_S (zA4 y sa ta oa) s.heap s.heap [] := va_S.rf
  refine lv_aload_n hx hb dX10_undo_0 rfl (lv_at hl 0 rfl) ?_
  refine va_get (D := g.1) (ci := 5) (v := .int (zI hc)) (C := RX10) (T := TX10) (N := 6) hx hb hts mX10_undo_0 hown hK (hX.gy) 0 rfl rfl 1 (by decide) (hts _ mX10_undo_1) (fun _ h9 => h9) rfl dX10_undo_1 ?_
  refine zv_if_ne (tgt := 10) hx hb dX10_undo_4 (by decide) (by omega) (fun c4 => ?_) (fun c4 => ?_)
  · refine lv_aload_n hx hb dX10_undo_10 rfl (lv_at hl 0 rfl) ?_
    refine lv_aload_n hx hb dX10_undo_11 rfl (lv_at hl 0 rfl) ?_
    refine va_get (D := g.1) (ci := 5) (v := .int (zI hc)) (C := RX10) (T := TX10) (N := 6) hx hb hts mX10_undo_0 hown hK (hX.gy) 0 rfl rfl 1 (by decide) (hts _ mX10_undo_1) (fun _ h9 => h9) rfl dX10_undo_12 ?_
    refine zv_iconst hx hb dX10_undo_15 ?_
    refine zc_VWv (As := [.int (zI hc), .int (zI 0)]) (rest := []) S hK (kX10_copies l g y sa ta oa f gt od hc hs tn hc 0 (by omega)) (cwV 2 hts gX10_undo_X10_copies rfl rfl rfl (by decide +kernel) ⟨Nat.le_of_ble_eq_true rfl, Nat.le_of_ble_eq_true rfl⟩) (hX) (hX.recv hK) rfl hl.1 rfl (Nat.le_of_ble_eq_true rfl) dX10_undo_16 ⟨Nat.zero_le _, Nat.zero_le _⟩ hS (fun _ h9 => h9) (fun H1 locs hp hz hk hS => ?_)
    have hX := hp
    obtain ⟨f16, e16⟩ : ∃ z9, z9 = zCp f hc 0 41 := ⟨_, rfl⟩
    rw [← e16] at hX
    have k16 : ∀ x9, 0 ≤ x9 → x9 < 41 → f16 (41 * 0 + x9) = f (41 * hc + x9) := fun x9 a9 b9 => by rw [e16, zCp_in (by omega)]; congr 1; omega
    have o16 : ∀ x9, x9 < 41 * 0 ∨ 41 * 0 + 41 ≤ x9 → f16 x9 = f x9 := fun x9 h => by rw [e16, zCp_out (by omega)]
    refine lv_aload_n hx hb dX10_undo_19 rfl (lv_at hl 0 rfl) ?_
    refine lv_dup hx hb dX10_undo_20 rfl ?_
    refine va_get (D := g.1) (ci := 5) (v := .int (zI hc)) (C := RX10) (T := TX10) (N := 6) hx hb hts mX10_undo_0 hown hK (hX.gy) 0 rfl rfl 1 (by decide) (hts _ mX10_undo_1) (fun _ h9 => h9) rfl dX10_undo_21 ?_
    refine zv_iconst hx hb dX10_undo_24 ?_
    refine zv_isub hx hb dX10_undo_25 ?_
    refine zx_put (D := g.1) (A := (zA4 y sa ta oa)) (ci := 5) (v := .int (zI (hc - 1))) (ty := .int) (C := RX10) (T := TX10) (N := 6) hx hb hts mX10_undo_0 tyX10 tyX10_ok nmX10 hown hK (hX.gy) (Or.inl rfl) hS rfl 1 (by decide) (hts _ mX10_undo_1) (fun _ h9 => h9) rfl (by decide +kernel) rfl rfl (Nat.le_of_ble_eq_true rfl) dX10_undo_26 (fun H1 locs hp hk hS => ?_)
    have hX := hX.put hk hp (by omega)
    refine lv_aload_n hx hb dX10_undo_29 rfl (lv_at hl 0 rfl) ?_
    refine va_get (D := g.1) (ci := 5) (v := .int (zI (hc - 1))) (C := RX10) (T := TX10) (N := 6) hx hb hts mX10_undo_0 hown hK (hX.gy) 0 rfl rfl 1 (by decide) (hts _ mX10_undo_1) (fun _ h9 => h9) rfl dX10_undo_30 ?_
    exact zw_i hx hb hr hlocks hS dX10_undo_33 (by rw [show sUndo w n ee en hc u un hs tc tn  = _ from zIf_f (by omega)]; exact ⟨rfl, (show AM g y sa ta oa (ee 0) (en 0) (fun j => ee (j + 1)) (fun j => en (j + 1)) (hc - 1) u un hs tc tn _ from ⟨_, _, _, hX, ⟨(hm.2.1 0 (by omega)).mv (fun k a b => by rw [show (0 : Int) + k = 41 * 0 + k by omega, k16 k a b]; congr 1; omega), fun j hj => (hm.2.1 (j + 1) (by omega)).mv (fun k a b => by rw [o16 _ (by omega)]; congr 1; omega), fun z => (hm.2.2 z).mv (fun k a b => o16 _ (by omega))⟩, hgt⟩)⟩)
  · refine zv_bipush hx hb dX10_undo_7 (by decide +kernel) ?_
    exact zw_i hx hb hr hlocks hS dX10_undo_9 (by rw [show sUndo w n ee en hc u un hs tc tn  = _ from zIf_t (by omega)]; exact ⟨rfl, ⟨_, _, _, hX, hm, hgt⟩⟩)

theorem mX10_keep_0 : ∀ w ∈ wsX100, w ∈ wsX10_keep := by decide +kernel
theorem mX10_keep_1 : (Cond.fieldLink RX10 98 "BorderRunsModel" "isKept" "Z") ∈ wsX10_keep := by decide +kernel
theorem mX10_keep_2 : (Cond.fieldLink RX10 7 "BorderRunsModel" "s" "[I") ∈ wsX10_keep := by decide +kernel
set_option maxHeartbeats 4000000 in
set_option maxRecDepth 100000 in
/-- X10_keep -/
theorem kX10_keep (l : Launch) (g : zG) (y sa ta oa : Nat) (w : Int → Int) (n : Int) (ee : Nat → Int → Int) (en : Nat → Int) (hc : Int) (u : Int → Int) (un hs : Int) (tc : Int → Int) (tn : Int)  : Met l yX10_keep wsX10_keep (zRm 1 23) (zP g [.ref y] (AM g y sa ta oa w n ee en hc u un hs tc tn)) (zQi (fun r H => r = zI (sKeep w n ee en hc tc tn).1 ∧ AMt g y sa ta oa (sKeep w n ee en hc tc tn).2 H) (zA4 y sa ta oa)) 0 0 (zA4 y sa ta oa) := by
  refine Met.ofZ (cc := cX10_keep) (maxL := 1) (ret := (some .int)) (by decide) rfl (Nat.le_of_ble_eq_true rfl) ?_
  intro p e s m args below meth c ls hx hb hr hlocks S hin hK hpic hl
  have hown := S.2.2.2.1
  have hts := S.2.2.2.2
  have hl : lv_has ls 1 [(0, .ref y)] := hl
  obtain ⟨f, gt, od, hX, hm, hgt⟩ := hpic
  have hR := hX.rg
  have hsl := hm.1
  have hs0 := hsl.1
  have hn := hsl.2.1
  have hS : va_S (zA4 y sa ta oa) s.heap s.heap [] := va_S.rf
  refine lv_aload_n hx hb dX10_keep_0 rfl (lv_at hl 0 rfl) ?_
  refine zv_iconst hx hb dX10_keep_1 ?_
  refine zv_iconst hx hb dX10_keep_2 ?_
  refine zc_VWv (As := [.int (zI 0), .int (zI 5)]) (rest := []) S hK (kX10_copies l g y sa ta oa f gt od hc hs tn 0 5 (by omega)) (cwV 2 hts gX10_keep_X10_copies rfl rfl rfl (by decide +kernel) ⟨Nat.le_of_ble_eq_true rfl, Nat.le_of_ble_eq_true rfl⟩) (hX) (hX.recv hK) rfl hl.1 rfl (Nat.le_of_ble_eq_true rfl) dX10_keep_3 ⟨Nat.zero_le _, Nat.zero_le _⟩ hS (fun _ h9 => h9) (fun H1 locs hp hz hk hS => ?_)
  have hX := hp
  obtain ⟨f3, e3⟩ : ∃ z9, z9 = zCp f 0 5 41 := ⟨_, rfl⟩
  rw [← e3] at hX
  have k3 : ∀ x9, 0 ≤ x9 → x9 < 41 → f3 (41 * 5 + x9) = f (41 * 0 + x9) := fun x9 a9 b9 => by rw [e3, zCp_in (by omega)]; congr 1; omega
  have o3 : ∀ x9, x9 < 41 * 5 ∨ 41 * 5 + 41 ≤ x9 → f3 x9 = f x9 := fun x9 h => by rw [e3, zCp_out (by omega)]
  refine lv_aload_n hx hb dX10_keep_6 rfl (lv_at hl 0 rfl) ?_
  refine zv_iconst hx hb dX10_keep_7 ?_
  refine zx_put (D := g.1) (A := (zA4 y sa ta oa)) (ci := 5) (v := .int (zI 1)) (ty := .boolean) (C := RX10) (T := TX10) (N := 6) hx hb hts mX10_keep_0 tyX10 tyX10_ok nmX10 hown hK (hX.gy) (Or.inl rfl) hS rfl 2 (by decide) (hts _ mX10_keep_1) (fun _ h9 => h9) rfl (by decide +kernel) rfl rfl (Nat.le_of_ble_eq_true rfl) dX10_keep_8 (fun H1 locs hp hk hS => ?_)
  have hX := hX.put hk hp (by omega)
  have l3 : f3 0 = n := by rw [o3 0 (by omega)]; exact hs0
  refine lv_aload_n hx hb dX10_keep_11 rfl (lv_at hl 0 rfl) ?_
  refine va_get (D := g.1) (ci := 5) (v := .ref sa) (C := RX10) (T := TX10) (N := 6) hx hb hts mX10_keep_0 hown hK (hX.gy) 0 rfl rfl 0 (by decide) (hts _ mX10_keep_2) (fun _ h9 => h9) rfl dX10_keep_12 ?_
  refine zv_iconst hx hb dX10_keep_15 ?_
  refine zy_ild hx hb hK hX (by omega) dX10_keep_16 ?_
  exact zw_i hx hb hr hlocks hS dX10_keep_17 (⟨congrArg zI l3, (show AM g y sa ta oa w n ee en hc w n 1 tc tn _ from ⟨_, _, _, hX, ⟨hsl.mv (fun k a b => o3 _ (by omega)), fun j hj => (hm.2.1 j hj).mv (fun k a b => o3 _ (by omega)), fun _ => hsl.mv (fun k a b => by rw [show (205 : Int) + k = 41 * 5 + k by omega, show (0 : Int) + k = 41 * 0 + k by omega]; exact k3 k a b)⟩, hgt⟩)⟩)

theorem mX10_restore_0 : ∀ w ∈ wsX100, w ∈ wsX10_restore := by decide +kernel
theorem mX10_restore_1 : (Cond.fieldLink RX10 98 "BorderRunsModel" "isKept" "Z") ∈ wsX10_restore := by decide +kernel
theorem mX10_restore_2 : (Cond.fieldLink RX10 7 "BorderRunsModel" "s" "[I") ∈ wsX10_restore := by decide +kernel
set_option maxHeartbeats 4000000 in
set_option maxRecDepth 100000 in
/-- X10_restore -/
theorem kX10_restore (l : Launch) (g : zG) (y sa ta oa : Nat) (w : Int → Int) (n : Int) (ee : Nat → Int → Int) (en : Nat → Int) (hc : Int) (u : Int → Int) (un hs : Int) (tc : Int → Int) (tn : Int)  : Met l yX10_restore wsX10_restore (zRm 2 44) (zP g [.ref y] (AM g y sa ta oa w n ee en hc u un hs tc tn)) (zQi (fun r H => r = zI (sRestore w n ee en hc u un hs tc tn ).1 ∧ AMt g y sa ta oa (sRestore w n ee en hc u un hs tc tn ).2 H) (zA4 y sa ta oa)) 0 0 (zA4 y sa ta oa) := by
  refine Met.ofZ (cc := cX10_restore) (maxL := 1) (ret := (some .int)) (by decide) rfl (Nat.le_of_ble_eq_true rfl) ?_
  intro p e s m args below meth c ls hx hb hr hlocks S hin hK hpic hl
  have hown := S.2.2.2.1
  have hts := S.2.2.2.2
  have hl : lv_has ls 1 [(0, .ref y)] := hl
  obtain ⟨f, gt, od, hX, hm, hgt⟩ := hpic
  have hR := hX.rg
  have hsl := hm.1
  have hs0 := hsl.1
  have hn := hsl.2.1
  have hS : va_S (zA4 y sa ta oa) s.heap s.heap [] := va_S.rf
  refine lv_aload_n hx hb dX10_restore_0 rfl (lv_at hl 0 rfl) ?_
  refine va_get (D := g.1) (ci := 5) (v := .int (zI hs)) (C := RX10) (T := TX10) (N := 6) hx hb hts mX10_restore_0 hown hK (hX.gy) 0 rfl rfl 2 (by decide) (hts _ mX10_restore_1) (fun _ h9 => h9) rfl dX10_restore_1 ?_
  refine zv_if_ne (tgt := 10) hx hb dX10_restore_4 (by decide) (by omega) (fun c4 => ?_) (fun c4 => ?_)
  · refine lv_aload_n hx hb dX10_restore_10 rfl (lv_at hl 0 rfl) ?_
    refine zc_VWv (As := []) (rest := []) S hK (kX10_records l g y sa ta oa f gt od hc hs tn) (cwV 0 hts gX10_restore_X10_records rfl rfl rfl (by decide +kernel) ⟨Nat.le_of_ble_eq_true rfl, Nat.le_of_ble_eq_true rfl⟩) (hX) (hX.recv hK) rfl hl.1 rfl (Nat.le_of_ble_eq_true rfl) dX10_restore_11 ⟨Nat.zero_le _, Nat.zero_le _⟩ hS (fun _ h9 => h9) (fun H1 locs hp hz hk hS => ?_)
    obtain ⟨f11, sv11, es11, hX, ha11, hb11, hc11, hd11⟩ := hp
    have hm := hm.push hR.1 es11 ha11 hb11 hc11 hd11
    subst es11
    have hR := hX.rg
    have hsl := hm.1
    have hs0 := hsl.1
    refine lv_aload_n hx hb dX10_restore_14 rfl (lv_at hl 0 rfl) ?_
    refine zv_iconst hx hb dX10_restore_15 ?_
    refine zv_iconst hx hb dX10_restore_16 ?_
    refine zc_VWv (As := [.int (zI 5), .int (zI 0)]) (rest := []) S hK (kX10_copies l g y sa ta oa f11 gt od (min (hc + 1) 4) hs tn 5 0 (by omega)) (cwV 2 hts gX10_restore_X10_copies rfl rfl rfl (by decide +kernel) ⟨Nat.le_of_ble_eq_true rfl, Nat.le_of_ble_eq_true rfl⟩) (hX) (hX.recv hK) rfl hl.1 rfl (Nat.le_of_ble_eq_true rfl) dX10_restore_17 ⟨Nat.zero_le _, Nat.zero_le _⟩ hS (fun _ h9 => h9) (fun H1 locs hp hz hk hS => ?_)
    have hX := hp
    obtain ⟨f17, e17⟩ : ∃ z9, z9 = zCp f11 5 0 41 := ⟨_, rfl⟩
    rw [← e17] at hX
    have k17 : ∀ x9, 0 ≤ x9 → x9 < 41 → f17 (41 * 0 + x9) = f11 (41 * 5 + x9) := fun x9 a9 b9 => by rw [e17, zCp_in (by omega)]; congr 1; omega
    have o17 : ∀ x9, x9 < 41 * 0 ∨ 41 * 0 + 41 ≤ x9 → f17 x9 = f11 x9 := fun x9 h => by rw [e17, zCp_out (by omega)]
    have sl2 : SL f17 0 u un := (hm.2.2 (by omega)).mv (fun k a b => by rw [show (0 : Int) + k = 41 * 0 + k by omega, show (205 : Int) + k = 41 * 5 + k by omega]; exact k17 k a b)
    have l17 := sl2.1
    have hm := hm.set0 (f2 := f17) hR.1 (fun k a b => o17 k (by omega)) sl2
    refine lv_aload_n hx hb dX10_restore_20 rfl (lv_at hl 0 rfl) ?_
    refine va_get (D := g.1) (ci := 5) (v := .ref sa) (C := RX10) (T := TX10) (N := 6) hx hb hts mX10_restore_0 hown hK (hX.gy) 0 rfl rfl 0 (by decide) (hts _ mX10_restore_2) (fun _ h9 => h9) rfl dX10_restore_21 ?_
    refine zv_iconst hx hb dX10_restore_24 ?_
    refine zy_ild hx hb hK hX (by omega) dX10_restore_25 ?_
    exact zw_i hx hb hr hlocks hS dX10_restore_26 (by rw [show sRestore w n ee en hc u un hs tc tn  = _ from zIf_f (by omega)]; exact ⟨congrArg zI l17, ⟨_, _, _, hX, hm, hgt⟩⟩)
  · refine zv_bipush hx hb dX10_restore_7 (by decide +kernel) ?_
    exact zw_i hx hb hr hlocks hS dX10_restore_9 (by rw [show sRestore w n ee en hc u un hs tc tn  = _ from zIf_t (by omega)]; exact ⟨rfl, ⟨_, _, _, hX, hm, hgt⟩⟩)

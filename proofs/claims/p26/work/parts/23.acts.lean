theorem mX9_add_0 : ∀ w ∈ wsX90, w ∈ wsX9_add := by decide +kernel
theorem mX9_add_1 : (Cond.fieldLink RX9 10 "BorderRuns" "word" "LBorderRuns$Word;") ∈ wsX9_add := by decide +kernel
theorem mX9_add_2 : (Cond.fieldLink RX9 16 "BorderRuns" "draft" "LBorderRuns$Word;") ∈ wsX9_add := by decide +kernel
set_option maxHeartbeats 4000000 in
set_option maxRecDepth 100000 in
/-- X9_add -/
theorem kX9_add (l : Launch) (g : zG) (ad : Nat → Nat) (w : Int → Int) (n : Int) (ee : Nat → Int → Int) (en : Nat → Int) (hc : Int) (u : Int → Int) (un hs : Int) (tc : Int → Int) (tn : Int) (x : Int) (hx0 : -2147483648 ≤ x ∧ x < 2147483648) : Met l yX9_add wsX9_add (zRm 5 109) (zP g [.ref (ad 16), .int (zI x)] (AX g ad w n ee en hc u un hs tc tn)) (zQi (fun r H => r = zI (sAdd w n ee en hc u un hs tc tn x).1 ∧ AXt g ad (sAdd w n ee en hc u un hs tc tn x).2 H) (zAx ad)) 0 0 (zAx ad) := by
  refine Met.ofZ (cc := cX9_add) (maxL := 2) (ret := (some .int)) (by decide) rfl (Nat.le_of_ble_eq_true rfl) ?_
  intro p e s m args below meth c ls hx hb hr hlocks S hin hK hpic hl
  have hown := S.2.2.2.1
  have hts := S.2.2.2.2
  have hl : lv_has ls 2 [(0, .ref (ad 16)), (1, .int (zI x))] := hl
  obtain ⟨d, dn, u9, un9, hf, hn, v, vn, nx, pf, ig, bp, hX, hsn, hrg⟩ := hpic
  have hg := hX.grg
  have hn0 := hX.gw.1
  have hd0 := hX.gd.1
  have hu0 := hX.gu.1
  have hv0 := hX.gv.1
  have ht0 := hX.gt.1
  have hS : va_S (zAx ad) s.heap s.heap [] := va_S.rf
  refine lv_iload_n hx hb dX9_add_0 rfl (lv_at hl 1 rfl) ?_
  refine zc_S (As := [.int (zI x)]) (rest := []) S hK (kX9_isLetter l g x (by omega)) (va_cwS 1 hts gX9_add_X9_isLetter rfl rfl rfl (by decide +kernel) ⟨Nat.le_of_ble_eq_true rfl, Nat.le_of_ble_eq_true rfl⟩) (trivial) rfl hl.1 rfl (Nat.le_of_ble_eq_true rfl) dX9_add_1 ⟨Nat.zero_le _, Nat.zero_le _⟩ (fun r1 hr1 => ?_)
  obtain rfl := hr1
  refine zv_ifB_ne (tgt := 10) hx hb dX9_add_4 (by decide) (fun c4 => ?_) (fun c4 => ?_)
  · refine lv_aload_n hx hb dX9_add_10 rfl (lv_at hl 0 rfl) ?_
    refine va_get (D := g.1) (ci := 4) (v := .ref (ad 0)) (C := RX9) (T := TX9) (N := 7) hx hb hts mX9_add_0 hown hK (hX.gx) 0 rfl rfl 0 (by decide) (hts _ mX9_add_1) (fun _ h9 => h9) rfl dX9_add_11 ?_
    refine zc_V (As := []) (rest := []) S hK (kX8_isFull l g (ad 0) (ad 1) w n  ) (cwV 0 hts gX9_add_X8_isFull rfl rfl rfl (by decide +kernel) ⟨Nat.le_of_ble_eq_true rfl, Nat.le_of_ble_eq_true rfl⟩) ((hX.gw)) ((hX.gw).recv hK) rfl hl.1 rfl (Nat.le_of_ble_eq_true rfl) dX9_add_14 ⟨Nat.zero_le _, Nat.zero_le _⟩ (fun r14 hr14 => ?_)
    obtain rfl := hr14
    refine zv_ifB_eq (tgt := 23) hx hb dX9_add_17 (by decide) (fun c17 => ?_) (fun c17 => ?_)
    · refine lv_aload_n hx hb dX9_add_23 rfl (lv_at hl 0 rfl) ?_
      refine lv_iload_n hx hb dX9_add_24 rfl (lv_at hl 1 rfl) ?_
      refine zc_VWv (As := [.int (zI x)]) (rest := []) S hK (kX9_draftWith l g ad w n d dn u9 un9 hf hn v vn hs nx hc tn pf ig bp tc x (by omega) (by omega)) (cwV 1 hts gX9_add_X9_draftWith rfl rfl rfl (by decide +kernel) ⟨Nat.le_of_ble_eq_true rfl, Nat.le_of_ble_eq_true rfl⟩) (hX) (hX.recvx hK) rfl hl.1 rfl (Nat.le_of_ble_eq_true rfl) dX9_add_25 ⟨Nat.zero_le _, Nat.zero_le _⟩ hS (fun q h => h) (fun H1 locs hp hz hk hS => ?_)
      have hX := hp
      refine lv_aload_n hx hb dX9_add_28 rfl (lv_at hl 0 rfl) ?_
      refine lv_aload_n hx hb dX9_add_29 rfl (lv_at hl 0 rfl) ?_
      refine va_get (D := g.1) (ci := 4) (v := .ref (ad 2)) (C := RX9) (T := TX9) (N := 7) hx hb hts mX9_add_0 hown hK (hX.gx) 0 rfl rfl 1 (by decide) (hts _ mX9_add_2) (fun _ h9 => h9) rfl dX9_add_30 ?_
      refine zc_VWv (As := [.ref (ad 2)]) (rest := []) S hK (kX9_become_d l g ad w n (zApp w n x) (n + 1) u9 un9 hf hn v vn hs nx hc tn pf ig bp tc) (cwV 1 hts gX9_add_X9_become rfl rfl rfl (by decide +kernel) ⟨Nat.le_of_ble_eq_true rfl, Nat.le_of_ble_eq_true rfl⟩) (hX) (hX.recvx hK) rfl hl.1 rfl (Nat.le_of_ble_eq_true rfl) dX9_add_33 ⟨Nat.zero_le _, Nat.zero_le _⟩ hS (fun q h => h) (fun H1 locs hp hz hk hS => ?_)
      have hX := hp
      refine lv_aload_n hx hb dX9_add_36 rfl (lv_at hl 0 rfl) ?_
      refine va_get (D := g.1) (ci := 4) (v := .ref (ad 0)) (C := RX9) (T := TX9) (N := 7) hx hb hts mX9_add_0 hown hK (hX.gx) 0 rfl rfl 0 (by decide) (hts _ mX9_add_1) (fun _ h9 => h9) rfl dX9_add_37 ?_
      refine zv_iconst hx hb dX9_add_40 ?_
      refine lv_aload_n hx hb dX9_add_41 rfl (lv_at hl 0 rfl) ?_
      refine va_get (D := g.1) (ci := 4) (v := .ref (ad 0)) (C := RX9) (T := TX9) (N := 7) hx hb hts mX9_add_0 hown hK (hX.gx) 0 rfl rfl 0 (by decide) (hts _ mX9_add_1) (fun _ h9 => h9) rfl dX9_add_42 ?_
      refine zc_V (As := []) (rest := [.int (zI 0), .ref (ad 0)]) S hK (kX8_length l g (ad 0) (ad 1) (zApp w n x) (n + 1)) (cwV 0 hts gX9_add_X8_length rfl rfl rfl (by decide +kernel) ⟨Nat.le_of_ble_eq_true rfl, Nat.le_of_ble_eq_true rfl⟩) ((hX.gw)) ((hX.gw).recv hK) rfl hl.1 rfl (Nat.le_of_ble_eq_true rfl) dX9_add_45 ⟨Nat.zero_le _, Nat.zero_le _⟩ (fun r45 hr45 => ?_)
      obtain rfl := hr45
      refine zc_S (As := [.ref (ad 0), .int (zI 0), .int (zI (n + 1))]) (rest := []) S hK (kX2_longestBorder l g (ad 0) (ad 1) (zApp w n x) (n + 1) 0 (n + 1) (by omega)) (va_cwS 3 hts gX9_add_X2_longestBorder rfl rfl rfl (by decide +kernel) ⟨Nat.le_of_ble_eq_true rfl, Nat.le_of_ble_eq_true rfl⟩) ((hX.gw)) rfl hl.1 rfl (Nat.le_of_ble_eq_true rfl) dX9_add_48 ⟨Nat.zero_le _, Nat.zero_le _⟩ (fun r48 hr48 => ?_)
      obtain ⟨z48, rfl, hz48⟩ := hr48
      exact zw_i hx hb hr hlocks hS dX9_add_51 (by rw [show sAdd w n ee en hc u un hs tc tn x = _ from (zIf_t c4).trans (zIf_f c17)]; exact ⟨congrArg zI (hz48.1.trans (by rw [show n + 1 - 0 = n + 1 by omega])), AX.rec (by omega) hX hsn hrg rfl (fun _ _ _ => rfl)⟩)
    · refine zv_bipush hx hb dX9_add_20 (by decide +kernel) ?_
      exact zw_i hx hb hr hlocks hS dX9_add_22 (by rw [show sAdd w n ee en hc u un hs tc tn x = _ from (zIf_t c4).trans (zIf_t c17)]; exact ⟨rfl, AX.of hX hsn hrg⟩)
  · refine zv_bipush hx hb dX9_add_7 (by decide +kernel) ?_
    exact zw_i hx hb hr hlocks hS dX9_add_9 (by rw [show sAdd w n ee en hc u un hs tc tn x = _ from zIf_f c4]; exact ⟨rfl, AX.of hX hsn hrg⟩)

theorem mX9_drop_0 : ∀ w ∈ wsX90, w ∈ wsX9_drop := by decide +kernel
theorem mX9_drop_1 : (Cond.fieldLink RX9 10 "BorderRuns" "word" "LBorderRuns$Word;") ∈ wsX9_drop := by decide +kernel
theorem mX9_drop_2 : (Cond.fieldLink RX9 16 "BorderRuns" "draft" "LBorderRuns$Word;") ∈ wsX9_drop := by decide +kernel
set_option maxHeartbeats 4000000 in
set_option maxRecDepth 100000 in
/-- X9_drop -/
theorem kX9_drop (l : Launch) (g : zG) (ad : Nat → Nat) (w : Int → Int) (n : Int) (ee : Nat → Int → Int) (en : Nat → Int) (hc : Int) (u : Int → Int) (un hs : Int) (tc : Int → Int) (tn : Int) (x : Int) (hx0 : -2147483648 ≤ x ∧ x < 2147483648) : Met l yX9_drop wsX9_drop (zRm 5 109) (zP g [.ref (ad 16), .int (zI x)] (AX g ad w n ee en hc u un hs tc tn)) (zQi (fun r H => r = zI (sDrop w n ee en hc u un hs tc tn x).1 ∧ AXt g ad (sDrop w n ee en hc u un hs tc tn x).2 H) (zAx ad)) 0 0 (zAx ad) := by
  refine Met.ofZ (cc := cX9_drop) (maxL := 2) (ret := (some .int)) (by decide) rfl (Nat.le_of_ble_eq_true rfl) ?_
  intro p e s m args below meth c ls hx hb hr hlocks S hin hK hpic hl
  have hown := S.2.2.2.1
  have hts := S.2.2.2.2
  have hl : lv_has ls 2 [(0, .ref (ad 16)), (1, .int (zI x))] := hl
  obtain ⟨d, dn, u9, un9, hf, hn, v, vn, nx, pf, ig, bp, hX, hsn, hrg⟩ := hpic
  have hg := hX.grg
  have hn0 := hX.gw.1
  have hd0 := hX.gd.1
  have hu0 := hX.gu.1
  have hv0 := hX.gv.1
  have ht0 := hX.gt.1
  have hS : va_S (zAx ad) s.heap s.heap [] := va_S.rf
  refine lv_iload_n hx hb dX9_drop_0 rfl (lv_at hl 1 rfl) ?_
  refine zv_iconst hx hb dX9_drop_1 ?_
  refine zv_icmp_lt (tgt := 11) hx hb dX9_drop_2 (by decide) (by omega) (by omega) (fun c2 => ?_) (fun c2 => ?_)
  · refine zv_bipush hx hb dX9_drop_11 (by decide +kernel) ?_
    exact zw_i hx hb hr hlocks hS dX9_drop_13 (by rw [show sDrop w n ee en hc u un hs tc tn x = _ from zIf_f (by omega)]; exact ⟨rfl, AX.of hX hsn hrg⟩)
  · refine lv_iload_n hx hb dX9_drop_5 rfl (lv_at hl 1 rfl) ?_
    refine zv_bipush hx hb dX9_drop_6 (by decide +kernel) ?_
    refine zv_icmp_le (tgt := 14) hx hb dX9_drop_8 (by decide) (by omega) (by omega) (fun c8 => ?_) (fun c8 => ?_)
    · refine lv_iload_n hx hb dX9_drop_14 rfl (lv_at hl 1 rfl) ?_
      refine lv_aload_n hx hb dX9_drop_15 rfl (lv_at hl 0 rfl) ?_
      refine va_get (D := g.1) (ci := 4) (v := .ref (ad 0)) (C := RX9) (T := TX9) (N := 7) hx hb hts mX9_drop_0 hown hK (hX.gx) 0 rfl rfl 0 (by decide) (hts _ mX9_drop_1) (fun _ h9 => h9) rfl dX9_drop_16 ?_
      refine zc_V (As := []) (rest := [.int (zI x)]) S hK (kX8_length l g (ad 0) (ad 1) w n) (cwV 0 hts gX9_drop_X8_length rfl rfl rfl (by decide +kernel) ⟨Nat.le_of_ble_eq_true rfl, Nat.le_of_ble_eq_true rfl⟩) ((hX.gw)) ((hX.gw).recv hK) rfl hl.1 rfl (Nat.le_of_ble_eq_true rfl) dX9_drop_19 ⟨Nat.zero_le _, Nat.zero_le _⟩ (fun r19 hr19 => ?_)
      obtain rfl := hr19
      refine zv_icmp_le (tgt := 27) hx hb dX9_drop_22 (by decide) (by omega) (by omega) (fun c22 => ?_) (fun c22 => ?_)
      · refine lv_aload_n hx hb dX9_drop_27 rfl (lv_at hl 0 rfl) ?_
        refine va_get (D := g.1) (ci := 4) (v := .ref (ad 2)) (C := RX9) (T := TX9) (N := 7) hx hb hts mX9_drop_0 hown hK (hX.gx) 0 rfl rfl 1 (by decide) (hts _ mX9_drop_2) (fun _ h9 => h9) rfl dX9_drop_28 ?_
        refine zc_VWv (As := []) (rest := []) S hK (kX8_clear l g (ad 2) (ad 3) d dn) (cwV 0 hts gX9_drop_X8_clear rfl rfl rfl (by decide +kernel) ⟨Nat.le_of_ble_eq_true rfl, Nat.le_of_ble_eq_true rfl⟩) ((hX.gd)) ((hX.gd).recv hK) rfl hl.1 rfl (Nat.le_of_ble_eq_true rfl) dX9_drop_31 ⟨Nat.zero_le _, Nat.zero_le _⟩ hS (zAx_2 (by omega) (by omega)) (fun H1 locs hp hz hk hS => ?_)
        have hX := hX.setD hk hp
        refine lv_aload_n hx hb dX9_drop_34 rfl (lv_at hl 0 rfl) ?_
        refine va_get (D := g.1) (ci := 4) (v := .ref (ad 2)) (C := RX9) (T := TX9) (N := 7) hx hb hts mX9_drop_0 hown hK (hX.gx) 0 rfl rfl 1 (by decide) (hts _ mX9_drop_2) (fun _ h9 => h9) rfl dX9_drop_35 ?_
        refine lv_aload_n hx hb dX9_drop_38 rfl (lv_at hl 0 rfl) ?_
        refine va_get (D := g.1) (ci := 4) (v := .ref (ad 0)) (C := RX9) (T := TX9) (N := 7) hx hb hts mX9_drop_0 hown hK (hX.gx) 0 rfl rfl 0 (by decide) (hts _ mX9_drop_1) (fun _ h9 => h9) rfl dX9_drop_39 ?_
        refine zv_iconst hx hb dX9_drop_42 ?_
        refine lv_aload_n hx hb dX9_drop_43 rfl (lv_at hl 0 rfl) ?_
        refine va_get (D := g.1) (ci := 4) (v := .ref (ad 0)) (C := RX9) (T := TX9) (N := 7) hx hb hts mX9_drop_0 hown hK (hX.gx) 0 rfl rfl 0 (by decide) (hts _ mX9_drop_1) (fun _ h9 => h9) rfl dX9_drop_44 ?_
        refine zc_V (As := []) (rest := [.int (zI 0), .ref (ad 0), .ref (ad 2)]) S hK (kX8_length l g (ad 0) (ad 1) w n) (cwV 0 hts gX9_drop_X8_length rfl rfl rfl (by decide +kernel) ⟨Nat.le_of_ble_eq_true rfl, Nat.le_of_ble_eq_true rfl⟩) ((hX.gw)) ((hX.gw).recv hK) rfl hl.1 rfl (Nat.le_of_ble_eq_true rfl) dX9_drop_47 ⟨Nat.zero_le _, Nat.zero_le _⟩ (fun r47 hr47 => ?_)
        obtain rfl := hr47
        refine lv_iload_n hx hb dX9_drop_50 rfl (lv_at hl 1 rfl) ?_
        refine zv_isub hx hb dX9_drop_51 ?_
        refine zc_VWv (As := [.ref (ad 0), .int (zI 0), .int (zI (n - x))]) (rest := []) S hK (kX8_appendFactor l g (ad 2) (ad 3) d 0 (ad 0) (ad 1) w n ⟨hX.gj.ne (by omega) (by omega) (by omega), hX.gj.ne (by omega) (by omega) (by omega), hX.gj.ne (by omega) (by omega) (by omega), hX.gj.ne (by omega) (by omega) (by omega)⟩ 0 (n - x) (by omega)) (cwV 3 hts gX9_drop_X8_appendFactor rfl rfl rfl (by decide +kernel) ⟨Nat.le_of_ble_eq_true rfl, Nat.le_of_ble_eq_true rfl⟩) (⟨(hX.gd), (hX.gw)⟩) ((hX.gd).recv hK) rfl hl.1 rfl (Nat.le_of_ble_eq_true rfl) dX9_drop_52 ⟨Nat.zero_le _, Nat.zero_le _⟩ hS (zAx_2 (by omega) (by omega)) (fun H1 locs hp hz hk hS => ?_)
        have hX := hX.setD hk hp
        refine lv_aload_n hx hb dX9_drop_55 rfl (lv_at hl 0 rfl) ?_
        refine lv_aload_n hx hb dX9_drop_56 rfl (lv_at hl 0 rfl) ?_
        refine va_get (D := g.1) (ci := 4) (v := .ref (ad 2)) (C := RX9) (T := TX9) (N := 7) hx hb hts mX9_drop_0 hown hK (hX.gx) 0 rfl rfl 1 (by decide) (hts _ mX9_drop_2) (fun _ h9 => h9) rfl dX9_drop_57 ?_
        refine zc_VWv (As := [.ref (ad 2)]) (rest := []) S hK (kX9_become_d l g ad w n (zExt d 0 w 0) (0 + ((n - x) - 0)) u9 un9 hf hn v vn hs nx hc tn pf ig bp tc) (cwV 1 hts gX9_drop_X9_become rfl rfl rfl (by decide +kernel) ⟨Nat.le_of_ble_eq_true rfl, Nat.le_of_ble_eq_true rfl⟩) (hX) (hX.recvx hK) rfl hl.1 rfl (Nat.le_of_ble_eq_true rfl) dX9_drop_60 ⟨Nat.zero_le _, Nat.zero_le _⟩ hS (fun q h => h) (fun H1 locs hp hz hk hS => ?_)
        have hX := hp
        refine lv_aload_n hx hb dX9_drop_63 rfl (lv_at hl 0 rfl) ?_
        refine va_get (D := g.1) (ci := 4) (v := .ref (ad 0)) (C := RX9) (T := TX9) (N := 7) hx hb hts mX9_drop_0 hown hK (hX.gx) 0 rfl rfl 0 (by decide) (hts _ mX9_drop_1) (fun _ h9 => h9) rfl dX9_drop_64 ?_
        refine zc_V (As := []) (rest := []) S hK (kX8_length l g (ad 0) (ad 1) (zExt d 0 w 0) (0 + ((n - x) - 0))) (cwV 0 hts gX9_drop_X8_length rfl rfl rfl (by decide +kernel) ⟨Nat.le_of_ble_eq_true rfl, Nat.le_of_ble_eq_true rfl⟩) ((hX.gw)) ((hX.gw).recv hK) rfl hl.1 rfl (Nat.le_of_ble_eq_true rfl) dX9_drop_67 ⟨Nat.zero_le _, Nat.zero_le _⟩ (fun r67 hr67 => ?_)
        obtain rfl := hr67
        exact zw_i hx hb hr hlocks hS dX9_drop_70 (by rw [show sDrop w n ee en hc u un hs tc tn x = _ from (zIf_t (by omega)).trans (zIf_f (by omega))]; exact ⟨congrArg zI (show 0 + (n - x - 0) = n - x by omega), AX.rec (by omega) hX hsn hrg (by omega) (fun k h1 h2 => by rw [zExt_hi (by omega), show 0 + (k - 0) = k by omega])⟩)
      · refine zv_iconst hx hb dX9_drop_25 ?_
        exact zw_i hx hb hr hlocks hS dX9_drop_26 (by rw [show sDrop w n ee en hc u un hs tc tn x = _ from (zIf_t (by omega)).trans (zIf_t (by omega))]; exact ⟨rfl, AX.of hX hsn hrg⟩)
    · refine zv_bipush hx hb dX9_drop_11 (by decide +kernel) ?_
      exact zw_i hx hb hr hlocks hS dX9_drop_13 (by rw [show sDrop w n ee en hc u un hs tc tn x = _ from zIf_f (by omega)]; exact ⟨rfl, AX.of hX hsn hrg⟩)

theorem mX9_change_0 : ∀ w ∈ wsX90, w ∈ wsX9_change := by decide +kernel
theorem mX9_change_1 : (Cond.fieldLink RX9 10 "BorderRuns" "word" "LBorderRuns$Word;") ∈ wsX9_change := by decide +kernel
theorem mX9_change_2 : (Cond.fieldLink RX9 16 "BorderRuns" "draft" "LBorderRuns$Word;") ∈ wsX9_change := by decide +kernel
set_option maxHeartbeats 4000000 in
set_option maxRecDepth 100000 in
/-- X9_change -/
theorem kX9_change (l : Launch) (g : zG) (ad : Nat → Nat) (w : Int → Int) (n : Int) (ee : Nat → Int → Int) (en : Nat → Int) (hc : Int) (u : Int → Int) (un hs : Int) (tc : Int → Int) (tn : Int) (i x : Int) (hi : -2147483648 ≤ i ∧ i < 2147483648) (hx0 : -2147483648 ≤ x ∧ x < 2147483648) : Met l yX9_change wsX9_change (zRm 5 109) (zP g [.ref (ad 16), .int (zI i), .int (zI x)] (AX g ad w n ee en hc u un hs tc tn)) (zQi (fun r H => r = zI (sChange w n ee en hc u un hs tc tn i x).1 ∧ AXt g ad (sChange w n ee en hc u un hs tc tn i x).2 H) (zAx ad)) 0 0 (zAx ad) := by
  refine Met.ofZ (cc := cX9_change) (maxL := 4) (ret := (some .int)) (by decide) rfl (Nat.le_of_ble_eq_true rfl) ?_
  intro p e s m args below meth c ls hx hb hr hlocks S hin hK hpic hl
  have hown := S.2.2.2.1
  have hts := S.2.2.2.2
  have hl : lv_has ls 4 [(0, .ref (ad 16)), (1, .int (zI i)), (2, .int (zI x))] := hl
  obtain ⟨d, dn, u9, un9, hf, hn, v, vn, nx, pf, ig, bp, hX, hsn, hrg⟩ := hpic
  have hg := hX.grg
  have hn0 := hX.gw.1
  have hd0 := hX.gd.1
  have hu0 := hX.gu.1
  have hv0 := hX.gv.1
  have ht0 := hX.gt.1
  have hS : va_S (zAx ad) s.heap s.heap [] := va_S.rf
  refine lv_aload_n hx hb dX9_change_0 rfl (lv_at hl 0 rfl) ?_
  refine va_get (D := g.1) (ci := 4) (v := .ref (ad 0)) (C := RX9) (T := TX9) (N := 7) hx hb hts mX9_change_0 hown hK (hX.gx) 0 rfl rfl 0 (by decide) (hts _ mX9_change_1) (fun _ h9 => h9) rfl dX9_change_1 ?_
  refine lv_iload_n hx hb dX9_change_4 rfl (lv_at hl 1 rfl) ?_
  refine zc_V (As := [.int (zI i)]) (rest := []) S hK (kX8_isPlace l g (ad 0) (ad 1) w n i (by omega)) (cwV 1 hts gX9_change_X8_isPlace rfl rfl rfl (by decide +kernel) ⟨Nat.le_of_ble_eq_true rfl, Nat.le_of_ble_eq_true rfl⟩) ((hX.gw)) ((hX.gw).recv hK) rfl hl.1 rfl (Nat.le_of_ble_eq_true rfl) dX9_change_5 ⟨Nat.zero_le _, Nat.zero_le _⟩ (fun r5 hr5 => ?_)
  obtain rfl := hr5
  refine zv_ifB_ne (tgt := 13) hx hb dX9_change_8 (by decide) (fun c8 => ?_) (fun c8 => ?_)
  · refine lv_iload_n hx hb dX9_change_13 rfl (lv_at hl 2 rfl) ?_
    refine zc_S (As := [.int (zI x)]) (rest := []) S hK (kX9_isLetter l g x (by omega)) (va_cwS 1 hts gX9_change_X9_isLetter rfl rfl rfl (by decide +kernel) ⟨Nat.le_of_ble_eq_true rfl, Nat.le_of_ble_eq_true rfl⟩) (trivial) rfl hl.1 rfl (Nat.le_of_ble_eq_true rfl) dX9_change_14 ⟨Nat.zero_le _, Nat.zero_le _⟩ (fun r14 hr14 => ?_)
    obtain rfl := hr14
    refine zv_ifB_ne (tgt := 23) hx hb dX9_change_17 (by decide) (fun c17 => ?_) (fun c17 => ?_)
    · refine lv_aload_n hx hb dX9_change_23 rfl (lv_at hl 0 rfl) ?_
      refine va_get (D := g.1) (ci := 4) (v := .ref (ad 0)) (C := RX9) (T := TX9) (N := 7) hx hb hts mX9_change_0 hown hK (hX.gx) 0 rfl rfl 0 (by decide) (hts _ mX9_change_1) (fun _ h9 => h9) rfl dX9_change_24 ?_
      refine lv_iload_n hx hb dX9_change_27 rfl (lv_at hl 1 rfl) ?_
      refine zc_V (As := [.int (zI i)]) (rest := []) S hK (kX8_letterAt l g (ad 0) (ad 1) w n i (by omega)) (cwV 1 hts gX9_change_X8_letterAt rfl rfl rfl (by decide +kernel) ⟨Nat.le_of_ble_eq_true rfl, Nat.le_of_ble_eq_true rfl⟩) ((hX.gw)) ((hX.gw).recv hK) rfl hl.1 rfl (Nat.le_of_ble_eq_true rfl) dX9_change_28 ⟨Nat.zero_le _, Nat.zero_le _⟩ (fun r28 hr28 => ?_)
      obtain ⟨z28, rfl, hz28⟩ := hr28
      have e28 : z28 = w i := hz28.1 (by omega) (by omega)
      refine lv_istore_n (lv' := [(3, .int (zI z28)), (0, .ref (ad 16)), (1, .int (zI i)), (2, .int (zI x))]) hx hb dX9_change_31 rfl hl (by decide) rfl (fun ls hl => ?_)
      refine lv_iload_n hx hb dX9_change_32 rfl (lv_at hl 0 rfl) ?_
      refine lv_iload_n hx hb dX9_change_33 rfl (lv_at hl 3 rfl) ?_
      refine zv_icmp_ne (tgt := 40) hx hb dX9_change_34 (by decide) (by omega) (by omega) (fun c34 => ?_) (fun c34 => ?_)
      · refine lv_aload_n hx hb dX9_change_40 rfl (lv_at hl 1 rfl) ?_
        refine va_get (D := g.1) (ci := 4) (v := .ref (ad 2)) (C := RX9) (T := TX9) (N := 7) hx hb hts mX9_change_0 hown hK (hX.gx) 0 rfl rfl 1 (by decide) (hts _ mX9_change_2) (fun _ h9 => h9) rfl dX9_change_41 ?_
        refine zc_VWv (As := []) (rest := []) S hK (kX8_clear l g (ad 2) (ad 3) d dn) (cwV 0 hts gX9_change_X8_clear rfl rfl rfl (by decide +kernel) ⟨Nat.le_of_ble_eq_true rfl, Nat.le_of_ble_eq_true rfl⟩) ((hX.gd)) ((hX.gd).recv hK) rfl hl.1 rfl (Nat.le_of_ble_eq_true rfl) dX9_change_44 ⟨Nat.zero_le _, Nat.zero_le _⟩ hS (zAx_2 (by omega) (by omega)) (fun H1 locs hp hz hk hS => ?_)
        have hX := hX.setD hk hp
        refine lv_aload_n hx hb dX9_change_47 rfl (lv_at hl 1 rfl) ?_
        refine va_get (D := g.1) (ci := 4) (v := .ref (ad 2)) (C := RX9) (T := TX9) (N := 7) hx hb hts mX9_change_0 hown hK (hX.gx) 0 rfl rfl 1 (by decide) (hts _ mX9_change_2) (fun _ h9 => h9) rfl dX9_change_48 ?_
        refine lv_aload_n hx hb dX9_change_51 rfl (lv_at hl 1 rfl) ?_
        refine va_get (D := g.1) (ci := 4) (v := .ref (ad 0)) (C := RX9) (T := TX9) (N := 7) hx hb hts mX9_change_0 hown hK (hX.gx) 0 rfl rfl 0 (by decide) (hts _ mX9_change_1) (fun _ h9 => h9) rfl dX9_change_52 ?_
        refine zv_iconst hx hb dX9_change_55 ?_
        refine lv_iload_n hx hb dX9_change_56 rfl (lv_at hl 2 rfl) ?_
        refine zc_VWv (As := [.ref (ad 0), .int (zI 0), .int (zI i)]) (rest := []) S hK (kX8_appendFactor l g (ad 2) (ad 3) d 0 (ad 0) (ad 1) w n ⟨hX.gj.ne (by omega) (by omega) (by omega), hX.gj.ne (by omega) (by omega) (by omega), hX.gj.ne (by omega) (by omega) (by omega), hX.gj.ne (by omega) (by omega) (by omega)⟩ 0 i (by omega)) (cwV 3 hts gX9_change_X8_appendFactor rfl rfl rfl (by decide +kernel) ⟨Nat.le_of_ble_eq_true rfl, Nat.le_of_ble_eq_true rfl⟩) (⟨(hX.gd), (hX.gw)⟩) ((hX.gd).recv hK) rfl hl.1 rfl (Nat.le_of_ble_eq_true rfl) dX9_change_57 ⟨Nat.zero_le _, Nat.zero_le _⟩ hS (zAx_2 (by omega) (by omega)) (fun H1 locs hp hz hk hS => ?_)
        have hX := hX.setD hk hp
        refine lv_aload_n hx hb dX9_change_60 rfl (lv_at hl 1 rfl) ?_
        refine va_get (D := g.1) (ci := 4) (v := .ref (ad 2)) (C := RX9) (T := TX9) (N := 7) hx hb hts mX9_change_0 hown hK (hX.gx) 0 rfl rfl 1 (by decide) (hts _ mX9_change_2) (fun _ h9 => h9) rfl dX9_change_61 ?_
        refine lv_iload_n hx hb dX9_change_64 rfl (lv_at hl 3 rfl) ?_
        refine zc_VWv (As := [.int (zI x)]) (rest := []) S hK (kX8_append l g (ad 2) (ad 3) (zExt d 0 w 0) (0 + (i - 0)) x (by omega) (by omega)) (cwV 1 hts gX9_change_X8_append rfl rfl rfl (by decide +kernel) ⟨Nat.le_of_ble_eq_true rfl, Nat.le_of_ble_eq_true rfl⟩) ((hX.gd)) ((hX.gd).recv hK) rfl hl.1 rfl (Nat.le_of_ble_eq_true rfl) dX9_change_65 ⟨Nat.zero_le _, Nat.zero_le _⟩ hS (zAx_2 (by omega) (by omega)) (fun H1 locs hp hz hk hS => ?_)
        have hX := hX.setD hk hp
        refine lv_aload_n hx hb dX9_change_68 rfl (lv_at hl 1 rfl) ?_
        refine va_get (D := g.1) (ci := 4) (v := .ref (ad 2)) (C := RX9) (T := TX9) (N := 7) hx hb hts mX9_change_0 hown hK (hX.gx) 0 rfl rfl 1 (by decide) (hts _ mX9_change_2) (fun _ h9 => h9) rfl dX9_change_69 ?_
        refine lv_aload_n hx hb dX9_change_72 rfl (lv_at hl 1 rfl) ?_
        refine va_get (D := g.1) (ci := 4) (v := .ref (ad 0)) (C := RX9) (T := TX9) (N := 7) hx hb hts mX9_change_0 hown hK (hX.gx) 0 rfl rfl 0 (by decide) (hts _ mX9_change_1) (fun _ h9 => h9) rfl dX9_change_73 ?_
        refine lv_iload_n hx hb dX9_change_76 rfl (lv_at hl 2 rfl) ?_
        refine zv_iconst hx hb dX9_change_77 ?_
        refine zv_iadd hx hb dX9_change_78 ?_
        refine lv_aload_n hx hb dX9_change_79 rfl (lv_at hl 1 rfl) ?_
        refine va_get (D := g.1) (ci := 4) (v := .ref (ad 0)) (C := RX9) (T := TX9) (N := 7) hx hb hts mX9_change_0 hown hK (hX.gx) 0 rfl rfl 0 (by decide) (hts _ mX9_change_1) (fun _ h9 => h9) rfl dX9_change_80 ?_
        refine zc_V (As := []) (rest := [.int (zI (i + 1)), .ref (ad 0), .ref (ad 2)]) S hK (kX8_length l g (ad 0) (ad 1) w n) (cwV 0 hts gX9_change_X8_length rfl rfl rfl (by decide +kernel) ⟨Nat.le_of_ble_eq_true rfl, Nat.le_of_ble_eq_true rfl⟩) ((hX.gw)) ((hX.gw).recv hK) rfl hl.1 rfl (Nat.le_of_ble_eq_true rfl) dX9_change_83 ⟨Nat.zero_le _, Nat.zero_le _⟩ (fun r83 hr83 => ?_)
        obtain rfl := hr83
        refine zc_VWv (As := [.ref (ad 0), .int (zI (i + 1)), .int (zI n)]) (rest := []) S hK (kX8_appendFactor l g (ad 2) (ad 3) (zApp (zExt d 0 w 0) (0 + (i - 0)) x) ((0 + (i - 0)) + 1) (ad 0) (ad 1) w n ⟨hX.gj.ne (by omega) (by omega) (by omega), hX.gj.ne (by omega) (by omega) (by omega), hX.gj.ne (by omega) (by omega) (by omega), hX.gj.ne (by omega) (by omega) (by omega)⟩ (i + 1) n (by omega)) (cwV 3 hts gX9_change_X8_appendFactor rfl rfl rfl (by decide +kernel) ⟨Nat.le_of_ble_eq_true rfl, Nat.le_of_ble_eq_true rfl⟩) (⟨(hX.gd), (hX.gw)⟩) ((hX.gd).recv hK) rfl hl.1 rfl (Nat.le_of_ble_eq_true rfl) dX9_change_86 ⟨Nat.zero_le _, Nat.zero_le _⟩ hS (zAx_2 (by omega) (by omega)) (fun H1 locs hp hz hk hS => ?_)
        have hX := hX.setD hk hp
        refine lv_aload_n hx hb dX9_change_89 rfl (lv_at hl 1 rfl) ?_
        refine lv_aload_n hx hb dX9_change_90 rfl (lv_at hl 1 rfl) ?_
        refine va_get (D := g.1) (ci := 4) (v := .ref (ad 2)) (C := RX9) (T := TX9) (N := 7) hx hb hts mX9_change_0 hown hK (hX.gx) 0 rfl rfl 1 (by decide) (hts _ mX9_change_2) (fun _ h9 => h9) rfl dX9_change_91 ?_
        refine zc_VWv (As := [.ref (ad 2)]) (rest := []) S hK (kX9_become_d l g ad w n (zExt (zApp (zExt d 0 w 0) (0 + (i - 0)) x) ((0 + (i - 0)) + 1) w (i + 1)) (((0 + (i - 0)) + 1) + (n - (i + 1))) u9 un9 hf hn v vn hs nx hc tn pf ig bp tc) (cwV 1 hts gX9_change_X9_become rfl rfl rfl (by decide +kernel) ⟨Nat.le_of_ble_eq_true rfl, Nat.le_of_ble_eq_true rfl⟩) (hX) (hX.recvx hK) rfl hl.1 rfl (Nat.le_of_ble_eq_true rfl) dX9_change_94 ⟨Nat.zero_le _, Nat.zero_le _⟩ hS (fun q h => h) (fun H1 locs hp hz hk hS => ?_)
        have hX := hp
        refine lv_iload_n hx hb dX9_change_97 rfl (lv_at hl 0 rfl) ?_
        exact zw_i hx hb hr hlocks hS dX9_change_98 (by rw [show sChange w n ee en hc u un hs tc tn i x = _ from (zIf_t c8).trans ((zIf_t c17).trans (zIf_f (by omega)))]; exact ⟨congrArg zI e28, AX.rec (by omega) hX hsn hrg (by omega) (fun k h1 h2 => by
                rcases Int.lt_trichotomy k i with q | q | q
                · rw [zApp_ne (by omega), zExt_lo (by omega), zApp_ne (by omega), zExt_hi (by omega), show 0 + (k - 0) = k by omega]
                · subst q; rw [zApp_eq, zExt_lo (by omega), show 0 + (k - 0) = k by omega, zApp_eq]
                · rw [zApp_ne (by omega), zExt_hi (by omega), show i + 1 + (k - (0 + (i - 0) + 1)) = k by omega])⟩)
      · refine zv_bipush hx hb dX9_change_37 (by decide +kernel) ?_
        exact zw_i hx hb hr hlocks hS dX9_change_39 (by rw [show sChange w n ee en hc u un hs tc tn i x = _ from (zIf_t c8).trans ((zIf_t c17).trans (zIf_t (by omega)))]; exact ⟨rfl, AX.of hX hsn hrg⟩)
    · refine zv_bipush hx hb dX9_change_20 (by decide +kernel) ?_
      exact zw_i hx hb hr hlocks hS dX9_change_22 (by rw [show sChange w n ee en hc u un hs tc tn i x = _ from (zIf_t c8).trans (zIf_f c17)]; exact ⟨rfl, AX.of hX hsn hrg⟩)
  · refine zv_iconst hx hb dX9_change_11 ?_
    exact zw_i hx hb hr hlocks hS dX9_change_12 (by rw [show sChange w n ee en hc u un hs tc tn i x = _ from zIf_f c8]; exact ⟨rfl, AX.of hX hsn hrg⟩)

theorem mX9_reverse_0 : ∀ w ∈ wsX90, w ∈ wsX9_reverse := by decide +kernel
theorem mX9_reverse_1 : (Cond.fieldLink RX9 16 "BorderRuns" "draft" "LBorderRuns$Word;") ∈ wsX9_reverse := by decide +kernel
theorem mX9_reverse_2 : (Cond.fieldLink RX9 10 "BorderRuns" "word" "LBorderRuns$Word;") ∈ wsX9_reverse := by decide +kernel
set_option maxHeartbeats 4000000 in
set_option maxRecDepth 100000 in
/-- X9_reverse -/
theorem kX9_reverse (l : Launch) (g : zG) (ad : Nat → Nat) (w : Int → Int) (n : Int) (ee : Nat → Int → Int) (en : Nat → Int) (hc : Int) (u : Int → Int) (un hs : Int) (tc : Int → Int) (tn : Int)  : Met l yX9_reverse wsX9_reverse (zRm 5 109) (zP g [.ref (ad 16)] (AX g ad w n ee en hc u un hs tc tn)) (zQi (fun r H => r = zI (sReverse w n ee en hc u un hs tc tn ).1 ∧ AXt g ad (sReverse w n ee en hc u un hs tc tn ).2 H) (zAx ad)) 0 0 (zAx ad) := by
  refine Met.ofZ (cc := cX9_reverse) (maxL := 2) (ret := (some .int)) (by decide) rfl (Nat.le_of_ble_eq_true rfl) ?_
  intro p e s m args below meth c ls hx hb hr hlocks S hin hK hpic hl
  have hown := S.2.2.2.1
  have hts := S.2.2.2.2
  have hl : lv_has ls 2 [(0, .ref (ad 16))] := hl
  obtain ⟨d, dn, u9, un9, hf, hn, v, vn, nx, pf, ig, bp, hX, hsn, hrg⟩ := hpic
  have hg := hX.grg
  have hn0 := hX.gw.1
  have hd0 := hX.gd.1
  have hu0 := hX.gu.1
  have hv0 := hX.gv.1
  have ht0 := hX.gt.1
  have hS : va_S (zAx ad) s.heap s.heap [] := va_S.rf
  refine lv_aload_n hx hb dX9_reverse_0 rfl (lv_at hl 0 rfl) ?_
  refine va_get (D := g.1) (ci := 4) (v := .ref (ad 2)) (C := RX9) (T := TX9) (N := 7) hx hb hts mX9_reverse_0 hown hK (hX.gx) 0 rfl rfl 1 (by decide) (hts _ mX9_reverse_1) (fun _ h9 => h9) rfl dX9_reverse_1 ?_
  refine zc_VWv (As := []) (rest := []) S hK (kX8_clear l g (ad 2) (ad 3) d dn) (cwV 0 hts gX9_reverse_X8_clear rfl rfl rfl (by decide +kernel) ⟨Nat.le_of_ble_eq_true rfl, Nat.le_of_ble_eq_true rfl⟩) ((hX.gd)) ((hX.gd).recv hK) rfl hl.1 rfl (Nat.le_of_ble_eq_true rfl) dX9_reverse_4 ⟨Nat.zero_le _, Nat.zero_le _⟩ hS (zAx_2 (by omega) (by omega)) (fun H1 locs hp hz hk hS => ?_)
  have hX := hX.setD hk hp
  refine lv_aload_n hx hb dX9_reverse_7 rfl (lv_at hl 0 rfl) ?_
  refine va_get (D := g.1) (ci := 4) (v := .ref (ad 0)) (C := RX9) (T := TX9) (N := 7) hx hb hts mX9_reverse_0 hown hK (hX.gx) 0 rfl rfl 0 (by decide) (hts _ mX9_reverse_2) (fun _ h9 => h9) rfl dX9_reverse_8 ?_
  refine zc_V (As := []) (rest := []) S hK (kX8_length l g (ad 0) (ad 1) w n) (cwV 0 hts gX9_reverse_X8_length rfl rfl rfl (by decide +kernel) ⟨Nat.le_of_ble_eq_true rfl, Nat.le_of_ble_eq_true rfl⟩) ((hX.gw)) ((hX.gw).recv hK) rfl hl.1 rfl (Nat.le_of_ble_eq_true rfl) dX9_reverse_11 ⟨Nat.zero_le _, Nat.zero_le _⟩ (fun r11 hr11 => ?_)
  obtain rfl := hr11
  refine zv_iconst hx hb dX9_reverse_14 ?_
  refine zv_isub hx hb dX9_reverse_15 ?_
  refine lv_istore_n (lv' := [(1, .int (zI (n - 1))), (0, .ref (ad 16))]) hx hb dX9_reverse_16 rfl hl (by decide) rfl (fun ls hl => ?_)
  have lp17 : ∀ (z_f : Nat) (k : Int) (H1 : Heap) (locs : List Loc), (-1 ≤ k ∧ k ≤ n - 1) → (PX g ad w n (zRev w n) (n - 1 - k) u9 un9 hf hn v vn hs nx hc tn pf ig bp tc H1) → (va_S (zAx ad) s.heap H1 locs) → ((k + 1).toNat) < z_f → ∀ (ls : Array Slot), lv_has ls 2 [(0, .ref (ad 16)), (1, .int (zI k))] → W p l e (zRm 5 109) s m args below meth c H1 locs 0 0 (MQ below (zQi (fun r H => r = zI (sReverse w n ee en hc u un hs tc tn ).1 ∧ AXt g ad (sReverse w n ee en hc u un hs tc tn ).2 H) (zAx ad)) args s 0 0 (zAx ad)) (F0 m 17 ls []) := by
    intro z_f
    induction z_f with
    | zero => intro k H1 locs h0 hX hS z_m; exact absurd z_m (Nat.not_lt_zero _)
    | succ z_f ih17 =>
      intro k H1 locs h0 hX hS z_m17 ls hl
      refine lv_iload_n hx hb dX9_reverse_17 rfl (lv_at hl 1 rfl) ?_
      refine zv_if_lt (tgt := 42) hx hb dX9_reverse_18 (by decide) (by omega) (fun c18 => ?_) (fun c18 => ?_)
      · have hX := hX.mvD (w2 := zRev w n) (n2 := n) (by omega) (fun _ _ _ => rfl)
        refine lv_aload_n hx hb dX9_reverse_42 rfl (lv_at hl 0 rfl) ?_
        refine va_get (D := g.1) (ci := 4) (v := .ref (ad 2)) (C := RX9) (T := TX9) (N := 7) hx hb hts mX9_reverse_0 hown hK (hX.gx) 0 rfl rfl 1 (by decide) (hts _ mX9_reverse_1) (fun _ h9 => h9) rfl dX9_reverse_43 ?_
        refine lv_aload_n hx hb dX9_reverse_46 rfl (lv_at hl 0 rfl) ?_
        refine va_get (D := g.1) (ci := 4) (v := .ref (ad 0)) (C := RX9) (T := TX9) (N := 7) hx hb hts mX9_reverse_0 hown hK (hX.gx) 0 rfl rfl 0 (by decide) (hts _ mX9_reverse_2) (fun _ h9 => h9) rfl dX9_reverse_47 ?_
        refine zc_V (As := [.ref (ad 0)]) (rest := []) S hK (kX8_isSameAs l g (ad 2) (ad 3) (zRev w n) n (ad 0) (ad 1) w n) (cwV 1 hts gX9_reverse_X8_isSameAs rfl rfl rfl (by decide +kernel) ⟨Nat.le_of_ble_eq_true rfl, Nat.le_of_ble_eq_true rfl⟩) (⟨hX.gd, hX.gw⟩) (hX.gd.recv hK) rfl hl.1 rfl (Nat.le_of_ble_eq_true rfl) dX9_reverse_50 ⟨Nat.zero_le _, Nat.zero_le _⟩ (fun r50 hr50 => ?_)
        obtain rfl := hr50
        refine zv_ifB_eq (tgt := 59) hx hb dX9_reverse_53 (by decide) (fun c53 => ?_) (fun c53 => ?_)
        · refine lv_aload_n hx hb dX9_reverse_59 rfl (lv_at hl 0 rfl) ?_
          refine lv_aload_n hx hb dX9_reverse_60 rfl (lv_at hl 0 rfl) ?_
          refine va_get (D := g.1) (ci := 4) (v := .ref (ad 2)) (C := RX9) (T := TX9) (N := 7) hx hb hts mX9_reverse_0 hown hK (hX.gx) 0 rfl rfl 1 (by decide) (hts _ mX9_reverse_1) (fun _ h9 => h9) rfl dX9_reverse_61 ?_
          refine zc_VWv (As := [.ref (ad 2)]) (rest := []) S hK (kX9_become_d l g ad w n (zRev w n) n u9 un9 hf hn v vn hs nx hc tn pf ig bp tc) (cwV 1 hts gX9_reverse_X9_become rfl rfl rfl (by decide +kernel) ⟨Nat.le_of_ble_eq_true rfl, Nat.le_of_ble_eq_true rfl⟩) (hX) (hX.recvx hK) rfl hl.1 rfl (Nat.le_of_ble_eq_true rfl) dX9_reverse_64 ⟨Nat.zero_le _, Nat.zero_le _⟩ hS (fun q h => h) (fun H1 locs hp hz hk hS => ?_)
          have hX := hp
          refine lv_aload_n hx hb dX9_reverse_67 rfl (lv_at hl 0 rfl) ?_
          refine va_get (D := g.1) (ci := 4) (v := .ref (ad 0)) (C := RX9) (T := TX9) (N := 7) hx hb hts mX9_reverse_0 hown hK (hX.gx) 0 rfl rfl 0 (by decide) (hts _ mX9_reverse_2) (fun _ h9 => h9) rfl dX9_reverse_68 ?_
          refine zc_V (As := []) (rest := []) S hK (kX8_length l g (ad 0) (ad 1) (zRev w n) n) (cwV 0 hts gX9_reverse_X8_length rfl rfl rfl (by decide +kernel) ⟨Nat.le_of_ble_eq_true rfl, Nat.le_of_ble_eq_true rfl⟩) ((hX.gw)) ((hX.gw).recv hK) rfl hl.1 rfl (Nat.le_of_ble_eq_true rfl) dX9_reverse_71 ⟨Nat.zero_le _, Nat.zero_le _⟩ (fun r71 hr71 => ?_)
          obtain rfl := hr71
          exact zw_i hx hb hr hlocks hS dX9_reverse_74 (by rw [show sReverse w n ee en hc u un hs tc tn  = _ from zIf_f c53]; exact ⟨rfl, AX.rec (by omega) hX hsn hrg rfl (fun _ _ _ => rfl)⟩)
        · refine zv_bipush hx hb dX9_reverse_56 (by decide +kernel) ?_
          exact zw_i hx hb hr hlocks hS dX9_reverse_58 (by rw [show sReverse w n ee en hc u un hs tc tn  = _ from zIf_t c53]; exact ⟨rfl, AX.of hX hsn hrg⟩)
      · refine lv_aload_n hx hb dX9_reverse_21 rfl (lv_at hl 0 rfl) ?_
        refine va_get (D := g.1) (ci := 4) (v := .ref (ad 2)) (C := RX9) (T := TX9) (N := 7) hx hb hts mX9_reverse_0 hown hK (hX.gx) 0 rfl rfl 1 (by decide) (hts _ mX9_reverse_1) (fun _ h9 => h9) rfl dX9_reverse_22 ?_
        refine lv_aload_n hx hb dX9_reverse_25 rfl (lv_at hl 0 rfl) ?_
        refine va_get (D := g.1) (ci := 4) (v := .ref (ad 0)) (C := RX9) (T := TX9) (N := 7) hx hb hts mX9_reverse_0 hown hK (hX.gx) 0 rfl rfl 0 (by decide) (hts _ mX9_reverse_2) (fun _ h9 => h9) rfl dX9_reverse_26 ?_
        refine lv_iload_n hx hb dX9_reverse_29 rfl (lv_at hl 1 rfl) ?_
        refine zc_V (As := [.int (zI k)]) (rest := [.ref (ad 2)]) S hK (kX8_letterAt l g (ad 0) (ad 1) w n k (by omega)) (cwV 1 hts gX9_reverse_X8_letterAt rfl rfl rfl (by decide +kernel) ⟨Nat.le_of_ble_eq_true rfl, Nat.le_of_ble_eq_true rfl⟩) ((hX.gw)) ((hX.gw).recv hK) rfl hl.1 rfl (Nat.le_of_ble_eq_true rfl) dX9_reverse_30 ⟨Nat.zero_le _, Nat.zero_le _⟩ (fun r30 hr30 => ?_)
        obtain ⟨z30, rfl, hz30⟩ := hr30
        have b30 : 0 ≤ z30 ∧ z30 ≤ 25 := by
          have h8 := hX.gw.2.1 k (by omega) (by omega)
          have h9 := hz30.1 (by omega) (by omega)
          omega
        refine zc_VWv (As := [.int (zI z30)]) (rest := []) S hK (kX8_append l g (ad 2) (ad 3) (zRev w n) (n - 1 - k) z30 (by omega) (by omega)) (cwV 1 hts gX9_reverse_X8_append rfl rfl rfl (by decide +kernel) ⟨Nat.le_of_ble_eq_true rfl, Nat.le_of_ble_eq_true rfl⟩) ((hX.gd)) ((hX.gd).recv hK) rfl hl.1 rfl (Nat.le_of_ble_eq_true rfl) dX9_reverse_33 ⟨Nat.zero_le _, Nat.zero_le _⟩ hS (zAx_2 (by omega) (by omega)) (fun H1 locs hp hz hk hS => ?_)
        have hX := hX.setD hk hp
        refine zv_iinc (lv' := [(1, .int (zI (k + (-1)))), (0, .ref (ad 16))]) hx hb dX9_reverse_36 hl (k := 1) rfl (by decide) rfl (fun ls hl => ?_)
        refine lv_goto (tgt := 17) hx hb dX9_reverse_39 (by decide) ?_
        exact ih17 (k + (-1)) _ _ (by omega) (hX.mvD (w2 := zRev w n) (by omega) (fun q h1q h2q => by
          by_cases e : q = n - 1 - k
          · subst e; rw [zApp_eq]; show w (n - 1 - (n - 1 - k)) = z30; rw [show n - 1 - (n - 1 - k) = k by omega]; exact (hz30.1 (by omega) (by omega)).symm
          · rw [zApp_ne e])) (hS) (by omega) _ (lv_sub hl [1, 0] rfl)
  exact lp17 _ (n - 1) _ _ (by omega) (hX.mvD (by omega) (fun q h1q h2q => absurd h2q (by omega))) (hS) (Nat.lt_succ_self _) _ (lv_sub hl [1, 0] rfl)

theorem mX9_turn_0 : ∀ w ∈ wsX90, w ∈ wsX9_turn := by decide +kernel
theorem mX9_turn_1 : (Cond.fieldLink RX9 10 "BorderRuns" "word" "LBorderRuns$Word;") ∈ wsX9_turn := by decide +kernel
theorem mX9_turn_2 : (Cond.fieldLink RX9 16 "BorderRuns" "draft" "LBorderRuns$Word;") ∈ wsX9_turn := by decide +kernel
set_option maxHeartbeats 4000000 in
set_option maxRecDepth 100000 in
/-- X9_turn -/
theorem kX9_turn (l : Launch) (g : zG) (ad : Nat → Nat) (w : Int → Int) (n : Int) (ee : Nat → Int → Int) (en : Nat → Int) (hc : Int) (u : Int → Int) (un hs : Int) (tc : Int → Int) (tn : Int) (x : Int) (hx0 : -2147483648 ≤ x ∧ x < 2147483648) : Met l yX9_turn wsX9_turn (zRm 5 109) (zP g [.ref (ad 16), .int (zI x)] (AX g ad w n ee en hc u un hs tc tn)) (zQi (fun r H => r = zI (sTurn w n ee en hc u un hs tc tn x).1 ∧ AXt g ad (sTurn w n ee en hc u un hs tc tn x).2 H) (zAx ad)) 0 0 (zAx ad) := by
  refine Met.ofZ (cc := cX9_turn) (maxL := 2) (ret := (some .int)) (by decide) rfl (Nat.le_of_ble_eq_true rfl) ?_
  intro p e s m args below meth c ls hx hb hr hlocks S hin hK hpic hl
  have hown := S.2.2.2.1
  have hts := S.2.2.2.2
  have hl : lv_has ls 2 [(0, .ref (ad 16)), (1, .int (zI x))] := hl
  obtain ⟨d, dn, u9, un9, hf, hn, v, vn, nx, pf, ig, bp, hX, hsn, hrg⟩ := hpic
  have hg := hX.grg
  have hn0 := hX.gw.1
  have hd0 := hX.gd.1
  have hu0 := hX.gu.1
  have hv0 := hX.gv.1
  have ht0 := hX.gt.1
  have hS : va_S (zAx ad) s.heap s.heap [] := va_S.rf
  refine lv_iload_n hx hb dX9_turn_0 rfl (lv_at hl 1 rfl) ?_
  refine zv_iconst hx hb dX9_turn_1 ?_
  refine zv_icmp_lt (tgt := 11) hx hb dX9_turn_2 (by decide) (by omega) (by omega) (fun c2 => ?_) (fun c2 => ?_)
  · refine zv_bipush hx hb dX9_turn_11 (by decide +kernel) ?_
    exact zw_i hx hb hr hlocks hS dX9_turn_13 (by rw [show sTurn w n ee en hc u un hs tc tn x = _ from zIf_f (by omega)]; exact ⟨rfl, AX.of hX hsn hrg⟩)
  · refine lv_iload_n hx hb dX9_turn_5 rfl (lv_at hl 1 rfl) ?_
    refine zv_bipush hx hb dX9_turn_6 (by decide +kernel) ?_
    refine zv_icmp_lt (tgt := 14) hx hb dX9_turn_8 (by decide) (by omega) (by omega) (fun c8 => ?_) (fun c8 => ?_)
    · refine lv_iload_n hx hb dX9_turn_14 rfl (lv_at hl 1 rfl) ?_
      refine lv_aload_n hx hb dX9_turn_15 rfl (lv_at hl 0 rfl) ?_
      refine va_get (D := g.1) (ci := 4) (v := .ref (ad 0)) (C := RX9) (T := TX9) (N := 7) hx hb hts mX9_turn_0 hown hK (hX.gx) 0 rfl rfl 0 (by decide) (hts _ mX9_turn_1) (fun _ h9 => h9) rfl dX9_turn_16 ?_
      refine zc_V (As := []) (rest := [.int (zI x)]) S hK (kX8_length l g (ad 0) (ad 1) w n) (cwV 0 hts gX9_turn_X8_length rfl rfl rfl (by decide +kernel) ⟨Nat.le_of_ble_eq_true rfl, Nat.le_of_ble_eq_true rfl⟩) ((hX.gw)) ((hX.gw).recv hK) rfl hl.1 rfl (Nat.le_of_ble_eq_true rfl) dX9_turn_19 ⟨Nat.zero_le _, Nat.zero_le _⟩ (fun r19 hr19 => ?_)
      obtain rfl := hr19
      refine zv_icmp_lt (tgt := 27) hx hb dX9_turn_22 (by decide) (by omega) (by omega) (fun c22 => ?_) (fun c22 => ?_)
      · refine lv_aload_n hx hb dX9_turn_27 rfl (lv_at hl 0 rfl) ?_
        refine va_get (D := g.1) (ci := 4) (v := .ref (ad 2)) (C := RX9) (T := TX9) (N := 7) hx hb hts mX9_turn_0 hown hK (hX.gx) 0 rfl rfl 1 (by decide) (hts _ mX9_turn_2) (fun _ h9 => h9) rfl dX9_turn_28 ?_
        refine zc_VWv (As := []) (rest := []) S hK (kX8_clear l g (ad 2) (ad 3) d dn) (cwV 0 hts gX9_turn_X8_clear rfl rfl rfl (by decide +kernel) ⟨Nat.le_of_ble_eq_true rfl, Nat.le_of_ble_eq_true rfl⟩) ((hX.gd)) ((hX.gd).recv hK) rfl hl.1 rfl (Nat.le_of_ble_eq_true rfl) dX9_turn_31 ⟨Nat.zero_le _, Nat.zero_le _⟩ hS (zAx_2 (by omega) (by omega)) (fun H1 locs hp hz hk hS => ?_)
        have hX := hX.setD hk hp
        refine lv_aload_n hx hb dX9_turn_34 rfl (lv_at hl 0 rfl) ?_
        refine va_get (D := g.1) (ci := 4) (v := .ref (ad 2)) (C := RX9) (T := TX9) (N := 7) hx hb hts mX9_turn_0 hown hK (hX.gx) 0 rfl rfl 1 (by decide) (hts _ mX9_turn_2) (fun _ h9 => h9) rfl dX9_turn_35 ?_
        refine lv_aload_n hx hb dX9_turn_38 rfl (lv_at hl 0 rfl) ?_
        refine va_get (D := g.1) (ci := 4) (v := .ref (ad 0)) (C := RX9) (T := TX9) (N := 7) hx hb hts mX9_turn_0 hown hK (hX.gx) 0 rfl rfl 0 (by decide) (hts _ mX9_turn_1) (fun _ h9 => h9) rfl dX9_turn_39 ?_
        refine lv_iload_n hx hb dX9_turn_42 rfl (lv_at hl 1 rfl) ?_
        refine lv_aload_n hx hb dX9_turn_43 rfl (lv_at hl 0 rfl) ?_
        refine va_get (D := g.1) (ci := 4) (v := .ref (ad 0)) (C := RX9) (T := TX9) (N := 7) hx hb hts mX9_turn_0 hown hK (hX.gx) 0 rfl rfl 0 (by decide) (hts _ mX9_turn_1) (fun _ h9 => h9) rfl dX9_turn_44 ?_
        refine zc_V (As := []) (rest := [.int (zI x), .ref (ad 0), .ref (ad 2)]) S hK (kX8_length l g (ad 0) (ad 1) w n) (cwV 0 hts gX9_turn_X8_length rfl rfl rfl (by decide +kernel) ⟨Nat.le_of_ble_eq_true rfl, Nat.le_of_ble_eq_true rfl⟩) ((hX.gw)) ((hX.gw).recv hK) rfl hl.1 rfl (Nat.le_of_ble_eq_true rfl) dX9_turn_47 ⟨Nat.zero_le _, Nat.zero_le _⟩ (fun r47 hr47 => ?_)
        obtain rfl := hr47
        refine zc_VWv (As := [.ref (ad 0), .int (zI x), .int (zI n)]) (rest := []) S hK (kX8_appendFactor l g (ad 2) (ad 3) d 0 (ad 0) (ad 1) w n ⟨hX.gj.ne (by omega) (by omega) (by omega), hX.gj.ne (by omega) (by omega) (by omega), hX.gj.ne (by omega) (by omega) (by omega), hX.gj.ne (by omega) (by omega) (by omega)⟩ x n (by omega)) (cwV 3 hts gX9_turn_X8_appendFactor rfl rfl rfl (by decide +kernel) ⟨Nat.le_of_ble_eq_true rfl, Nat.le_of_ble_eq_true rfl⟩) (⟨(hX.gd), (hX.gw)⟩) ((hX.gd).recv hK) rfl hl.1 rfl (Nat.le_of_ble_eq_true rfl) dX9_turn_50 ⟨Nat.zero_le _, Nat.zero_le _⟩ hS (zAx_2 (by omega) (by omega)) (fun H1 locs hp hz hk hS => ?_)
        have hX := hX.setD hk hp
        refine lv_aload_n hx hb dX9_turn_53 rfl (lv_at hl 0 rfl) ?_
        refine va_get (D := g.1) (ci := 4) (v := .ref (ad 2)) (C := RX9) (T := TX9) (N := 7) hx hb hts mX9_turn_0 hown hK (hX.gx) 0 rfl rfl 1 (by decide) (hts _ mX9_turn_2) (fun _ h9 => h9) rfl dX9_turn_54 ?_
        refine lv_aload_n hx hb dX9_turn_57 rfl (lv_at hl 0 rfl) ?_
        refine va_get (D := g.1) (ci := 4) (v := .ref (ad 0)) (C := RX9) (T := TX9) (N := 7) hx hb hts mX9_turn_0 hown hK (hX.gx) 0 rfl rfl 0 (by decide) (hts _ mX9_turn_1) (fun _ h9 => h9) rfl dX9_turn_58 ?_
        refine zv_iconst hx hb dX9_turn_61 ?_
        refine lv_iload_n hx hb dX9_turn_62 rfl (lv_at hl 1 rfl) ?_
        refine zc_VWv (As := [.ref (ad 0), .int (zI 0), .int (zI x)]) (rest := []) S hK (kX8_appendFactor l g (ad 2) (ad 3) (zExt d 0 w x) (0 + (n - x)) (ad 0) (ad 1) w n ⟨hX.gj.ne (by omega) (by omega) (by omega), hX.gj.ne (by omega) (by omega) (by omega), hX.gj.ne (by omega) (by omega) (by omega), hX.gj.ne (by omega) (by omega) (by omega)⟩ 0 x (by omega)) (cwV 3 hts gX9_turn_X8_appendFactor rfl rfl rfl (by decide +kernel) ⟨Nat.le_of_ble_eq_true rfl, Nat.le_of_ble_eq_true rfl⟩) (⟨(hX.gd), (hX.gw)⟩) ((hX.gd).recv hK) rfl hl.1 rfl (Nat.le_of_ble_eq_true rfl) dX9_turn_63 ⟨Nat.zero_le _, Nat.zero_le _⟩ hS (zAx_2 (by omega) (by omega)) (fun H1 locs hp hz hk hS => ?_)
        have hX := hX.setD hk hp
        have hX := hX.mvD (w2 := zTurn w n x) (n2 := n) (by omega) (fun k h1k h2k => by
          unfold zTurn
          by_cases e : k + x < n
          · rw [if_pos e, zExt_lo (by omega), zExt_hi (by omega), show x + (k - 0) = k + x by omega]
          · rw [if_neg e, zExt_hi (by omega), show 0 + (k - (0 + (n - x))) = k + x - n by omega])
        refine lv_aload_n hx hb dX9_turn_66 rfl (lv_at hl 0 rfl) ?_
        refine va_get (D := g.1) (ci := 4) (v := .ref (ad 2)) (C := RX9) (T := TX9) (N := 7) hx hb hts mX9_turn_0 hown hK (hX.gx) 0 rfl rfl 1 (by decide) (hts _ mX9_turn_2) (fun _ h9 => h9) rfl dX9_turn_67 ?_
        refine lv_aload_n hx hb dX9_turn_70 rfl (lv_at hl 0 rfl) ?_
        refine va_get (D := g.1) (ci := 4) (v := .ref (ad 0)) (C := RX9) (T := TX9) (N := 7) hx hb hts mX9_turn_0 hown hK (hX.gx) 0 rfl rfl 0 (by decide) (hts _ mX9_turn_1) (fun _ h9 => h9) rfl dX9_turn_71 ?_
        refine zc_V (As := [.ref (ad 0)]) (rest := []) S hK (kX8_isSameAs l g (ad 2) (ad 3) (zTurn w n x) n (ad 0) (ad 1) w n) (cwV 1 hts gX9_turn_X8_isSameAs rfl rfl rfl (by decide +kernel) ⟨Nat.le_of_ble_eq_true rfl, Nat.le_of_ble_eq_true rfl⟩) (⟨hX.gd, hX.gw⟩) (hX.gd.recv hK) rfl hl.1 rfl (Nat.le_of_ble_eq_true rfl) dX9_turn_74 ⟨Nat.zero_le _, Nat.zero_le _⟩ (fun r74 hr74 => ?_)
        obtain rfl := hr74
        refine zv_ifB_eq (tgt := 83) hx hb dX9_turn_77 (by decide) (fun c77 => ?_) (fun c77 => ?_)
        · refine lv_aload_n hx hb dX9_turn_83 rfl (lv_at hl 0 rfl) ?_
          refine lv_aload_n hx hb dX9_turn_84 rfl (lv_at hl 0 rfl) ?_
          refine va_get (D := g.1) (ci := 4) (v := .ref (ad 2)) (C := RX9) (T := TX9) (N := 7) hx hb hts mX9_turn_0 hown hK (hX.gx) 0 rfl rfl 1 (by decide) (hts _ mX9_turn_2) (fun _ h9 => h9) rfl dX9_turn_85 ?_
          refine zc_VWv (As := [.ref (ad 2)]) (rest := []) S hK (kX9_become_d l g ad w n (zTurn w n x) n u9 un9 hf hn v vn hs nx hc tn pf ig bp tc) (cwV 1 hts gX9_turn_X9_become rfl rfl rfl (by decide +kernel) ⟨Nat.le_of_ble_eq_true rfl, Nat.le_of_ble_eq_true rfl⟩) (hX) (hX.recvx hK) rfl hl.1 rfl (Nat.le_of_ble_eq_true rfl) dX9_turn_88 ⟨Nat.zero_le _, Nat.zero_le _⟩ hS (fun q h => h) (fun H1 locs hp hz hk hS => ?_)
          have hX := hp
          refine lv_aload_n hx hb dX9_turn_91 rfl (lv_at hl 0 rfl) ?_
          refine va_get (D := g.1) (ci := 4) (v := .ref (ad 0)) (C := RX9) (T := TX9) (N := 7) hx hb hts mX9_turn_0 hown hK (hX.gx) 0 rfl rfl 0 (by decide) (hts _ mX9_turn_1) (fun _ h9 => h9) rfl dX9_turn_92 ?_
          refine zv_iconst hx hb dX9_turn_95 ?_
          refine zc_V (As := [.int (zI 0)]) (rest := []) S hK (kX8_letterAt l g (ad 0) (ad 1) (zTurn w n x) n 0 (by omega)) (cwV 1 hts gX9_turn_X8_letterAt rfl rfl rfl (by decide +kernel) ⟨Nat.le_of_ble_eq_true rfl, Nat.le_of_ble_eq_true rfl⟩) ((hX.gw)) ((hX.gw).recv hK) rfl hl.1 rfl (Nat.le_of_ble_eq_true rfl) dX9_turn_96 ⟨Nat.zero_le _, Nat.zero_le _⟩ (fun r96 hr96 => ?_)
          obtain ⟨z96, rfl, hz96⟩ := hr96
          exact zw_i hx hb hr hlocks hS dX9_turn_99 (by rw [show sTurn w n ee en hc u un hs tc tn x = _ from (zIf_t (by omega)).trans ((zIf_f (by omega)).trans (zIf_f c77))]; exact ⟨congrArg zI (hz96.1 (by omega) (by omega)), AX.rec (by omega) hX hsn hrg rfl (fun _ _ _ => rfl)⟩)
        · refine zv_bipush hx hb dX9_turn_80 (by decide +kernel) ?_
          exact zw_i hx hb hr hlocks hS dX9_turn_82 (by rw [show sTurn w n ee en hc u un hs tc tn x = _ from (zIf_t (by omega)).trans ((zIf_f (by omega)).trans (zIf_t c77))]; exact ⟨rfl, AX.of hX hsn hrg⟩)
      · refine zv_iconst hx hb dX9_turn_25 ?_
        exact zw_i hx hb hr hlocks hS dX9_turn_26 (by rw [show sTurn w n ee en hc u un hs tc tn x = _ from (zIf_t (by omega)).trans (zIf_t (by omega))]; exact ⟨rfl, AX.of hX hsn hrg⟩)
    · refine zv_bipush hx hb dX9_turn_11 (by decide +kernel) ?_
      exact zw_i hx hb hr hlocks hS dX9_turn_13 (by rw [show sTurn w n ee en hc u un hs tc tn x = _ from zIf_f (by omega)]; exact ⟨rfl, AX.of hX hsn hrg⟩)

theorem mX9_fold_0 : ∀ w ∈ wsX90, w ∈ wsX9_fold := by decide +kernel
theorem mX9_fold_1 : (Cond.fieldLink RX9 10 "BorderRuns" "word" "LBorderRuns$Word;") ∈ wsX9_fold := by decide +kernel
theorem mX9_fold_2 : (Cond.fieldLink RX9 16 "BorderRuns" "draft" "LBorderRuns$Word;") ∈ wsX9_fold := by decide +kernel
set_option maxHeartbeats 4000000 in
set_option maxRecDepth 100000 in
/-- X9_fold -/
theorem kX9_fold (l : Launch) (g : zG) (ad : Nat → Nat) (w : Int → Int) (n : Int) (ee : Nat → Int → Int) (en : Nat → Int) (hc : Int) (u : Int → Int) (un hs : Int) (tc : Int → Int) (tn : Int) (i j : Int) (hi : -2147483648 ≤ i ∧ i < 2147483648) (hj : -2147483648 ≤ j ∧ j < 2147483648) : Met l yX9_fold wsX9_fold (zRm 5 109) (zP g [.ref (ad 16), .int (zI i), .int (zI j)] (AX g ad w n ee en hc u un hs tc tn)) (zQi (fun r H => r = zI (sFold w n ee en hc u un hs tc tn i j).1 ∧ AXt g ad (sFold w n ee en hc u un hs tc tn i j).2 H) (zAx ad)) 0 0 (zAx ad) := by
  refine Met.ofZ (cc := cX9_fold) (maxL := 3) (ret := (some .int)) (by decide) rfl (Nat.le_of_ble_eq_true rfl) ?_
  intro p e s m args below meth c ls hx hb hr hlocks S hin hK hpic hl
  have hown := S.2.2.2.1
  have hts := S.2.2.2.2
  have hl : lv_has ls 3 [(0, .ref (ad 16)), (1, .int (zI i)), (2, .int (zI j))] := hl
  obtain ⟨d, dn, u9, un9, hf, hn, v, vn, nx, pf, ig, bp, hX, hsn, hrg⟩ := hpic
  have hg := hX.grg
  have hn0 := hX.gw.1
  have hd0 := hX.gd.1
  have hu0 := hX.gu.1
  have hv0 := hX.gv.1
  have ht0 := hX.gt.1
  have hS : va_S (zAx ad) s.heap s.heap [] := va_S.rf
  refine lv_aload_n hx hb dX9_fold_0 rfl (lv_at hl 0 rfl) ?_
  refine va_get (D := g.1) (ci := 4) (v := .ref (ad 0)) (C := RX9) (T := TX9) (N := 7) hx hb hts mX9_fold_0 hown hK (hX.gx) 0 rfl rfl 0 (by decide) (hts _ mX9_fold_1) (fun _ h9 => h9) rfl dX9_fold_1 ?_
  refine lv_iload_n hx hb dX9_fold_4 rfl (lv_at hl 1 rfl) ?_
  refine lv_iload_n hx hb dX9_fold_5 rfl (lv_at hl 2 rfl) ?_
  refine zc_V (As := [.int (zI i), .int (zI j)]) (rest := []) S hK (kX8_isFactor l g (ad 0) (ad 1) w n i j (by omega) (by omega)) (cwV 2 hts gX9_fold_X8_isFactor rfl rfl rfl (by decide +kernel) ⟨Nat.le_of_ble_eq_true rfl, Nat.le_of_ble_eq_true rfl⟩) ((hX.gw)) ((hX.gw).recv hK) rfl hl.1 rfl (Nat.le_of_ble_eq_true rfl) dX9_fold_6 ⟨Nat.zero_le _, Nat.zero_le _⟩ (fun r6 hr6 => ?_)
  obtain rfl := hr6
  refine zv_ifB_ne (tgt := 14) hx hb dX9_fold_9 (by decide) (fun c9 => ?_) (fun c9 => ?_)
  · refine lv_aload_n hx hb dX9_fold_14 rfl (lv_at hl 0 rfl) ?_
    refine va_get (D := g.1) (ci := 4) (v := .ref (ad 0)) (C := RX9) (T := TX9) (N := 7) hx hb hts mX9_fold_0 hown hK (hX.gx) 0 rfl rfl 0 (by decide) (hts _ mX9_fold_1) (fun _ h9 => h9) rfl dX9_fold_15 ?_
    refine zc_V (As := []) (rest := []) S hK (kX8_length l g (ad 0) (ad 1) w n) (cwV 0 hts gX9_fold_X8_length rfl rfl rfl (by decide +kernel) ⟨Nat.le_of_ble_eq_true rfl, Nat.le_of_ble_eq_true rfl⟩) ((hX.gw)) ((hX.gw).recv hK) rfl hl.1 rfl (Nat.le_of_ble_eq_true rfl) dX9_fold_18 ⟨Nat.zero_le _, Nat.zero_le _⟩ (fun r18 hr18 => ?_)
    obtain rfl := hr18
    refine lv_iload_n hx hb dX9_fold_21 rfl (lv_at hl 2 rfl) ?_
    refine lv_iload_n hx hb dX9_fold_22 rfl (lv_at hl 1 rfl) ?_
    refine zv_isub hx hb dX9_fold_23 ?_
    refine zv_iadd hx hb dX9_fold_24 ?_
    refine zv_bipush hx hb dX9_fold_25 (by decide +kernel) ?_
    refine zv_icmp_le (tgt := 33) hx hb dX9_fold_27 (by decide) (by omega) (by omega) (fun c27 => ?_) (fun c27 => ?_)
    · refine lv_aload_n hx hb dX9_fold_33 rfl (lv_at hl 0 rfl) ?_
      refine va_get (D := g.1) (ci := 4) (v := .ref (ad 2)) (C := RX9) (T := TX9) (N := 7) hx hb hts mX9_fold_0 hown hK (hX.gx) 0 rfl rfl 1 (by decide) (hts _ mX9_fold_2) (fun _ h9 => h9) rfl dX9_fold_34 ?_
      refine lv_aload_n hx hb dX9_fold_37 rfl (lv_at hl 0 rfl) ?_
      refine va_get (D := g.1) (ci := 4) (v := .ref (ad 0)) (C := RX9) (T := TX9) (N := 7) hx hb hts mX9_fold_0 hown hK (hX.gx) 0 rfl rfl 0 (by decide) (hts _ mX9_fold_1) (fun _ h9 => h9) rfl dX9_fold_38 ?_
      refine zc_VWv (As := [.ref (ad 0)]) (rest := []) S hK (kX8_copyFrom l g (ad 2) (ad 3) d dn (ad 0) (ad 1) w n ⟨hX.gj.ne (by omega) (by omega) (by omega), hX.gj.ne (by omega) (by omega) (by omega), hX.gj.ne (by omega) (by omega) (by omega), hX.gj.ne (by omega) (by omega) (by omega)⟩) (cwV 1 hts gX9_fold_X8_copyFrom rfl rfl rfl (by decide +kernel) ⟨Nat.le_of_ble_eq_true rfl, Nat.le_of_ble_eq_true rfl⟩) (⟨(hX.gd), (hX.gw)⟩) ((hX.gd).recv hK) rfl hl.1 rfl (Nat.le_of_ble_eq_true rfl) dX9_fold_41 ⟨Nat.zero_le _, Nat.zero_le _⟩ hS (zAx_2 (by omega) (by omega)) (fun H1 locs hp hz hk hS => ?_)
      have hX := hX.setD hk hp
      refine lv_aload_n hx hb dX9_fold_44 rfl (lv_at hl 0 rfl) ?_
      refine va_get (D := g.1) (ci := 4) (v := .ref (ad 2)) (C := RX9) (T := TX9) (N := 7) hx hb hts mX9_fold_0 hown hK (hX.gx) 0 rfl rfl 1 (by decide) (hts _ mX9_fold_2) (fun _ h9 => h9) rfl dX9_fold_45 ?_
      refine lv_aload_n hx hb dX9_fold_48 rfl (lv_at hl 0 rfl) ?_
      refine va_get (D := g.1) (ci := 4) (v := .ref (ad 0)) (C := RX9) (T := TX9) (N := 7) hx hb hts mX9_fold_0 hown hK (hX.gx) 0 rfl rfl 0 (by decide) (hts _ mX9_fold_1) (fun _ h9 => h9) rfl dX9_fold_49 ?_
      refine lv_iload_n hx hb dX9_fold_52 rfl (lv_at hl 1 rfl) ?_
      refine lv_iload_n hx hb dX9_fold_53 rfl (lv_at hl 2 rfl) ?_
      refine zc_VWv (As := [.ref (ad 0), .int (zI i), .int (zI j)]) (rest := []) S hK (kX8_appendFactor l g (ad 2) (ad 3) w n (ad 0) (ad 1) w n ⟨hX.gj.ne (by omega) (by omega) (by omega), hX.gj.ne (by omega) (by omega) (by omega), hX.gj.ne (by omega) (by omega) (by omega), hX.gj.ne (by omega) (by omega) (by omega)⟩ i j (by omega)) (cwV 3 hts gX9_fold_X8_appendFactor rfl rfl rfl (by decide +kernel) ⟨Nat.le_of_ble_eq_true rfl, Nat.le_of_ble_eq_true rfl⟩) (⟨(hX.gd), (hX.gw)⟩) ((hX.gd).recv hK) rfl hl.1 rfl (Nat.le_of_ble_eq_true rfl) dX9_fold_54 ⟨Nat.zero_le _, Nat.zero_le _⟩ hS (zAx_2 (by omega) (by omega)) (fun H1 locs hp hz hk hS => ?_)
      have hX := hX.setD hk hp
      refine lv_aload_n hx hb dX9_fold_57 rfl (lv_at hl 0 rfl) ?_
      refine lv_aload_n hx hb dX9_fold_58 rfl (lv_at hl 0 rfl) ?_
      refine va_get (D := g.1) (ci := 4) (v := .ref (ad 2)) (C := RX9) (T := TX9) (N := 7) hx hb hts mX9_fold_0 hown hK (hX.gx) 0 rfl rfl 1 (by decide) (hts _ mX9_fold_2) (fun _ h9 => h9) rfl dX9_fold_59 ?_
      refine zc_VWv (As := [.ref (ad 2)]) (rest := []) S hK (kX9_become_d l g ad w n (zExt w n w i) (n + (j - i)) u9 un9 hf hn v vn hs nx hc tn pf ig bp tc) (cwV 1 hts gX9_fold_X9_become rfl rfl rfl (by decide +kernel) ⟨Nat.le_of_ble_eq_true rfl, Nat.le_of_ble_eq_true rfl⟩) (hX) (hX.recvx hK) rfl hl.1 rfl (Nat.le_of_ble_eq_true rfl) dX9_fold_62 ⟨Nat.zero_le _, Nat.zero_le _⟩ hS (fun q h => h) (fun H1 locs hp hz hk hS => ?_)
      have hX := hp
      refine lv_aload_n hx hb dX9_fold_65 rfl (lv_at hl 0 rfl) ?_
      refine va_get (D := g.1) (ci := 4) (v := .ref (ad 0)) (C := RX9) (T := TX9) (N := 7) hx hb hts mX9_fold_0 hown hK (hX.gx) 0 rfl rfl 0 (by decide) (hts _ mX9_fold_1) (fun _ h9 => h9) rfl dX9_fold_66 ?_
      refine zc_V (As := []) (rest := []) S hK (kX8_length l g (ad 0) (ad 1) (zExt w n w i) (n + (j - i))) (cwV 0 hts gX9_fold_X8_length rfl rfl rfl (by decide +kernel) ⟨Nat.le_of_ble_eq_true rfl, Nat.le_of_ble_eq_true rfl⟩) ((hX.gw)) ((hX.gw).recv hK) rfl hl.1 rfl (Nat.le_of_ble_eq_true rfl) dX9_fold_69 ⟨Nat.zero_le _, Nat.zero_le _⟩ (fun r69 hr69 => ?_)
      obtain rfl := hr69
      exact zw_i hx hb hr hlocks hS dX9_fold_72 (by rw [show sFold w n ee en hc u un hs tc tn i j = _ from (zIf_t c9).trans (zIf_f (by omega))]; exact ⟨rfl, AX.rec (by omega) hX hsn hrg rfl (fun _ _ _ => rfl)⟩)
    · refine zv_bipush hx hb dX9_fold_30 (by decide +kernel) ?_
      exact zw_i hx hb hr hlocks hS dX9_fold_32 (by rw [show sFold w n ee en hc u un hs tc tn i j = _ from (zIf_t c9).trans (zIf_t (by omega))]; exact ⟨rfl, AX.of hX hsn hrg⟩)
  · refine zv_iconst hx hb dX9_fold_12 ?_
    exact zw_i hx hb hr hlocks hS dX9_fold_13 (by rw [show sFold w n ee en hc u un hs tc tn i j = _ from zIf_f c9]; exact ⟨rfl, AX.of hX hsn hrg⟩)

theorem mX3_word_0 : ∀ w ∈ wsX30, w ∈ wsX3_word := by decide +kernel
theorem mX3_word_1 : (Cond.fieldLink RX3 12 "BorderRuns$Reader" "read" "LBorderRuns$Word;") ∈ wsX3_word := by decide +kernel
set_option maxHeartbeats 4000000 in
set_option maxRecDepth 100000 in
/-- Reader.word() -/
theorem kX3_word (l : Launch) (g : zG) (ad : Nat → Nat) (w : Int → Int) (n : Int) (d : Int → Int) (dn : Int) (u : Int → Int) (un : Int) (hf : Nat → Int → Int) (hn : Nat → Int) (v : Int → Int) (vn hs nx hd tn pf ig bp : Int) (tc : Int → Int)  : Met l yX3_word wsX3_word (zRm 0 0) (zP g [.ref (ad 21)] (PX g ad w n d dn u un hf hn v vn hs nx hd tn pf ig bp tc)) (zSr (.ref (ad 14))) 0 0 (fun _ => False) := by
  refine Met.ofZ (cc := cX3_word) (maxL := 1) (ret := (some (.object "BorderRuns$Word"))) (by decide) rfl (Nat.le_of_ble_eq_true rfl) ?_
  intro p e s m args below meth c ls hx hb hr hlocks S hin hK hpic hl
  have hown := S.2.2.2.1
  have hts := S.2.2.2.2
  have hl : lv_has ls 1 [(0, .ref (ad 21))] := hl
  have hX := hpic
  have hg := hX.grg
  have hn0 := hX.gw.1
  have hd0 := hX.gd.1
  have hu0 := hX.gu.1
  have hv0 := hX.gv.1
  have ht0 := hX.gt.1
  refine lv_aload_n hx hb dX3_word_0 rfl (lv_at hl 0 rfl) ?_
  refine va_get (D := g.1) (ci := 1) (v := .ref (ad 14)) (C := RX3) (T := TX3) (N := 4) hx hb hts mX3_word_0 hown hK (hX.gr) 0 rfl rfl 0 (by decide) (hts _ mX3_word_1) (fun _ h9 => h9) rfl dX3_word_1 ?_
  exact zr_a hx hb hr (Or.inl ⟨_, rfl⟩) hlocks dX3_word_4

theorem mX9_load_0 : ∀ w ∈ wsX90, w ∈ wsX9_load := by decide +kernel
theorem mX9_load_1 : (Cond.fieldLink RX9 43 "BorderRuns" "reader" "LBorderRuns$Reader;") ∈ wsX9_load := by decide +kernel
theorem mX9_load_2 : (Cond.fieldLink RX9 36 "BorderRuns" "text" "LBorderRuns$Text;") ∈ wsX9_load := by decide +kernel
theorem mX9_load_3 : (Cond.fieldLink RX9 10 "BorderRuns" "word" "LBorderRuns$Word;") ∈ wsX9_load := by decide +kernel
set_option maxHeartbeats 4000000 in
set_option maxRecDepth 100000 in
/-- X9_load -/
theorem kX9_load (l : Launch) (g : zG) (ad : Nat → Nat) (w : Int → Int) (n : Int) (ee : Nat → Int → Int) (en : Nat → Int) (hc : Int) (u : Int → Int) (un hs : Int) (tc : Int → Int) (tn : Int)  : Met l yX9_load wsX9_load (zRm 5 112) (zP g [.ref (ad 16)] (AX g ad w n ee en hc u un hs tc tn)) (zQi (fun r H => r = zI (sLoad w n ee en hc u un hs tc tn ).1 ∧ AXt g ad (sLoad w n ee en hc u un hs tc tn ).2 H) (zAx ad)) 0 0 (zAx ad) := by
  refine Met.ofZ (cc := cX9_load) (maxL := 2) (ret := (some .int)) (by decide) rfl (Nat.le_of_ble_eq_true rfl) ?_
  intro p e s m args below meth c ls hx hb hr hlocks S hin hK hpic hl
  have hown := S.2.2.2.1
  have hts := S.2.2.2.2
  have hl : lv_has ls 2 [(0, .ref (ad 16))] := hl
  obtain ⟨d, dn, u9, un9, hf, hn, v, vn, nx, pf, ig, bp, hX, hsn, hrg⟩ := hpic
  have hg := hX.grg
  have hn0 := hX.gw.1
  have hd0 := hX.gd.1
  have hu0 := hX.gu.1
  have hv0 := hX.gv.1
  have ht0 := hX.gt.1
  have hS : va_S (zAx ad) s.heap s.heap [] := va_S.rf
  refine lv_aload_n hx hb dX9_load_0 rfl (lv_at hl 0 rfl) ?_
  refine va_get (D := g.1) (ci := 4) (v := .ref (ad 21)) (C := RX9) (T := TX9) (N := 7) hx hb hts mX9_load_0 hown hK (hX.gx) 0 rfl rfl 6 (by decide) (hts _ mX9_load_1) (fun _ h9 => h9) rfl dX9_load_1 ?_
  refine lv_aload_n hx hb dX9_load_4 rfl (lv_at hl 0 rfl) ?_
  refine va_get (D := g.1) (ci := 4) (v := .ref (ad 19)) (C := RX9) (T := TX9) (N := 7) hx hb hts mX9_load_0 hown hK (hX.gx) 0 rfl rfl 5 (by decide) (hts _ mX9_load_2) (fun _ h9 => h9) rfl dX9_load_5 ?_
  refine zc_VWi (As := [.ref (ad 19)]) (rest := []) S hK (kX3_read l g ad w n d dn u9 un9 hf hn v vn hs nx hc tn pf ig bp tc) (cwV 1 hts gX9_load_X3_read rfl rfl rfl (by decide +kernel) ⟨Nat.le_of_ble_eq_true rfl, Nat.le_of_ble_eq_true rfl⟩) (hX) (hX.recvr hK) rfl hl.1 rfl (Nat.le_of_ble_eq_true rfl) dX9_load_8 ⟨Nat.zero_le _, Nat.zero_le _⟩ hS (fun q h => h) (fun r8 H1 locs hp hz hk hS => ?_)
  obtain ⟨z8, v8, vn8, pf8, ig8, bp8, rfl, hz8, hz8b, hz8c, hX⟩ := hp
  refine lv_istore_n (lv' := [(1, .int (zI z8)), (0, .ref (ad 16))]) hx hb dX9_load_11 rfl hl (by decide) rfl (fun ls hl => ?_)
  refine lv_iload_n hx hb dX9_load_12 rfl (lv_at hl 0 rfl) ?_
  refine zv_iconst hx hb dX9_load_13 ?_
  refine zv_icmp_eq (tgt := 22) hx hb dX9_load_14 (by decide) (by omega) (by omega) (fun c14 => ?_) (fun c14 => ?_)
  · have e9 := zLdS_of (hz8c c14)
    refine lv_aload_n hx hb dX9_load_22 rfl (lv_at hl 1 rfl) ?_
    refine lv_aload_n hx hb dX9_load_23 rfl (lv_at hl 1 rfl) ?_
    refine va_get (D := g.1) (ci := 4) (v := .ref (ad 21)) (C := RX9) (T := TX9) (N := 7) hx hb hts mX9_load_0 hown hK (hX.gx) 0 rfl rfl 6 (by decide) (hts _ mX9_load_1) (fun _ h9 => h9) rfl dX9_load_24 ?_
    refine zc_VR (As := []) (rest := [.ref (ad 16)]) S hK (kX3_word l g ad w n d dn u9 un9 hf hn v8 vn8 hs nx hc tn pf8 ig8 bp8 tc) (cwV 0 hts gX9_load_X3_word rfl rfl rfl (by decide +kernel) ⟨Nat.le_of_ble_eq_true rfl, Nat.le_of_ble_eq_true rfl⟩) hX (hX.recvr hK) rfl hl.1 rfl (Nat.le_of_ble_eq_true rfl) dX9_load_27 ⟨Nat.zero_le _, Nat.zero_le _⟩ ?_
    refine zc_VWv (As := [.ref (ad 14)]) (rest := []) S hK (kX9_become_v l g ad w n d dn u9 un9 hf hn v8 vn8 hs nx hc tn pf8 ig8 bp8 tc) (cwV 1 hts gX9_load_X9_become rfl rfl rfl (by decide +kernel) ⟨Nat.le_of_ble_eq_true rfl, Nat.le_of_ble_eq_true rfl⟩) (hX) (hX.recvx hK) rfl hl.1 rfl (Nat.le_of_ble_eq_true rfl) dX9_load_30 ⟨Nat.zero_le _, Nat.zero_le _⟩ hS (fun q h => h) (fun H1 locs hp hz hk hS => ?_)
    have hX := hp
    refine lv_aload_n hx hb dX9_load_33 rfl (lv_at hl 1 rfl) ?_
    refine va_get (D := g.1) (ci := 4) (v := .ref (ad 0)) (C := RX9) (T := TX9) (N := 7) hx hb hts mX9_load_0 hown hK (hX.gx) 0 rfl rfl 0 (by decide) (hts _ mX9_load_3) (fun _ h9 => h9) rfl dX9_load_34 ?_
    refine zc_V (As := []) (rest := []) S hK (kX8_length l g (ad 0) (ad 1) v8 vn8) (cwV 0 hts gX9_load_X8_length rfl rfl rfl (by decide +kernel) ⟨Nat.le_of_ble_eq_true rfl, Nat.le_of_ble_eq_true rfl⟩) ((hX.gw)) ((hX.gw).recv hK) rfl hl.1 rfl (Nat.le_of_ble_eq_true rfl) dX9_load_37 ⟨Nat.zero_le _, Nat.zero_le _⟩ (fun r37 hr37 => ?_)
    obtain rfl := hr37
    exact zw_i hx hb hr hlocks hS dX9_load_40 (by rw [show sLoad w n ee en hc u un hs tc tn  = _ from zIf_t (by rw [← hz8]; exact c14)]; exact ⟨by rw [e9], by rw [e9]; exact AX.rec (by omega) hX hsn hrg rfl (fun _ _ _ => rfl)⟩)
  · refine zv_bipush hx hb dX9_load_17 (by decide +kernel) ?_
    refine lv_iload_n hx hb dX9_load_19 rfl (lv_at hl 0 rfl) ?_
    refine zv_isub hx hb dX9_load_20 ?_
    exact zw_i hx hb hr hlocks hS dX9_load_21 (by rw [show sLoad w n ee en hc u un hs tc tn  = _ from zIf_f (by rw [← hz8]; exact c14)]; exact ⟨congrArg (fun z => zI (-100 - z)) hz8, AX.of hX hsn hrg⟩)

theorem mX9_undo_0 : ∀ w ∈ wsX90, w ∈ wsX9_undo := by decide +kernel
theorem mX9_undo_1 : (Cond.fieldLink RX9 29 "BorderRuns" "history" "LBorderRuns$History;") ∈ wsX9_undo := by decide +kernel
theorem mX9_undo_2 : (Cond.fieldLink RX9 10 "BorderRuns" "word" "LBorderRuns$Word;") ∈ wsX9_undo := by decide +kernel
set_option maxHeartbeats 4000000 in
set_option maxRecDepth 100000 in
/-- X9_undo -/
theorem kX9_undo (l : Launch) (g : zG) (ad : Nat → Nat) (w : Int → Int) (n : Int) (ee : Nat → Int → Int) (en : Nat → Int) (hc : Int) (u : Int → Int) (un hs : Int) (tc : Int → Int) (tn : Int)  : Met l yX9_undo wsX9_undo (zRm 4 89) (zP g [.ref (ad 16)] (AX g ad w n ee en hc u un hs tc tn)) (zQi (fun r H => r = zI (sUndo w n ee en hc u un hs tc tn ).1 ∧ AXt g ad (sUndo w n ee en hc u un hs tc tn ).2 H) (zAx ad)) 0 0 (zAx ad) := by
  refine Met.ofZ (cc := cX9_undo) (maxL := 1) (ret := (some .int)) (by decide) rfl (Nat.le_of_ble_eq_true rfl) ?_
  intro p e s m args below meth c ls hx hb hr hlocks S hin hK hpic hl
  have hown := S.2.2.2.1
  have hts := S.2.2.2.2
  have hl : lv_has ls 1 [(0, .ref (ad 16))] := hl
  obtain ⟨d, dn, u9, un9, hf, hn, v, vn, nx, pf, ig, bp, hX, hsn, hrg⟩ := hpic
  have hg := hX.grg
  have hn0 := hX.gw.1
  have hd0 := hX.gd.1
  have hu0 := hX.gu.1
  have hv0 := hX.gv.1
  have ht0 := hX.gt.1
  have hS : va_S (zAx ad) s.heap s.heap [] := va_S.rf
  refine lv_aload_n hx hb dX9_undo_0 rfl (lv_at hl 0 rfl) ?_
  refine va_get (D := g.1) (ci := 4) (v := .ref (ad 17)) (C := RX9) (T := TX9) (N := 7) hx hb hts mX9_undo_0 hown hK (hX.gx) 0 rfl rfl 4 (by decide) (hts _ mX9_undo_1) (fun _ h9 => h9) rfl dX9_undo_1 ?_
  refine zc_V (As := []) (rest := []) S hK (kX1_size l g ad w n d dn u9 un9 hf hn v vn hs nx hc tn pf ig bp tc) (cwV 0 hts gX9_undo_X1_size rfl rfl rfl (by decide +kernel) ⟨Nat.le_of_ble_eq_true rfl, Nat.le_of_ble_eq_true rfl⟩) (hX) (hX.recvh hK) rfl hl.1 rfl (Nat.le_of_ble_eq_true rfl) dX9_undo_4 ⟨Nat.zero_le _, Nat.zero_le _⟩ (fun r4 hr4 => ?_)
  obtain rfl := hr4
  refine zv_if_ne (tgt := 13) hx hb dX9_undo_7 (by decide) (by omega) (fun c7 => ?_) (fun c7 => ?_)
  · refine lv_aload_n hx hb dX9_undo_13 rfl (lv_at hl 0 rfl) ?_
    refine va_get (D := g.1) (ci := 4) (v := .ref (ad 17)) (C := RX9) (T := TX9) (N := 7) hx hb hts mX9_undo_0 hown hK (hX.gx) 0 rfl rfl 4 (by decide) (hts _ mX9_undo_1) (fun _ h9 => h9) rfl dX9_undo_14 ?_
    refine lv_aload_n hx hb dX9_undo_17 rfl (lv_at hl 0 rfl) ?_
    refine va_get (D := g.1) (ci := 4) (v := .ref (ad 0)) (C := RX9) (T := TX9) (N := 7) hx hb hts mX9_undo_0 hown hK (hX.gx) 0 rfl rfl 0 (by decide) (hts _ mX9_undo_2) (fun _ h9 => h9) rfl dX9_undo_18 ?_
    refine zc_VWv (As := [.ref (ad 0)]) (rest := []) S hK (kX1_moveLatestInto l g ad w n d dn u9 un9 hf hn v vn hs nx hc tn pf ig bp tc (by omega)) (cwV 1 hts gX9_undo_X1_moveLatestInto rfl rfl rfl (by decide +kernel) ⟨Nat.le_of_ble_eq_true rfl, Nat.le_of_ble_eq_true rfl⟩) (hX) (hX.recvh hK) rfl hl.1 rfl (Nat.le_of_ble_eq_true rfl) dX9_undo_21 ⟨Nat.zero_le _, Nat.zero_le _⟩ hS (fun q h => h) (fun H1 locs hp hz hk hS => ?_)
    have hX := hp
    refine lv_aload_n hx hb dX9_undo_24 rfl (lv_at hl 0 rfl) ?_
    refine va_get (D := g.1) (ci := 4) (v := .ref (ad 17)) (C := RX9) (T := TX9) (N := 7) hx hb hts mX9_undo_0 hown hK (hX.gx) 0 rfl rfl 4 (by decide) (hts _ mX9_undo_1) (fun _ h9 => h9) rfl dX9_undo_25 ?_
    refine zc_V (As := []) (rest := []) S hK (kX1_size l g ad (hf (zPv nx).toNat) (hn (zPv nx).toNat) d dn u9 un9 hf hn v vn hs (zPv nx) (hc - 1) tn pf ig bp tc) (cwV 0 hts gX9_undo_X1_size rfl rfl rfl (by decide +kernel) ⟨Nat.le_of_ble_eq_true rfl, Nat.le_of_ble_eq_true rfl⟩) (hX) (hX.recvh hK) rfl hl.1 rfl (Nat.le_of_ble_eq_true rfl) dX9_undo_28 ⟨Nat.zero_le _, Nat.zero_le _⟩ (fun r28 hr28 => ?_)
    obtain rfl := hr28
    exact zw_i hx hb hr hlocks hS dX9_undo_31 (by rw [show sUndo w n ee en hc u un hs tc tn  = _ from zIf_f c7]; have e1 := hrg 0 (by omega); rw [zRing_top (by omega), e1.1, e1.2] at hX; exact ⟨rfl, AX.of hX hsn (fun j hj => ⟨zRing_pop (by omega) (fun j hj => (hrg j hj).1) j hj, zRing_pop (by omega) (fun j hj => (hrg j hj).2) j hj⟩)⟩)
  · refine zv_bipush hx hb dX9_undo_10 (by decide +kernel) ?_
    exact zw_i hx hb hr hlocks hS dX9_undo_12 (by rw [show sUndo w n ee en hc u un hs tc tn  = _ from zIf_t c7]; exact ⟨rfl, AX.of hX hsn hrg⟩)

theorem mX9_restore_0 : ∀ w ∈ wsX90, w ∈ wsX9_restore := by decide +kernel
theorem mX9_restore_1 : (Cond.fieldLink RX9 22 "BorderRuns" "hasSnapshot" "Z") ∈ wsX9_restore := by decide +kernel
theorem mX9_restore_2 : (Cond.fieldLink RX9 19 "BorderRuns" "snapshot" "LBorderRuns$Word;") ∈ wsX9_restore := by decide +kernel
theorem mX9_restore_3 : (Cond.fieldLink RX9 10 "BorderRuns" "word" "LBorderRuns$Word;") ∈ wsX9_restore := by decide +kernel
set_option maxHeartbeats 4000000 in
set_option maxRecDepth 100000 in
/-- X9_restore -/
theorem kX9_restore (l : Launch) (g : zG) (ad : Nat → Nat) (w : Int → Int) (n : Int) (ee : Nat → Int → Int) (en : Nat → Int) (hc : Int) (u : Int → Int) (un hs : Int) (tc : Int → Int) (tn : Int)  : Met l yX9_restore wsX9_restore (zRm 5 109) (zP g [.ref (ad 16)] (AX g ad w n ee en hc u un hs tc tn)) (zQi (fun r H => r = zI (sRestore w n ee en hc u un hs tc tn ).1 ∧ AXt g ad (sRestore w n ee en hc u un hs tc tn ).2 H) (zAx ad)) 0 0 (zAx ad) := by
  refine Met.ofZ (cc := cX9_restore) (maxL := 1) (ret := (some .int)) (by decide) rfl (Nat.le_of_ble_eq_true rfl) ?_
  intro p e s m args below meth c ls hx hb hr hlocks S hin hK hpic hl
  have hown := S.2.2.2.1
  have hts := S.2.2.2.2
  have hl : lv_has ls 1 [(0, .ref (ad 16))] := hl
  obtain ⟨d, dn, u9, un9, hf, hn, v, vn, nx, pf, ig, bp, hX, hsn, hrg⟩ := hpic
  have hg := hX.grg
  have hn0 := hX.gw.1
  have hd0 := hX.gd.1
  have hu0 := hX.gu.1
  have hv0 := hX.gv.1
  have ht0 := hX.gt.1
  have hS : va_S (zAx ad) s.heap s.heap [] := va_S.rf
  refine lv_aload_n hx hb dX9_restore_0 rfl (lv_at hl 0 rfl) ?_
  refine va_get (D := g.1) (ci := 4) (v := .int (zI hs)) (C := RX9) (T := TX9) (N := 7) hx hb hts mX9_restore_0 hown hK (hX.gx) 0 rfl rfl 3 (by decide) (hts _ mX9_restore_1) (fun _ h9 => h9) rfl dX9_restore_1 ?_
  refine zv_if_ne (tgt := 10) hx hb dX9_restore_4 (by decide) (by omega) (fun c4 => ?_) (fun c4 => ?_)
  · obtain ⟨eu, eun⟩ := hsn (by omega)
    refine lv_aload_n hx hb dX9_restore_10 rfl (lv_at hl 0 rfl) ?_
    refine lv_aload_n hx hb dX9_restore_11 rfl (lv_at hl 0 rfl) ?_
    refine va_get (D := g.1) (ci := 4) (v := .ref (ad 4)) (C := RX9) (T := TX9) (N := 7) hx hb hts mX9_restore_0 hown hK (hX.gx) 0 rfl rfl 2 (by decide) (hts _ mX9_restore_2) (fun _ h9 => h9) rfl dX9_restore_12 ?_
    refine zc_VWv (As := [.ref (ad 4)]) (rest := []) S hK (kX9_become_u l g ad w n d dn u9 un9 hf hn v vn hs nx hc tn pf ig bp tc) (cwV 1 hts gX9_restore_X9_become rfl rfl rfl (by decide +kernel) ⟨Nat.le_of_ble_eq_true rfl, Nat.le_of_ble_eq_true rfl⟩) (hX) (hX.recvx hK) rfl hl.1 rfl (Nat.le_of_ble_eq_true rfl) dX9_restore_15 ⟨Nat.zero_le _, Nat.zero_le _⟩ hS (fun q h => h) (fun H1 locs hp hz hk hS => ?_)
    have hX := hp
    refine lv_aload_n hx hb dX9_restore_18 rfl (lv_at hl 0 rfl) ?_
    refine va_get (D := g.1) (ci := 4) (v := .ref (ad 0)) (C := RX9) (T := TX9) (N := 7) hx hb hts mX9_restore_0 hown hK (hX.gx) 0 rfl rfl 0 (by decide) (hts _ mX9_restore_3) (fun _ h9 => h9) rfl dX9_restore_19 ?_
    refine zc_V (As := []) (rest := []) S hK (kX8_length l g (ad 0) (ad 1) u9 un9) (cwV 0 hts gX9_restore_X8_length rfl rfl rfl (by decide +kernel) ⟨Nat.le_of_ble_eq_true rfl, Nat.le_of_ble_eq_true rfl⟩) ((hX.gw)) ((hX.gw).recv hK) rfl hl.1 rfl (Nat.le_of_ble_eq_true rfl) dX9_restore_22 ⟨Nat.zero_le _, Nat.zero_le _⟩ (fun r22 hr22 => ?_)
    obtain rfl := hr22
    exact zw_i hx hb hr hlocks hS dX9_restore_25 (by rw [show sRestore w n ee en hc u un hs tc tn  = _ from zIf_f c4]; exact ⟨congrArg zI eun, (by rw [← eu, ← eun]; exact AX.rec (by omega) hX (fun h => ⟨rfl, rfl⟩) hrg rfl (fun _ _ _ => rfl))⟩)
  · refine zv_bipush hx hb dX9_restore_7 (by decide +kernel) ?_
    exact zw_i hx hb hr hlocks hS dX9_restore_9 (by rw [show sRestore w n ee en hc u un hs tc tn  = _ from zIf_t c4]; exact ⟨rfl, AX.of hX hsn hrg⟩)

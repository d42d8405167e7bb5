theorem mX7_length_0 : ∀ w ∈ wsX70, w ∈ wsX7_length := by decide +kernel
theorem mX7_length_1 : (Cond.fieldLink RX7 15 "BorderRuns$Text" "length" "I") ∈ wsX7_length := by decide +kernel
set_option maxHeartbeats 4000000 in
set_option maxRecDepth 100000 in
/-- Text.length() -/
theorem kX7_length (l : Launch) (g : zG) (h a : Nat) (w : Int → Int) (n : Int) : Met l yX7_length wsX7_length (zRm 0 0) (zP g [.ref h] (PT g h a w n)) (vp_Si (fun r => r = zI n)) 0 0 (fun _ => False) := by
  refine Met.ofZ (cc := cX7_length) (maxL := 1) (ret := (some .int)) (by decide) rfl (Nat.le_of_ble_eq_true rfl) ?_
  intro p e s m args below meth c ls hx hb hr hlocks S hin hK hpic hl
  have hown := S.2.2.2.1
  have hts := S.2.2.2.2
  have hl : lv_has ls 1 [(0, .ref h)] := hl
  obtain ⟨hn, hw, f, hP, hf, hha⟩ := id hpic
  refine lv_aload_n hx hb dX7_length_0 rfl (lv_at hl 0 rfl) ?_
  refine va_get (D := g.1) (ci := 2) (v := .int (zI n)) (C := RX7) (T := TX7) (N := 2) hx hb hts mX7_length_0 hown hK hP 0 rfl rfl 1 (by decide) (hts _ mX7_length_1) (fun _ h9 => h9) rfl dX7_length_1 ?_
  exact zr_i hx hb hr hlocks dX7_length_4 rfl

theorem mX7_characterAt_0 : ∀ w ∈ wsX70, w ∈ wsX7_characterAt := by decide +kernel
theorem mX7_characterAt_1 : (Cond.fieldLink RX7 15 "BorderRuns$Text" "length" "I") ∈ wsX7_characterAt := by decide +kernel
theorem mX7_characterAt_2 : (Cond.fieldLink RX7 9 "BorderRuns$Text" "characters" "[C") ∈ wsX7_characterAt := by decide +kernel
set_option maxHeartbeats 4000000 in
set_option maxRecDepth 100000 in
/-- Text.characterAt(i) -/
theorem kX7_characterAt (l : Launch) (g : zG) (h a : Nat) (w : Int → Int) (n : Int) (i : Int) (hi : 0 ≤ i ∧ i < n) : Met l yX7_characterAt wsX7_characterAt (zRm 0 0) (zP g [.ref h, .int (zI i)] (PT g h a w n)) (vp_Si (fun r => r = zI (w i))) 0 0 (fun _ => False) := by
  refine Met.ofZ (cc := cX7_characterAt) (maxL := 2) (ret := (some .char)) (by decide) rfl (Nat.le_of_ble_eq_true rfl) ?_
  intro p e s m args below meth c ls hx hb hr hlocks S hin hK hpic hl
  have hown := S.2.2.2.1
  have hts := S.2.2.2.2
  have hl : lv_has ls 2 [(0, .ref h), (1, .int (zI i))] := hl
  obtain ⟨hn, hw, f, hP, hf, hha⟩ := id hpic
  refine lv_iload_n hx hb dX7_characterAt_0 rfl (lv_at hl 1 rfl) ?_
  refine zv_if_lt (tgt := 30) hx hb dX7_characterAt_1 (by decide) (by omega) (fun c1 => ?_) (fun c1 => ?_)
  · exact absurd c1 (by omega)
  · refine lv_iload_n hx hb dX7_characterAt_4 rfl (lv_at hl 1 rfl) ?_
    refine lv_aload_n hx hb dX7_characterAt_5 rfl (lv_at hl 0 rfl) ?_
    refine va_get (D := g.1) (ci := 2) (v := .int (zI n)) (C := RX7) (T := TX7) (N := 2) hx hb hts mX7_characterAt_0 hown hK hP 0 rfl rfl 1 (by decide) (hts _ mX7_characterAt_1) (fun _ h9 => h9) rfl dX7_characterAt_6 ?_
    refine zv_icmp_ge (tgt := 30) hx hb dX7_characterAt_9 (by decide) (by omega) (by omega) (fun c9 => ?_) (fun c9 => ?_)
    · exact absurd c9 (by omega)
    · refine lv_iload_n hx hb dX7_characterAt_12 rfl (lv_at hl 1 rfl) ?_
      refine lv_aload_n hx hb dX7_characterAt_13 rfl (lv_at hl 0 rfl) ?_
      refine va_get (D := g.1) (ci := 2) (v := .ref a) (C := RX7) (T := TX7) (N := 2) hx hb hts mX7_characterAt_0 hown hK hP 0 rfl rfl 0 (by decide) (hts _ mX7_characterAt_2) (fun _ h9 => h9) rfl dX7_characterAt_14 ?_
      refine va_alen (D := g.1) hx hb hK hP 1 1 rfl rfl (v := zI 60) rfl dX7_characterAt_17 ?_
      refine zv_icmp_ge (tgt := 30) hx hb dX7_characterAt_18 (by decide) (by omega) (by omega) (fun c18 => ?_) (fun c18 => ?_)
      · exact absurd c18 (by omega)
      · refine lv_aload_n hx hb dX7_characterAt_21 rfl (lv_at hl 0 rfl) ?_
        refine va_get (D := g.1) (ci := 2) (v := .ref a) (C := RX7) (T := TX7) (N := 2) hx hb hts mX7_characterAt_0 hown hK hP 0 rfl rfl 0 (by decide) (hts _ mX7_characterAt_2) (fun _ h9 => h9) rfl dX7_characterAt_22 ?_
        refine lv_iload_n hx hb dX7_characterAt_25 rfl (lv_at hl 1 rfl) ?_
        refine va_cald (D := g.1) hx hb hK hP 1 1 rfl rfl (zI_in (by omega) (by decide)) dX7_characterAt_26 ?_
        rw [zI_cl (by omega)]
        rw [hf i (by omega) (by omega)]
        refine lv_goto (tgt := 32) hx hb dX7_characterAt_27 (by decide) ?_
        exact zr_c hx hb hr hlocks dX7_characterAt_32 (zI_char (hw _ (by omega) (by omega))) rfl

theorem mX1_size_0 : ∀ w ∈ wsX10, w ∈ wsX1_size := by decide +kernel
theorem mX1_size_1 : (Cond.fieldLink RX1 21 "BorderRuns$History" "held" "I") ∈ wsX1_size := by decide +kernel
set_option maxHeartbeats 4000000 in
set_option maxRecDepth 100000 in
/-- History.size() -/
theorem kX1_size (l : Launch) (g : zG) (ad : Nat → Nat) (w : Int → Int) (n : Int) (d : Int → Int) (dn : Int) (u : Int → Int) (un : Int) (hf : Nat → Int → Int) (hn : Nat → Int) (v : Int → Int) (vn hs nx hd tn pf ig bp : Int) (tc : Int → Int)  : Met l yX1_size wsX1_size (zRm 0 0) (zP g [.ref (ad 17)] (PX g ad w n d dn u un hf hn v vn hs nx hd tn pf ig bp tc)) (vp_Si (fun r => r = zI hd)) 0 0 (fun _ => False) := by
  refine Met.ofZ (cc := cX1_size) (maxL := 1) (ret := (some .int)) (by decide) rfl (Nat.le_of_ble_eq_true rfl) ?_
  intro p e s m args below meth c ls hx hb hr hlocks S hin hK hpic hl
  have hown := S.2.2.2.1
  have hts := S.2.2.2.2
  have hl : lv_has ls 1 [(0, .ref (ad 17))] := hl
  have hX := hpic
  have hg := hX.grg
  have hn0 := hX.gw.1
  have hd0 := hX.gd.1
  have hu0 := hX.gu.1
  have hv0 := hX.gv.1
  have ht0 := hX.gt.1
  refine lv_aload_n hx hb dX1_size_0 rfl (lv_at hl 0 rfl) ?_
  refine va_get (D := g.1) (ci := 0) (v := .int (zI hd)) (C := RX1) (T := TX1) (N := 3) hx hb hts mX1_size_0 hown hK (hX.gh) 0 rfl rfl 2 (by decide) (hts _ mX1_size_1) (fun _ h9 => h9) rfl dX1_size_1 ?_
  exact zr_i hx hb hr hlocks dX1_size_4 rfl

theorem mX1_stateAt_0 : ∀ w ∈ wsX10, w ∈ wsX1_stateAt := by decide +kernel
theorem mX1_stateAt_1 : (Cond.fieldLink RX1 11 "BorderRuns$History" "states" "[LBorderRuns$Word;") ∈ wsX1_stateAt := by decide +kernel
set_option maxHeartbeats 4000000 in
set_option maxRecDepth 100000 in
/-- History.stateAt(i) -/
theorem kX1_stateAt (l : Launch) (g : zG) (ad : Nat → Nat) (w : Int → Int) (n : Int) (d : Int → Int) (dn : Int) (u : Int → Int) (un : Int) (hf : Nat → Int → Int) (hn : Nat → Int) (v : Int → Int) (vn hs nx hd tn pf ig bp : Int) (tc : Int → Int) (i : Int) (hi : 0 ≤ i ∧ i ≤ 3) : Met l yX1_stateAt wsX1_stateAt (zRm 0 0) (zP g [.ref (ad 17), .int (zI i)] (PX g ad w n d dn u un hf hn v vn hs nx hd tn pf ig bp tc)) (zSr (.ref (ad (6 + 2 * i.toNat)))) 0 0 (fun _ => False) := by
  refine Met.ofZ (cc := cX1_stateAt) (maxL := 2) (ret := (some (.object "BorderRuns$Word"))) (by decide) rfl (Nat.le_of_ble_eq_true rfl) ?_
  intro p e s m args below meth c ls hx hb hr hlocks S hin hK hpic hl
  have hown := S.2.2.2.1
  have hts := S.2.2.2.2
  have hl : lv_has ls 2 [(0, .ref (ad 17)), (1, .int (zI i))] := hl
  have hX := hpic
  have hg := hX.grg
  have hn0 := hX.gw.1
  have hd0 := hX.gd.1
  have hu0 := hX.gu.1
  have hv0 := hX.gv.1
  have ht0 := hX.gt.1
  refine lv_iload_n hx hb dX1_stateAt_0 rfl (lv_at hl 1 rfl) ?_
  refine zv_if_lt (tgt := 22) hx hb dX1_stateAt_1 (by decide) (by omega) (fun c1 => ?_) (fun c1 => ?_)
  · exact absurd c1 (by omega)
  · refine lv_iload_n hx hb dX1_stateAt_4 rfl (lv_at hl 1 rfl) ?_
    refine lv_aload_n hx hb dX1_stateAt_5 rfl (lv_at hl 0 rfl) ?_
    refine va_get (D := g.1) (ci := 0) (v := .ref (ad 18)) (C := RX1) (T := TX1) (N := 3) hx hb hts mX1_stateAt_0 hown hK (hX.gh) 0 rfl rfl 0 (by decide) (hts _ mX1_stateAt_1) (fun _ h9 => h9) rfl dX1_stateAt_6 ?_
    refine va_alen (D := g.1) hx hb hK (hX.gs) 0 2 rfl rfl (v := zI 4) rfl dX1_stateAt_9 ?_
    refine zv_icmp_ge (tgt := 22) hx hb dX1_stateAt_10 (by decide) (by omega) (by omega) (fun c10 => ?_) (fun c10 => ?_)
    · exact absurd c10 (by omega)
    · refine lv_aload_n hx hb dX1_stateAt_13 rfl (lv_at hl 0 rfl) ?_
      refine va_get (D := g.1) (ci := 0) (v := .ref (ad 18)) (C := RX1) (T := TX1) (N := 3) hx hb hts mX1_stateAt_0 hown hK (hX.gh) 0 rfl rfl 0 (by decide) (hts _ mX1_stateAt_1) (fun _ h9 => h9) rfl dX1_stateAt_14 ?_
      refine lv_iload_n hx hb dX1_stateAt_17 rfl (lv_at hl 1 rfl) ?_
      refine va_aldq (D := g.1) hx hb hK (hX.gs) 0 2 rfl rfl (zI_in (by omega) (by decide)) dX1_stateAt_18 ?_
      rw [zI_cl (by omega)]
      refine lv_goto (tgt := 23) hx hb dX1_stateAt_19 (by decide) ?_
      exact zr_a hx hb hr (Or.inl ⟨_, rfl⟩) hlocks dX1_stateAt_23

theorem mX1_record_0 : ∀ w ∈ wsX10, w ∈ wsX1_record := by decide +kernel
theorem mX1_record_1 : (Cond.fieldLink RX1 17 "BorderRuns$History" "next" "I") ∈ wsX1_record := by decide +kernel
theorem mX1_record_2 : (Cond.fieldLink RX1 11 "BorderRuns$History" "states" "[LBorderRuns$Word;") ∈ wsX1_record := by decide +kernel
theorem mX1_record_3 : (Cond.fieldLink RX1 21 "BorderRuns$History" "held" "I") ∈ wsX1_record := by decide +kernel
theorem mX1_record_4 : (Cond.methodLink RX1 33 Lib.Math.min.name) ∈ wsX1_record := by decide +kernel
theorem mX1_record_5 : (Cond.static Lib.Math.min.name) ∈ wsX1_record := by decide +kernel
theorem mX1_record_6 : (Cond.initialized "java/lang/Math") ∈ wsX1_record := by decide +kernel
theorem mX1_record_7 : (Cond.code Lib.Math.min.name Lib.Math.min.code 2 (some .int)) ∈ wsX1_record := by decide +kernel
set_option maxHeartbeats 4000000 in
set_option maxRecDepth 100000 in
/-- History.record(word) -/
theorem kX1_record (l : Launch) (g : zG) (ad : Nat → Nat) (w : Int → Int) (n : Int) (d : Int → Int) (dn : Int) (u : Int → Int) (un : Int) (hf : Nat → Int → Int) (hn : Nat → Int) (v : Int → Int) (vn hs nx hd tn pf ig bp : Int) (tc : Int → Int)  : Met l yX1_record wsX1_record (zRm 3 66) (zP g [.ref (ad 17), .ref (ad 0)] (PX g ad w n d dn u un hf hn v vn hs nx hd tn pf ig bp tc)) (zQv (fun H => PX g ad w n d dn u un (zUp hf nx.toNat w) (zUp hn nx.toNat n) v vn hs (zNx nx) (min (hd + 1) 4) tn pf ig bp tc H) (zAx ad)) 0 0 (zAx ad) := by
  refine Met.ofZ (cc := cX1_record) (maxL := 3) (ret := none) (by decide) rfl (Nat.le_of_ble_eq_true rfl) ?_
  intro p e s m args below meth c ls hx hb hr hlocks S hin hK hpic hl
  have hown := S.2.2.2.1
  have hts := S.2.2.2.2
  have hl : lv_has ls 3 [(0, .ref (ad 17)), (1, .ref (ad 0))] := hl
  have hX := hpic
  have hg := hX.grg
  have hn0 := hX.gw.1
  have hd0 := hX.gd.1
  have hu0 := hX.gu.1
  have hv0 := hX.gv.1
  have ht0 := hX.gt.1
  have hS : va_S (zAx ad) s.heap s.heap [] := va_S.rf
  refine lv_aload_n hx hb dX1_record_0 rfl (lv_at hl 0 rfl) ?_
  refine lv_aload_n hx hb dX1_record_1 rfl (lv_at hl 0 rfl) ?_
  refine va_get (D := g.1) (ci := 0) (v := .int (zI nx)) (C := RX1) (T := TX1) (N := 3) hx hb hts mX1_record_0 hown hK (hX.gh) 0 rfl rfl 1 (by decide) (hts _ mX1_record_1) (fun _ h9 => h9) rfl dX1_record_2 ?_
  refine zc_VR (As := [.int (zI nx)]) (rest := []) S hK (kX1_stateAt l g ad w n d dn u un hf hn v vn hs nx hd tn pf ig bp tc nx (by omega)) (cwV 1 hts gX1_record_X1_stateAt rfl rfl rfl (by decide +kernel) ⟨Nat.le_of_ble_eq_true rfl, Nat.le_of_ble_eq_true rfl⟩) hX (hX.recvh hK) rfl hl.1 rfl (Nat.le_of_ble_eq_true rfl) dX1_record_5 ⟨Nat.zero_le _, Nat.zero_le _⟩ ?_
  refine lv_astore_n (lv' := [(2, .ref (ad (6 + 2 * nx.toNat))), (0, .ref (ad 17)), (1, .ref (ad 0))]) hx hb dX1_record_8 rfl hl (by decide) rfl (fun ls hl => ?_)
  refine lv_aload_n hx hb dX1_record_9 rfl (lv_at hl 0 rfl) ?_
  refine lv_ifnull hx hb dX1_record_10 ?_
  refine lv_aload_n hx hb dX1_record_13 rfl (lv_at hl 0 rfl) ?_
  refine lv_aload_n hx hb dX1_record_14 rfl (lv_at hl 2 rfl) ?_
  refine zc_VWv (As := [.ref (ad 0)]) (rest := []) S hK (kX8_copyFrom l g (ad (6 + 2 * nx.toNat)) (ad (7 + 2 * nx.toNat)) (hf nx.toNat) (hn nx.toNat) (ad 0) (ad 1) w n ⟨hX.gj.ne (by omega) (by omega) (by omega), hX.gj.ne (by omega) (by omega) (by omega), hX.gj.ne (by omega) (by omega) (by omega), hX.gj.ne (by omega) (by omega) (by omega)⟩) (cwV 1 hts gX1_record_X8_copyFrom rfl rfl rfl (by decide +kernel) ⟨Nat.le_of_ble_eq_true rfl, Nat.le_of_ble_eq_true rfl⟩) (⟨(hX.ghh nx.toNat (by omega)), (hX.gw)⟩) ((hX.ghh nx.toNat (by omega)).recv hK) rfl hl.1 rfl (Nat.le_of_ble_eq_true rfl) dX1_record_15 ⟨Nat.zero_le _, Nat.zero_le _⟩ hS (zAx_2 (by omega) (by omega)) (fun H1 locs hp hz hk hS => ?_)
  have hX := hX.setH (i := nx.toNat) (by omega) hk hp
  refine lv_aload_n hx hb dX1_record_18 rfl (lv_at hl 1 rfl) ?_
  refine lv_aload_n hx hb dX1_record_19 rfl (lv_at hl 1 rfl) ?_
  refine va_get (D := g.1) (ci := 0) (v := .int (zI nx)) (C := RX1) (T := TX1) (N := 3) hx hb hts mX1_record_0 hown hK (hX.gh) 0 rfl rfl 1 (by decide) (hts _ mX1_record_1) (fun _ h9 => h9) rfl dX1_record_20 ?_
  refine zv_iconst hx hb dX1_record_23 ?_
  refine zv_iadd hx hb dX1_record_24 ?_
  refine lv_aload_n hx hb dX1_record_25 rfl (lv_at hl 1 rfl) ?_
  refine va_get (D := g.1) (ci := 0) (v := .ref (ad 18)) (C := RX1) (T := TX1) (N := 3) hx hb hts mX1_record_0 hown hK (hX.gh) 0 rfl rfl 0 (by decide) (hts _ mX1_record_2) (fun _ h9 => h9) rfl dX1_record_26 ?_
  refine va_alen (D := g.1) hx hb hK (hX.gs) 0 2 rfl rfl (v := zI 4) rfl dX1_record_29 ?_
  refine zv_icmp_ge (tgt := 42) hx hb dX1_record_30 (by decide) (by omega) (by omega) (fun c30 => ?_) (fun c30 => ?_)
  · have e9 : zNx nx = 0 := zNx_f (by omega)
    refine zv_iconst hx hb dX1_record_42 ?_
    refine zx_put (D := g.1) (A := zAx ad) (ci := 0) (v := .int (zI 0)) (ty := .int) (C := RX1) (T := TX1) (N := 3) hx hb hts mX1_record_0 tyX1 tyX1_ok nmX1 hown hK (hX.gh) (zAx_i 17 (by omega)) hS rfl 1 (by decide) (hts _ mX1_record_1) (fun _ h9 => h9) rfl (by decide +kernel) rfl rfl (Nat.le_of_ble_eq_true rfl) dX1_record_43 (fun H1 locs hp hk hS => ?_)
    have hX := hX.putH hk hp (by omega)
    refine lv_aload_n hx hb dX1_record_46 rfl (lv_at hl 1 rfl) ?_
    refine lv_aload_n hx hb dX1_record_47 rfl (lv_at hl 1 rfl) ?_
    refine va_get (D := g.1) (ci := 0) (v := .int (zI hd)) (C := RX1) (T := TX1) (N := 3) hx hb hts mX1_record_0 hown hK (hX.gh) 0 rfl rfl 2 (by decide) (hts _ mX1_record_3) (fun _ h9 => h9) rfl dX1_record_48 ?_
    refine zv_iconst hx hb dX1_record_51 ?_
    refine zv_iadd hx hb dX1_record_52 ?_
    refine lv_aload_n hx hb dX1_record_53 rfl (lv_at hl 1 rfl) ?_
    refine va_get (D := g.1) (ci := 0) (v := .ref (ad 18)) (C := RX1) (T := TX1) (N := 3) hx hb hts mX1_record_0 hown hK (hX.gh) 0 rfl rfl 0 (by decide) (hts _ mX1_record_2) (fun _ h9 => h9) rfl dX1_record_54 ?_
    refine va_alen (D := g.1) hx hb hK (hX.gs) 0 2 rfl rfl (v := zI 4) rfl dX1_record_57 ?_
    refine zv_mmin hx hb (S.2.2.1.trans hl.1.symm) hown (hts _ mX1_record_4) (hts _ mX1_record_5) (hts _ mX1_record_6) (hts _ mX1_record_7) (Nat.le_of_ble_eq_true rfl) (Nat.le_of_ble_eq_true rfl) (Nat.zero_le _) (Nat.zero_le _) (by omega) (by omega) dX1_record_58 ?_
    refine zx_put (D := g.1) (A := zAx ad) (ci := 0) (v := .int (zI (min (hd + 1) 4))) (ty := .int) (C := RX1) (T := TX1) (N := 3) hx hb hts mX1_record_0 tyX1 tyX1_ok nmX1 hown hK (hX.gh) (zAx_i 17 (by omega)) hS rfl 2 (by decide) (hts _ mX1_record_3) (fun _ h9 => h9) rfl (by decide +kernel) rfl rfl (Nat.le_of_ble_eq_true rfl) dX1_record_61 (fun H1 locs hp hk hS => ?_)
    have hX := hX.putH hk hp (by omega)
    exact zw_v hx hb hr hlocks hS dX1_record_64 (by rw [e9]; exact hX)
  · have e9 : zNx nx = nx + 1 := zNx_t (by omega)
    refine lv_aload_n hx hb dX1_record_33 rfl (lv_at hl 1 rfl) ?_
    refine va_get (D := g.1) (ci := 0) (v := .int (zI nx)) (C := RX1) (T := TX1) (N := 3) hx hb hts mX1_record_0 hown hK (hX.gh) 0 rfl rfl 1 (by decide) (hts _ mX1_record_1) (fun _ h9 => h9) rfl dX1_record_34 ?_
    refine zv_iconst hx hb dX1_record_37 ?_
    refine zv_iadd hx hb dX1_record_38 ?_
    refine lv_goto (tgt := 43) hx hb dX1_record_39 (by decide) ?_
    refine zx_put (D := g.1) (A := zAx ad) (ci := 0) (v := .int (zI (nx + 1))) (ty := .int) (C := RX1) (T := TX1) (N := 3) hx hb hts mX1_record_0 tyX1 tyX1_ok nmX1 hown hK (hX.gh) (zAx_i 17 (by omega)) hS rfl 1 (by decide) (hts _ mX1_record_1) (fun _ h9 => h9) rfl (by decide +kernel) rfl rfl (Nat.le_of_ble_eq_true rfl) dX1_record_43 (fun H1 locs hp hk hS => ?_)
    have hX := hX.putH hk hp (by omega)
    refine lv_aload_n hx hb dX1_record_46 rfl (lv_at hl 1 rfl) ?_
    refine lv_aload_n hx hb dX1_record_47 rfl (lv_at hl 1 rfl) ?_
    refine va_get (D := g.1) (ci := 0) (v := .int (zI hd)) (C := RX1) (T := TX1) (N := 3) hx hb hts mX1_record_0 hown hK (hX.gh) 0 rfl rfl 2 (by decide) (hts _ mX1_record_3) (fun _ h9 => h9) rfl dX1_record_48 ?_
    refine zv_iconst hx hb dX1_record_51 ?_
    refine zv_iadd hx hb dX1_record_52 ?_
    refine lv_aload_n hx hb dX1_record_53 rfl (lv_at hl 1 rfl) ?_
    refine va_get (D := g.1) (ci := 0) (v := .ref (ad 18)) (C := RX1) (T := TX1) (N := 3) hx hb hts mX1_record_0 hown hK (hX.gh) 0 rfl rfl 0 (by decide) (hts _ mX1_record_2) (fun _ h9 => h9) rfl dX1_record_54 ?_
    refine va_alen (D := g.1) hx hb hK (hX.gs) 0 2 rfl rfl (v := zI 4) rfl dX1_record_57 ?_
    refine zv_mmin hx hb (S.2.2.1.trans hl.1.symm) hown (hts _ mX1_record_4) (hts _ mX1_record_5) (hts _ mX1_record_6) (hts _ mX1_record_7) (Nat.le_of_ble_eq_true rfl) (Nat.le_of_ble_eq_true rfl) (Nat.zero_le _) (Nat.zero_le _) (by omega) (by omega) dX1_record_58 ?_
    refine zx_put (D := g.1) (A := zAx ad) (ci := 0) (v := .int (zI (min (hd + 1) 4))) (ty := .int) (C := RX1) (T := TX1) (N := 3) hx hb hts mX1_record_0 tyX1 tyX1_ok nmX1 hown hK (hX.gh) (zAx_i 17 (by omega)) hS rfl 2 (by decide) (hts _ mX1_record_3) (fun _ h9 => h9) rfl (by decide +kernel) rfl rfl (Nat.le_of_ble_eq_true rfl) dX1_record_61 (fun H1 locs hp hk hS => ?_)
    have hX := hX.putH hk hp (by omega)
    exact zw_v hx hb hr hlocks hS dX1_record_64 (by rw [e9]; exact hX)

theorem mX1_moveLatestInto_0 : ∀ w ∈ wsX10, w ∈ wsX1_moveLatestInto := by decide +kernel
theorem mX1_moveLatestInto_1 : (Cond.fieldLink RX1 17 "BorderRuns$History" "next" "I") ∈ wsX1_moveLatestInto := by decide +kernel
theorem mX1_moveLatestInto_2 : (Cond.fieldLink RX1 11 "BorderRuns$History" "states" "[LBorderRuns$Word;") ∈ wsX1_moveLatestInto := by decide +kernel
theorem mX1_moveLatestInto_3 : (Cond.fieldLink RX1 21 "BorderRuns$History" "held" "I") ∈ wsX1_moveLatestInto := by decide +kernel
set_option maxHeartbeats 4000000 in
set_option maxRecDepth 100000 in
/-- History.moveLatestInto(word) -/
theorem kX1_moveLatestInto (l : Launch) (g : zG) (ad : Nat → Nat) (w : Int → Int) (n : Int) (d : Int → Int) (dn : Int) (u : Int → Int) (un : Int) (hf : Nat → Int → Int) (hn : Nat → Int) (v : Int → Int) (vn hs nx hd tn pf ig bp : Int) (tc : Int → Int) (hd1 : 1 ≤ hd) : Met l yX1_moveLatestInto wsX1_moveLatestInto (zRm 3 66) (zP g [.ref (ad 17), .ref (ad 0)] (PX g ad w n d dn u un hf hn v vn hs nx hd tn pf ig bp tc)) (zQv (fun H => PX g ad (hf (zPv nx).toNat) (hn (zPv nx).toNat) d dn u un hf hn v vn hs (zPv nx) (hd - 1) tn pf ig bp tc H) (zAx ad)) 0 0 (zAx ad) := by
  refine Met.ofZ (cc := cX1_moveLatestInto) (maxL := 4) (ret := none) (by decide) rfl (Nat.le_of_ble_eq_true rfl) ?_
  intro p e s m args below meth c ls hx hb hr hlocks S hin hK hpic hl
  have hown := S.2.2.2.1
  have hts := S.2.2.2.2
  have hl : lv_has ls 4 [(0, .ref (ad 17)), (1, .ref (ad 0))] := hl
  have hX := hpic
  have hg := hX.grg
  have hn0 := hX.gw.1
  have hd0 := hX.gd.1
  have hu0 := hX.gu.1
  have hv0 := hX.gv.1
  have ht0 := hX.gt.1
  have hS : va_S (zAx ad) s.heap s.heap [] := va_S.rf
  refine lv_aload_n hx hb dX1_moveLatestInto_0 rfl (lv_at hl 0 rfl) ?_
  refine va_get (D := g.1) (ci := 0) (v := .int (zI nx)) (C := RX1) (T := TX1) (N := 3) hx hb hts mX1_moveLatestInto_0 hown hK (hX.gh) 0 rfl rfl 1 (by decide) (hts _ mX1_moveLatestInto_1) (fun _ h9 => h9) rfl dX1_moveLatestInto_1 ?_
  refine zv_if_le (tgt := 16) hx hb dX1_moveLatestInto_4 (by decide) (by omega) (fun c4 => ?_) (fun c4 => ?_)
  · have e9 : zPv nx = 4 - 1 := zPv_f (by omega)
    refine lv_aload_n hx hb dX1_moveLatestInto_16 rfl (lv_at hl 0 rfl) ?_
    refine va_get (D := g.1) (ci := 0) (v := .ref (ad 18)) (C := RX1) (T := TX1) (N := 3) hx hb hts mX1_moveLatestInto_0 hown hK (hX.gh) 0 rfl rfl 0 (by decide) (hts _ mX1_moveLatestInto_2) (fun _ h9 => h9) rfl dX1_moveLatestInto_17 ?_
    refine va_alen (D := g.1) hx hb hK (hX.gs) 0 2 rfl rfl (v := zI 4) rfl dX1_moveLatestInto_20 ?_
    refine zv_iconst hx hb dX1_moveLatestInto_21 ?_
    refine zv_isub hx hb dX1_moveLatestInto_22 ?_
    refine lv_istore_n (lv' := [(2, .int (zI (4 - 1))), (0, .ref (ad 17)), (1, .ref (ad 0))]) hx hb dX1_moveLatestInto_23 rfl hl (by decide) rfl (fun ls hl => ?_)
    refine lv_aload_n hx hb dX1_moveLatestInto_24 rfl (lv_at hl 1 rfl) ?_
    refine lv_iload_n hx hb dX1_moveLatestInto_25 rfl (lv_at hl 0 rfl) ?_
    refine zc_VR (As := [.int (zI (4 - 1))]) (rest := []) S hK (kX1_stateAt l g ad w n d dn u un hf hn v vn hs nx hd tn pf ig bp tc (4 - 1) (by omega)) (cwV 1 hts gX1_moveLatestInto_X1_stateAt rfl rfl rfl (by decide +kernel) ⟨Nat.le_of_ble_eq_true rfl, Nat.le_of_ble_eq_true rfl⟩) hX (hX.recvh hK) rfl hl.1 rfl (Nat.le_of_ble_eq_true rfl) dX1_moveLatestInto_26 ⟨Nat.zero_le _, Nat.zero_le _⟩ ?_
    refine lv_astore_n (lv' := [(3, .ref (ad (6 + 2 * (4 - 1 : Int).toNat))), (2, .int (zI (4 - 1))), (0, .ref (ad 17)), (1, .ref (ad 0))]) hx hb dX1_moveLatestInto_29 rfl hl (by decide) rfl (fun ls hl => ?_)
    refine lv_aload_n hx hb dX1_moveLatestInto_30 rfl (lv_at hl 2 rfl) ?_
    refine va_get (D := g.1) (ci := 0) (v := .int (zI hd)) (C := RX1) (T := TX1) (N := 3) hx hb hts mX1_moveLatestInto_0 hown hK (hX.gh) 0 rfl rfl 2 (by decide) (hts _ mX1_moveLatestInto_3) (fun _ h9 => h9) rfl dX1_moveLatestInto_31 ?_
    refine zv_if_le (tgt := 61) hx hb dX1_moveLatestInto_34 (by decide) (by omega) (fun c34 => ?_) (fun c34 => ?_)
    · exact absurd c34 (by omega)
    · refine lv_aload_n hx hb dX1_moveLatestInto_37 rfl (lv_at hl 0 rfl) ?_
      refine lv_ifnull hx hb dX1_moveLatestInto_38 ?_
      refine lv_aload_n hx hb dX1_moveLatestInto_41 rfl (lv_at hl 3 rfl) ?_
      refine lv_aload_n hx hb dX1_moveLatestInto_42 rfl (lv_at hl 0 rfl) ?_
      refine zc_VWv (As := [.ref (ad (6 + 2 * (4 - 1 : Int).toNat))]) (rest := []) S hK (kX8_copyFrom l g (ad 0) (ad 1) w n (ad (6 + 2 * (4 - 1 : Int).toNat)) (ad (7 + 2 * (4 - 1 : Int).toNat)) (hf (4 - 1 : Int).toNat) (hn (4 - 1 : Int).toNat) ⟨hX.gj.ne (by omega) (by omega) (by omega), hX.gj.ne (by omega) (by omega) (by omega), hX.gj.ne (by omega) (by omega) (by omega), hX.gj.ne (by omega) (by omega) (by omega)⟩) (cwV 1 hts gX1_moveLatestInto_X8_copyFrom rfl rfl rfl (by decide +kernel) ⟨Nat.le_of_ble_eq_true rfl, Nat.le_of_ble_eq_true rfl⟩) (⟨(hX.gw), (hX.ghh (4 - 1 : Int).toNat (by omega))⟩) ((hX.gw).recv hK) rfl hl.1 rfl (Nat.le_of_ble_eq_true rfl) dX1_moveLatestInto_43 ⟨Nat.zero_le _, Nat.zero_le _⟩ hS (zAx_2 (by omega) (by omega)) (fun H1 locs hp hz hk hS => ?_)
      have hX := hX.setW hk hp
      refine lv_aload_n hx hb dX1_moveLatestInto_46 rfl (lv_at hl 2 rfl) ?_
      refine lv_iload_n hx hb dX1_moveLatestInto_47 rfl (lv_at hl 1 rfl) ?_
      refine zx_put (D := g.1) (A := zAx ad) (ci := 0) (v := .int (zI (4 - 1))) (ty := .int) (C := RX1) (T := TX1) (N := 3) hx hb hts mX1_moveLatestInto_0 tyX1 tyX1_ok nmX1 hown hK (hX.gh) (zAx_i 17 (by omega)) hS rfl 1 (by decide) (hts _ mX1_moveLatestInto_1) (fun _ h9 => h9) rfl (by decide +kernel) rfl rfl (Nat.le_of_ble_eq_true rfl) dX1_moveLatestInto_48 (fun H1 locs hp hk hS => ?_)
      have hX := hX.putH hk hp (by omega)
      refine lv_aload_n hx hb dX1_moveLatestInto_51 rfl (lv_at hl 2 rfl) ?_
      refine lv_dup hx hb dX1_moveLatestInto_52 rfl ?_
      refine va_get (D := g.1) (ci := 0) (v := .int (zI hd)) (C := RX1) (T := TX1) (N := 3) hx hb hts mX1_moveLatestInto_0 hown hK (hX.gh) 0 rfl rfl 2 (by decide) (hts _ mX1_moveLatestInto_3) (fun _ h9 => h9) rfl dX1_moveLatestInto_53 ?_
      refine zv_iconst hx hb dX1_moveLatestInto_56 ?_
      refine zv_isub hx hb dX1_moveLatestInto_57 ?_
      refine zx_put (D := g.1) (A := zAx ad) (ci := 0) (v := .int (zI (hd - 1))) (ty := .int) (C := RX1) (T := TX1) (N := 3) hx hb hts mX1_moveLatestInto_0 tyX1 tyX1_ok nmX1 hown hK (hX.gh) (zAx_i 17 (by omega)) hS rfl 2 (by decide) (hts _ mX1_moveLatestInto_3) (fun _ h9 => h9) rfl (by decide +kernel) rfl rfl (Nat.le_of_ble_eq_true rfl) dX1_moveLatestInto_58 (fun H1 locs hp hk hS => ?_)
      have hX := hX.putH hk hp (by omega)
      exact zw_v hx hb hr hlocks hS dX1_moveLatestInto_61 (by rw [e9]; exact hX)
  · have e9 : zPv nx = nx - 1 := zPv_t (by omega)
    refine lv_aload_n hx hb dX1_moveLatestInto_7 rfl (lv_at hl 0 rfl) ?_
    refine va_get (D := g.1) (ci := 0) (v := .int (zI nx)) (C := RX1) (T := TX1) (N := 3) hx hb hts mX1_moveLatestInto_0 hown hK (hX.gh) 0 rfl rfl 1 (by decide) (hts _ mX1_moveLatestInto_1) (fun _ h9 => h9) rfl dX1_moveLatestInto_8 ?_
    refine zv_iconst hx hb dX1_moveLatestInto_11 ?_
    refine zv_isub hx hb dX1_moveLatestInto_12 ?_
    refine lv_goto (tgt := 23) hx hb dX1_moveLatestInto_13 (by decide) ?_
    refine lv_istore_n (lv' := [(2, .int (zI (nx - 1))), (0, .ref (ad 17)), (1, .ref (ad 0))]) hx hb dX1_moveLatestInto_23 rfl hl (by decide) rfl (fun ls hl => ?_)
    refine lv_aload_n hx hb dX1_moveLatestInto_24 rfl (lv_at hl 1 rfl) ?_
    refine lv_iload_n hx hb dX1_moveLatestInto_25 rfl (lv_at hl 0 rfl) ?_
    refine zc_VR (As := [.int (zI (nx - 1))]) (rest := []) S hK (kX1_stateAt l g ad w n d dn u un hf hn v vn hs nx hd tn pf ig bp tc (nx - 1) (by omega)) (cwV 1 hts gX1_moveLatestInto_X1_stateAt rfl rfl rfl (by decide +kernel) ⟨Nat.le_of_ble_eq_true rfl, Nat.le_of_ble_eq_true rfl⟩) hX (hX.recvh hK) rfl hl.1 rfl (Nat.le_of_ble_eq_true rfl) dX1_moveLatestInto_26 ⟨Nat.zero_le _, Nat.zero_le _⟩ ?_
    refine lv_astore_n (lv' := [(3, .ref (ad (6 + 2 * (nx - 1).toNat))), (2, .int (zI (nx - 1))), (0, .ref (ad 17)), (1, .ref (ad 0))]) hx hb dX1_moveLatestInto_29 rfl hl (by decide) rfl (fun ls hl => ?_)
    refine lv_aload_n hx hb dX1_moveLatestInto_30 rfl (lv_at hl 2 rfl) ?_
    refine va_get (D := g.1) (ci := 0) (v := .int (zI hd)) (C := RX1) (T := TX1) (N := 3) hx hb hts mX1_moveLatestInto_0 hown hK (hX.gh) 0 rfl rfl 2 (by decide) (hts _ mX1_moveLatestInto_3) (fun _ h9 => h9) rfl dX1_moveLatestInto_31 ?_
    refine zv_if_le (tgt := 61) hx hb dX1_moveLatestInto_34 (by decide) (by omega) (fun c34 => ?_) (fun c34 => ?_)
    · exact absurd c34 (by omega)
    · refine lv_aload_n hx hb dX1_moveLatestInto_37 rfl (lv_at hl 0 rfl) ?_
      refine lv_ifnull hx hb dX1_moveLatestInto_38 ?_
      refine lv_aload_n hx hb dX1_moveLatestInto_41 rfl (lv_at hl 3 rfl) ?_
      refine lv_aload_n hx hb dX1_moveLatestInto_42 rfl (lv_at hl 0 rfl) ?_
      refine zc_VWv (As := [.ref (ad (6 + 2 * (nx - 1).toNat))]) (rest := []) S hK (kX8_copyFrom l g (ad 0) (ad 1) w n (ad (6 + 2 * (nx - 1).toNat)) (ad (7 + 2 * (nx - 1).toNat)) (hf (nx - 1).toNat) (hn (nx - 1).toNat) ⟨hX.gj.ne (by omega) (by omega) (by omega), hX.gj.ne (by omega) (by omega) (by omega), hX.gj.ne (by omega) (by omega) (by omega), hX.gj.ne (by omega) (by omega) (by omega)⟩) (cwV 1 hts gX1_moveLatestInto_X8_copyFrom rfl rfl rfl (by decide +kernel) ⟨Nat.le_of_ble_eq_true rfl, Nat.le_of_ble_eq_true rfl⟩) (⟨(hX.gw), (hX.ghh (nx - 1).toNat (by omega))⟩) ((hX.gw).recv hK) rfl hl.1 rfl (Nat.le_of_ble_eq_true rfl) dX1_moveLatestInto_43 ⟨Nat.zero_le _, Nat.zero_le _⟩ hS (zAx_2 (by omega) (by omega)) (fun H1 locs hp hz hk hS => ?_)
      have hX := hX.setW hk hp
      refine lv_aload_n hx hb dX1_moveLatestInto_46 rfl (lv_at hl 2 rfl) ?_
      refine lv_iload_n hx hb dX1_moveLatestInto_47 rfl (lv_at hl 1 rfl) ?_
      refine zx_put (D := g.1) (A := zAx ad) (ci := 0) (v := .int (zI (nx - 1))) (ty := .int) (C := RX1) (T := TX1) (N := 3) hx hb hts mX1_moveLatestInto_0 tyX1 tyX1_ok nmX1 hown hK (hX.gh) (zAx_i 17 (by omega)) hS rfl 1 (by decide) (hts _ mX1_moveLatestInto_1) (fun _ h9 => h9) rfl (by decide +kernel) rfl rfl (Nat.le_of_ble_eq_true rfl) dX1_moveLatestInto_48 (fun H1 locs hp hk hS => ?_)
      have hX := hX.putH hk hp (by omega)
      refine lv_aload_n hx hb dX1_moveLatestInto_51 rfl (lv_at hl 2 rfl) ?_
      refine lv_dup hx hb dX1_moveLatestInto_52 rfl ?_
      refine va_get (D := g.1) (ci := 0) (v := .int (zI hd)) (C := RX1) (T := TX1) (N := 3) hx hb hts mX1_moveLatestInto_0 hown hK (hX.gh) 0 rfl rfl 2 (by decide) (hts _ mX1_moveLatestInto_3) (fun _ h9 => h9) rfl dX1_moveLatestInto_53 ?_
      refine zv_iconst hx hb dX1_moveLatestInto_56 ?_
      refine zv_isub hx hb dX1_moveLatestInto_57 ?_
      refine zx_put (D := g.1) (A := zAx ad) (ci := 0) (v := .int (zI (hd - 1))) (ty := .int) (C := RX1) (T := TX1) (N := 3) hx hb hts mX1_moveLatestInto_0 tyX1 tyX1_ok nmX1 hown hK (hX.gh) (zAx_i 17 (by omega)) hS rfl 2 (by decide) (hts _ mX1_moveLatestInto_3) (fun _ h9 => h9) rfl (by decide +kernel) rfl rfl (Nat.le_of_ble_eq_true rfl) dX1_moveLatestInto_58 (fun H1 locs hp hk hS => ?_)
      have hX := hX.putH hk hp (by omega)
      exact zw_v hx hb hr hlocks hS dX1_moveLatestInto_61 (by rw [e9]; exact hX)

set_option maxHeartbeats 4000000 in
set_option maxRecDepth 100000 in
/-- isLetter(i) -/
theorem kX9_isLetter (l : Launch) (g : zG) (i : Int) (hi : -2147483648 ≤ i ∧ i < 2147483648) : Met l yX9_isLetter wsX9_isLetter (zRm 0 0) (zP g [.int (zI i)] (fun _ => True)) (vp_Si (fun r => r = zI (zB (0 ≤ i ∧ i ≤ 25)))) 0 0 (fun _ => False) := by
  refine Met.ofZ (cc := cX9_isLetter) (maxL := 1) (ret := (some .boolean)) (by decide) rfl (Nat.le_of_ble_eq_true rfl) ?_
  intro p e s m args below meth c ls hx hb hr hlocks S hin hK hpic hl
  have hown := S.2.2.2.1
  have hts := S.2.2.2.2
  have hl : lv_has ls 1 [(0, .int (zI i))] := hl
  refine lv_iload_n hx hb dX9_isLetter_0 rfl (lv_at hl 0 rfl) ?_
  refine zv_if_lt (tgt := 14) hx hb dX9_isLetter_1 (by decide) (by omega) (fun c1 => ?_) (fun c1 => ?_)
  · refine zv_iconst hx hb dX9_isLetter_14 ?_
    exact zr_z hx hb hr hlocks dX9_isLetter_15 rfl (by rw [zB_f (by omega)])
  · refine lv_iload_n hx hb dX9_isLetter_4 rfl (lv_at hl 0 rfl) ?_
    refine zv_bipush hx hb dX9_isLetter_5 (by decide +kernel) ?_
    refine zv_icmp_ge (tgt := 14) hx hb dX9_isLetter_7 (by decide) (by omega) (by omega) (fun c7 => ?_) (fun c7 => ?_)
    · refine zv_iconst hx hb dX9_isLetter_14 ?_
      exact zr_z hx hb hr hlocks dX9_isLetter_15 rfl (by rw [zB_f (by omega)])
    · refine zv_iconst hx hb dX9_isLetter_10 ?_
      refine lv_goto (tgt := 15) hx hb dX9_isLetter_11 (by decide) ?_
      exact zr_z hx hb hr hlocks dX9_isLetter_15 rfl (by rw [zB_t (by omega)])

set_option maxHeartbeats 4000000 in
set_option maxRecDepth 100000 in
/-- isBrought(i) -/
theorem kX9_isBrought (l : Launch) (g : zG) (i : Int) (hi : -2147483648 ≤ i ∧ i < 2147483648) : Met l yX9_isBrought wsX9_isBrought (zRm 0 0) (zP g [.int (zI i)] (fun _ => True)) (vp_Si (fun r => r = zI (zB (0 ≤ i ∧ i ≤ 3)))) 0 0 (fun _ => False) := by
  refine Met.ofZ (cc := cX9_isBrought) (maxL := 1) (ret := (some .boolean)) (by decide) rfl (Nat.le_of_ble_eq_true rfl) ?_
  intro p e s m args below meth c ls hx hb hr hlocks S hin hK hpic hl
  have hown := S.2.2.2.1
  have hts := S.2.2.2.2
  have hl : lv_has ls 1 [(0, .int (zI i))] := hl
  refine lv_iload_n hx hb dX9_isBrought_0 rfl (lv_at hl 0 rfl) ?_
  refine zv_if_lt (tgt := 13) hx hb dX9_isBrought_1 (by decide) (by omega) (fun c1 => ?_) (fun c1 => ?_)
  · refine zv_iconst hx hb dX9_isBrought_13 ?_
    exact zr_z hx hb hr hlocks dX9_isBrought_14 rfl (by rw [zB_f (by omega)])
  · refine lv_iload_n hx hb dX9_isBrought_4 rfl (lv_at hl 0 rfl) ?_
    refine zv_iconst hx hb dX9_isBrought_5 ?_
    refine zv_icmp_gt (tgt := 13) hx hb dX9_isBrought_6 (by decide) (by omega) (by omega) (fun c6 => ?_) (fun c6 => ?_)
    · refine zv_iconst hx hb dX9_isBrought_13 ?_
      exact zr_z hx hb hr hlocks dX9_isBrought_14 rfl (by rw [zB_f (by omega)])
    · refine zv_iconst hx hb dX9_isBrought_9 ?_
      refine lv_goto (tgt := 14) hx hb dX9_isBrought_10 (by decide) ?_
      exact zr_z hx hb hr hlocks dX9_isBrought_14 rfl (by rw [zB_t (by omega)])

theorem mX9_draftWith_0 : ∀ w ∈ wsX90, w ∈ wsX9_draftWith := by decide +kernel
theorem mX9_draftWith_1 : (Cond.fieldLink RX9 16 "BorderRuns" "draft" "LBorderRuns$Word;") ∈ wsX9_draftWith := by decide +kernel
theorem mX9_draftWith_2 : (Cond.fieldLink RX9 10 "BorderRuns" "word" "LBorderRuns$Word;") ∈ wsX9_draftWith := by decide +kernel
set_option maxHeartbeats 4000000 in
set_option maxRecDepth 100000 in
/-- draftWith(x) -/
theorem kX9_draftWith (l : Launch) (g : zG) (ad : Nat → Nat) (w : Int → Int) (n : Int) (d : Int → Int) (dn : Int) (u : Int → Int) (un : Int) (hf : Nat → Int → Int) (hn : Nat → Int) (v : Int → Int) (vn hs nx hd tn pf ig bp : Int) (tc : Int → Int) (x : Int) (hx0 : 0 ≤ x ∧ x ≤ 25) (hn40 : n < 40) : Met l yX9_draftWith wsX9_draftWith (zRm 3 66) (zP g [.ref (ad 16), .int (zI x)] (PX g ad w n d dn u un hf hn v vn hs nx hd tn pf ig bp tc)) (zQv (fun H => PX g ad w n (zApp w n x) (n + 1) u un hf hn v vn hs nx hd tn pf ig bp tc H) (zAx ad)) 0 0 (zAx ad) := by
  refine Met.ofZ (cc := cX9_draftWith) (maxL := 2) (ret := none) (by decide) rfl (Nat.le_of_ble_eq_true rfl) ?_
  intro p e s m args below meth c ls hx hb hr hlocks S hin hK hpic hl
  have hown := S.2.2.2.1
  have hts := S.2.2.2.2
  have hl : lv_has ls 2 [(0, .ref (ad 16)), (1, .int (zI x))] := hl
  have hX := hpic
  have hg := hX.grg
  have hn0 := hX.gw.1
  have hd0 := hX.gd.1
  have hu0 := hX.gu.1
  have hv0 := hX.gv.1
  have ht0 := hX.gt.1
  have hS : va_S (zAx ad) s.heap s.heap [] := va_S.rf
  refine lv_aload_n hx hb dX9_draftWith_0 rfl (lv_at hl 0 rfl) ?_
  refine va_get (D := g.1) (ci := 4) (v := .ref (ad 2)) (C := RX9) (T := TX9) (N := 7) hx hb hts mX9_draftWith_0 hown hK (hX.gx) 0 rfl rfl 1 (by decide) (hts _ mX9_draftWith_1) (fun _ h9 => h9) rfl dX9_draftWith_1 ?_
  refine lv_aload_n hx hb dX9_draftWith_4 rfl (lv_at hl 0 rfl) ?_
  refine va_get (D := g.1) (ci := 4) (v := .ref (ad 0)) (C := RX9) (T := TX9) (N := 7) hx hb hts mX9_draftWith_0 hown hK (hX.gx) 0 rfl rfl 0 (by decide) (hts _ mX9_draftWith_2) (fun _ h9 => h9) rfl dX9_draftWith_5 ?_
  refine zc_VWv (As := [.ref (ad 0)]) (rest := []) S hK (kX8_copyFrom l g (ad 2) (ad 3) d dn (ad 0) (ad 1) w n ⟨hX.gj.ne (by omega) (by omega) (by omega), hX.gj.ne (by omega) (by omega) (by omega), hX.gj.ne (by omega) (by omega) (by omega), hX.gj.ne (by omega) (by omega) (by omega)⟩) (cwV 1 hts gX9_draftWith_X8_copyFrom rfl rfl rfl (by decide +kernel) ⟨Nat.le_of_ble_eq_true rfl, Nat.le_of_ble_eq_true rfl⟩) (⟨(hX.gd), (hX.gw)⟩) ((hX.gd).recv hK) rfl hl.1 rfl (Nat.le_of_ble_eq_true rfl) dX9_draftWith_8 ⟨Nat.zero_le _, Nat.zero_le _⟩ hS (zAx_2 (by omega) (by omega)) (fun H1 locs hp hz hk hS => ?_)
  have hX := hX.setD hk hp
  refine lv_aload_n hx hb dX9_draftWith_11 rfl (lv_at hl 0 rfl) ?_
  refine va_get (D := g.1) (ci := 4) (v := .ref (ad 2)) (C := RX9) (T := TX9) (N := 7) hx hb hts mX9_draftWith_0 hown hK (hX.gx) 0 rfl rfl 1 (by decide) (hts _ mX9_draftWith_1) (fun _ h9 => h9) rfl dX9_draftWith_12 ?_
  refine lv_iload_n hx hb dX9_draftWith_15 rfl (lv_at hl 1 rfl) ?_
  refine zc_VWv (As := [.int (zI x)]) (rest := []) S hK (kX8_append l g (ad 2) (ad 3) w n x (by omega) (by omega)) (cwV 1 hts gX9_draftWith_X8_append rfl rfl rfl (by decide +kernel) ⟨Nat.le_of_ble_eq_true rfl, Nat.le_of_ble_eq_true rfl⟩) ((hX.gd)) ((hX.gd).recv hK) rfl hl.1 rfl (Nat.le_of_ble_eq_true rfl) dX9_draftWith_16 ⟨Nat.zero_le _, Nat.zero_le _⟩ hS (zAx_2 (by omega) (by omega)) (fun H1 locs hp hz hk hS => ?_)
  have hX := hX.setD hk hp
  exact zw_v hx hb hr hlocks hS dX9_draftWith_19 hX

theorem mkX9_become_d_0 : ∀ w ∈ wsX90, w ∈ wsX9_become := by decide +kernel
theorem mkX9_become_d_1 : (Cond.fieldLink RX9 29 "BorderRuns" "history" "LBorderRuns$History;") ∈ wsX9_become := by decide +kernel
theorem mkX9_become_d_2 : (Cond.fieldLink RX9 10 "BorderRuns" "word" "LBorderRuns$Word;") ∈ wsX9_become := by decide +kernel
set_option maxHeartbeats 4000000 in
set_option maxRecDepth 100000 in
/-- become(d) -/
theorem kX9_become_d (l : Launch) (g : zG) (ad : Nat → Nat) (w : Int → Int) (n : Int) (d : Int → Int) (dn : Int) (u : Int → Int) (un : Int) (hf : Nat → Int → Int) (hn : Nat → Int) (v : Int → Int) (vn hs nx hd tn pf ig bp : Int) (tc : Int → Int)  : Met l yX9_become wsX9_become (zRm 4 88) (zP g [.ref (ad 16), .ref (ad 2)] (PX g ad w n d dn u un hf hn v vn hs nx hd tn pf ig bp tc)) (zQv (fun H => PX g ad d dn d dn u un (zUp hf nx.toNat w) (zUp hn nx.toNat n) v vn hs (zNx nx) (min (hd + 1) 4) tn pf ig bp tc H) (zAx ad)) 0 0 (zAx ad) := by
  refine Met.ofZ (cc := cX9_become) (maxL := 2) (ret := none) (by decide) rfl (Nat.le_of_ble_eq_true rfl) ?_
  intro p e s m args below meth c ls hx hb hr hlocks S hin hK hpic hl
  have hown := S.2.2.2.1
  have hts := S.2.2.2.2
  have hl : lv_has ls 2 [(0, .ref (ad 16)), (1, .ref (ad 2))] := hl
  have hX := hpic
  have hg := hX.grg
  have hn0 := hX.gw.1
  have hd0 := hX.gd.1
  have hu0 := hX.gu.1
  have hv0 := hX.gv.1
  have ht0 := hX.gt.1
  have hS : va_S (zAx ad) s.heap s.heap [] := va_S.rf
  refine lv_aload_n hx hb dX9_become_0 rfl (lv_at hl 0 rfl) ?_
  refine va_get (D := g.1) (ci := 4) (v := .ref (ad 17)) (C := RX9) (T := TX9) (N := 7) hx hb hts mkX9_become_d_0 hown hK (hX.gx) 0 rfl rfl 4 (by decide) (hts _ mkX9_become_d_1) (fun _ h9 => h9) rfl dX9_become_1 ?_
  refine lv_aload_n hx hb dX9_become_4 rfl (lv_at hl 0 rfl) ?_
  refine va_get (D := g.1) (ci := 4) (v := .ref (ad 0)) (C := RX9) (T := TX9) (N := 7) hx hb hts mkX9_become_d_0 hown hK (hX.gx) 0 rfl rfl 0 (by decide) (hts _ mkX9_become_d_2) (fun _ h9 => h9) rfl dX9_become_5 ?_
  refine zc_VWv (As := [.ref (ad 0)]) (rest := []) S hK (kX1_record l g ad w n d dn u un hf hn v vn hs nx hd tn pf ig bp tc ) (cwV 1 hts gX9_become_X1_record rfl rfl rfl (by decide +kernel) ⟨Nat.le_of_ble_eq_true rfl, Nat.le_of_ble_eq_true rfl⟩) (hX) (hX.recvh hK) rfl hl.1 rfl (Nat.le_of_ble_eq_true rfl) dX9_become_8 ⟨Nat.zero_le _, Nat.zero_le _⟩ hS (fun q h => h) (fun H1 locs hp hz hk hS => ?_)
  have hX := hp
  refine lv_aload_n hx hb dX9_become_11 rfl (lv_at hl 0 rfl) ?_
  refine va_get (D := g.1) (ci := 4) (v := .ref (ad 0)) (C := RX9) (T := TX9) (N := 7) hx hb hts mkX9_become_d_0 hown hK (hX.gx) 0 rfl rfl 0 (by decide) (hts _ mkX9_become_d_2) (fun _ h9 => h9) rfl dX9_become_12 ?_
  refine lv_aload_n hx hb dX9_become_15 rfl (lv_at hl 1 rfl) ?_
  refine zc_VWv (As := [.ref (ad 2)]) (rest := []) S hK (kX8_copyFrom l g (ad 0) (ad 1) w n (ad 2) (ad 3) d dn ⟨hX.gj.ne (by omega) (by omega) (by omega), hX.gj.ne (by omega) (by omega) (by omega), hX.gj.ne (by omega) (by omega) (by omega), hX.gj.ne (by omega) (by omega) (by omega)⟩) (cwV 1 hts gX9_become_X8_copyFrom rfl rfl rfl (by decide +kernel) ⟨Nat.le_of_ble_eq_true rfl, Nat.le_of_ble_eq_true rfl⟩) (⟨(hX.gw), (hX.gd)⟩) ((hX.gw).recv hK) rfl hl.1 rfl (Nat.le_of_ble_eq_true rfl) dX9_become_16 ⟨Nat.zero_le _, Nat.zero_le _⟩ hS (zAx_2 (by omega) (by omega)) (fun H1 locs hp hz hk hS => ?_)
  have hX := hX.setW hk hp
  exact zw_v hx hb hr hlocks hS dX9_become_19 hX

theorem mkX9_become_u_0 : ∀ w ∈ wsX90, w ∈ wsX9_become := by decide +kernel
theorem mkX9_become_u_1 : (Cond.fieldLink RX9 29 "BorderRuns" "history" "LBorderRuns$History;") ∈ wsX9_become := by decide +kernel
theorem mkX9_become_u_2 : (Cond.fieldLink RX9 10 "BorderRuns" "word" "LBorderRuns$Word;") ∈ wsX9_become := by decide +kernel
set_option maxHeartbeats 4000000 in
set_option maxRecDepth 100000 in
/-- become(u) -/
theorem kX9_become_u (l : Launch) (g : zG) (ad : Nat → Nat) (w : Int → Int) (n : Int) (d : Int → Int) (dn : Int) (u : Int → Int) (un : Int) (hf : Nat → Int → Int) (hn : Nat → Int) (v : Int → Int) (vn hs nx hd tn pf ig bp : Int) (tc : Int → Int)  : Met l yX9_become wsX9_become (zRm 4 88) (zP g [.ref (ad 16), .ref (ad 4)] (PX g ad w n d dn u un hf hn v vn hs nx hd tn pf ig bp tc)) (zQv (fun H => PX g ad u un d dn u un (zUp hf nx.toNat w) (zUp hn nx.toNat n) v vn hs (zNx nx) (min (hd + 1) 4) tn pf ig bp tc H) (zAx ad)) 0 0 (zAx ad) := by
  refine Met.ofZ (cc := cX9_become) (maxL := 2) (ret := none) (by decide) rfl (Nat.le_of_ble_eq_true rfl) ?_
  intro p e s m args below meth c ls hx hb hr hlocks S hin hK hpic hl
  have hown := S.2.2.2.1
  have hts := S.2.2.2.2
  have hl : lv_has ls 2 [(0, .ref (ad 16)), (1, .ref (ad 4))] := hl
  have hX := hpic
  have hg := hX.grg
  have hn0 := hX.gw.1
  have hd0 := hX.gd.1
  have hu0 := hX.gu.1
  have hv0 := hX.gv.1
  have ht0 := hX.gt.1
  have hS : va_S (zAx ad) s.heap s.heap [] := va_S.rf
  refine lv_aload_n hx hb dX9_become_0 rfl (lv_at hl 0 rfl) ?_
  refine va_get (D := g.1) (ci := 4) (v := .ref (ad 17)) (C := RX9) (T := TX9) (N := 7) hx hb hts mkX9_become_u_0 hown hK (hX.gx) 0 rfl rfl 4 (by decide) (hts _ mkX9_become_u_1) (fun _ h9 => h9) rfl dX9_become_1 ?_
  refine lv_aload_n hx hb dX9_become_4 rfl (lv_at hl 0 rfl) ?_
  refine va_get (D := g.1) (ci := 4) (v := .ref (ad 0)) (C := RX9) (T := TX9) (N := 7) hx hb hts mkX9_become_u_0 hown hK (hX.gx) 0 rfl rfl 0 (by decide) (hts _ mkX9_become_u_2) (fun _ h9 => h9) rfl dX9_become_5 ?_
  refine zc_VWv (As := [.ref (ad 0)]) (rest := []) S hK (kX1_record l g ad w n d dn u un hf hn v vn hs nx hd tn pf ig bp tc ) (cwV 1 hts gX9_become_X1_record rfl rfl rfl (by decide +kernel) ⟨Nat.le_of_ble_eq_true rfl, Nat.le_of_ble_eq_true rfl⟩) (hX) (hX.recvh hK) rfl hl.1 rfl (Nat.le_of_ble_eq_true rfl) dX9_become_8 ⟨Nat.zero_le _, Nat.zero_le _⟩ hS (fun q h => h) (fun H1 locs hp hz hk hS => ?_)
  have hX := hp
  refine lv_aload_n hx hb dX9_become_11 rfl (lv_at hl 0 rfl) ?_
  refine va_get (D := g.1) (ci := 4) (v := .ref (ad 0)) (C := RX9) (T := TX9) (N := 7) hx hb hts mkX9_become_u_0 hown hK (hX.gx) 0 rfl rfl 0 (by decide) (hts _ mkX9_become_u_2) (fun _ h9 => h9) rfl dX9_become_12 ?_
  refine lv_aload_n hx hb dX9_become_15 rfl (lv_at hl 1 rfl) ?_
  refine zc_VWv (As := [.ref (ad 4)]) (rest := []) S hK (kX8_copyFrom l g (ad 0) (ad 1) w n (ad 4) (ad 5) u un ⟨hX.gj.ne (by omega) (by omega) (by omega), hX.gj.ne (by omega) (by omega) (by omega), hX.gj.ne (by omega) (by omega) (by omega), hX.gj.ne (by omega) (by omega) (by omega)⟩) (cwV 1 hts gX9_become_X8_copyFrom rfl rfl rfl (by decide +kernel) ⟨Nat.le_of_ble_eq_true rfl, Nat.le_of_ble_eq_true rfl⟩) (⟨(hX.gw), (hX.gu)⟩) ((hX.gw).recv hK) rfl hl.1 rfl (Nat.le_of_ble_eq_true rfl) dX9_become_16 ⟨Nat.zero_le _, Nat.zero_le _⟩ hS (zAx_2 (by omega) (by omega)) (fun H1 locs hp hz hk hS => ?_)
  have hX := hX.setW hk hp
  exact zw_v hx hb hr hlocks hS dX9_become_19 hX

theorem mkX9_become_v_0 : ∀ w ∈ wsX90, w ∈ wsX9_become := by decide +kernel
theorem mkX9_become_v_1 : (Cond.fieldLink RX9 29 "BorderRuns" "history" "LBorderRuns$History;") ∈ wsX9_become := by decide +kernel
theorem mkX9_become_v_2 : (Cond.fieldLink RX9 10 "BorderRuns" "word" "LBorderRuns$Word;") ∈ wsX9_become := by decide +kernel
set_option maxHeartbeats 4000000 in
set_option maxRecDepth 100000 in
/-- become(v) -/
theorem kX9_become_v (l : Launch) (g : zG) (ad : Nat → Nat) (w : Int → Int) (n : Int) (d : Int → Int) (dn : Int) (u : Int → Int) (un : Int) (hf : Nat → Int → Int) (hn : Nat → Int) (v : Int → Int) (vn hs nx hd tn pf ig bp : Int) (tc : Int → Int)  : Met l yX9_become wsX9_become (zRm 4 88) (zP g [.ref (ad 16), .ref (ad 14)] (PX g ad w n d dn u un hf hn v vn hs nx hd tn pf ig bp tc)) (zQv (fun H => PX g ad v vn d dn u un (zUp hf nx.toNat w) (zUp hn nx.toNat n) v vn hs (zNx nx) (min (hd + 1) 4) tn pf ig bp tc H) (zAx ad)) 0 0 (zAx ad) := by
  refine Met.ofZ (cc := cX9_become) (maxL := 2) (ret := none) (by decide) rfl (Nat.le_of_ble_eq_true rfl) ?_
  intro p e s m args below meth c ls hx hb hr hlocks S hin hK hpic hl
  have hown := S.2.2.2.1
  have hts := S.2.2.2.2
  have hl : lv_has ls 2 [(0, .ref (ad 16)), (1, .ref (ad 14))] := hl
  have hX := hpic
  have hg := hX.grg
  have hn0 := hX.gw.1
  have hd0 := hX.gd.1
  have hu0 := hX.gu.1
  have hv0 := hX.gv.1
  have ht0 := hX.gt.1
  have hS : va_S (zAx ad) s.heap s.heap [] := va_S.rf
  refine lv_aload_n hx hb dX9_become_0 rfl (lv_at hl 0 rfl) ?_
  refine va_get (D := g.1) (ci := 4) (v := .ref (ad 17)) (C := RX9) (T := TX9) (N := 7) hx hb hts mkX9_become_v_0 hown hK (hX.gx) 0 rfl rfl 4 (by decide) (hts _ mkX9_become_v_1) (fun _ h9 => h9) rfl dX9_become_1 ?_
  refine lv_aload_n hx hb dX9_become_4 rfl (lv_at hl 0 rfl) ?_
  refine va_get (D := g.1) (ci := 4) (v := .ref (ad 0)) (C := RX9) (T := TX9) (N := 7) hx hb hts mkX9_become_v_0 hown hK (hX.gx) 0 rfl rfl 0 (by decide) (hts _ mkX9_become_v_2) (fun _ h9 => h9) rfl dX9_become_5 ?_
  refine zc_VWv (As := [.ref (ad 0)]) (rest := []) S hK (kX1_record l g ad w n d dn u un hf hn v vn hs nx hd tn pf ig bp tc ) (cwV 1 hts gX9_become_X1_record rfl rfl rfl (by decide +kernel) ⟨Nat.le_of_ble_eq_true rfl, Nat.le_of_ble_eq_true rfl⟩) (hX) (hX.recvh hK) rfl hl.1 rfl (Nat.le_of_ble_eq_true rfl) dX9_become_8 ⟨Nat.zero_le _, Nat.zero_le _⟩ hS (fun q h => h) (fun H1 locs hp hz hk hS => ?_)
  have hX := hp
  refine lv_aload_n hx hb dX9_become_11 rfl (lv_at hl 0 rfl) ?_
  refine va_get (D := g.1) (ci := 4) (v := .ref (ad 0)) (C := RX9) (T := TX9) (N := 7) hx hb hts mkX9_become_v_0 hown hK (hX.gx) 0 rfl rfl 0 (by decide) (hts _ mkX9_become_v_2) (fun _ h9 => h9) rfl dX9_become_12 ?_
  refine lv_aload_n hx hb dX9_become_15 rfl (lv_at hl 1 rfl) ?_
  refine zc_VWv (As := [.ref (ad 14)]) (rest := []) S hK (kX8_copyFrom l g (ad 0) (ad 1) w n (ad 14) (ad 15) v vn ⟨hX.gj.ne (by omega) (by omega) (by omega), hX.gj.ne (by omega) (by omega) (by omega), hX.gj.ne (by omega) (by omega) (by omega), hX.gj.ne (by omega) (by omega) (by omega)⟩) (cwV 1 hts gX9_become_X8_copyFrom rfl rfl rfl (by decide +kernel) ⟨Nat.le_of_ble_eq_true rfl, Nat.le_of_ble_eq_true rfl⟩) (⟨(hX.gw), (hX.gv)⟩) ((hX.gw).recv hK) rfl hl.1 rfl (Nat.le_of_ble_eq_true rfl) dX9_become_16 ⟨Nat.zero_le _, Nat.zero_le _⟩ hS (zAx_2 (by omega) (by omega)) (fun H1 locs hp hz hk hS => ?_)
  have hX := hX.setW hk hp
  exact zw_v hx hb hr hlocks hS dX9_become_19 hX

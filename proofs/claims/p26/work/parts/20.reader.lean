theorem mX3_takesLetter_0 : ∀ w ∈ wsX30, w ∈ wsX3_takesLetter := by decide +kernel
theorem mX3_takesLetter_1 : (Cond.fieldLink RX3 12 "BorderRuns$Reader" "read" "LBorderRuns$Word;") ∈ wsX3_takesLetter := by decide +kernel
theorem mX3_takesLetter_2 : (Cond.fieldLink RX3 22 "BorderRuns$Reader" "inGroup" "Z") ∈ wsX3_takesLetter := by decide +kernel
theorem mX3_takesLetter_3 : (Cond.fieldLink RX3 18 "BorderRuns$Reader" "pieceFrom" "I") ∈ wsX3_takesLetter := by decide +kernel
theorem mX3_takesLetter_4 : (Cond.fieldLink RX3 26 "BorderRuns$Reader" "behindPiece" "Z") ∈ wsX3_takesLetter := by decide +kernel
set_option maxHeartbeats 4000000 in
set_option maxRecDepth 100000 in
/-- Reader.takesLetter -/
theorem kX3_takesLetter (l : Launch) (g : zG) (ad : Nat → Nat) (w : Int → Int) (n : Int) (d : Int → Int) (dn : Int) (u : Int → Int) (un : Int) (hf : Nat → Int → Int) (hn : Nat → Int) (v : Int → Int) (vn hs nx hd tn pf ig bp : Int) (tc : Int → Int) (x : Int) (hx0 : 0 ≤ x ∧ x ≤ 25) : Met l yX3_takesLetter wsX3_takesLetter (zRm 1 21) (zP g [.ref (ad 21), .int (zI x)] (PX g ad w n d dn u un hf hn v vn hs nx hd tn pf ig bp tc)) (zQi (fun r H => (r = zI 0 ∧ 40 ≤ vn ∧ PX g ad w n d dn u un hf hn v vn hs nx hd tn pf ig bp tc H) ∨ (r = zI 1 ∧ ¬ 40 ≤ vn ∧ PX g ad w n d dn u un hf hn (zApp v vn x) (vn + 1) hs nx hd tn (if ig = 0 then vn else pf) ig (if ig = 0 then 1 else bp) tc H)) (zAx ad)) 0 0 (zAx ad) := by
  refine Met.ofZ (cc := cX3_takesLetter) (maxL := 2) (ret := (some .boolean)) (by decide) rfl (Nat.le_of_ble_eq_true rfl) ?_
  intro p e s m args below meth c ls hx hb hr hlocks S hin hK hpic hl
  have hown := S.2.2.2.1
  have hts := S.2.2.2.2
  have hl : lv_has ls 2 [(0, .ref (ad 21)), (1, .int (zI x))] := hl
  have hX := hpic
  have hg := hX.grg
  have hn0 := hX.gw.1
  have hd0 := hX.gd.1
  have hu0 := hX.gu.1
  have hv0 := hX.gv.1
  have ht0 := hX.gt.1
  have hS : va_S (zAx ad) s.heap s.heap [] := va_S.rf
  refine lv_aload_n hx hb dX3_takesLetter_0 rfl (lv_at hl 0 rfl) ?_
  refine va_get (D := g.1) (ci := 1) (v := .ref (ad 14)) (C := RX3) (T := TX3) (N := 4) hx hb hts mX3_takesLetter_0 hown hK (hX.gr) 0 rfl rfl 0 (by decide) (hts _ mX3_takesLetter_1) (fun _ h9 => h9) rfl dX3_takesLetter_1 ?_
  refine zc_V (As := []) (rest := []) S hK (kX8_isFull l g (ad 14) (ad 15) v vn  ) (cwV 0 hts gX3_takesLetter_X8_isFull rfl rfl rfl (by decide +kernel) ⟨Nat.le_of_ble_eq_true rfl, Nat.le_of_ble_eq_true rfl⟩) ((hX.gv)) ((hX.gv).recv hK) rfl hl.1 rfl (Nat.le_of_ble_eq_true rfl) dX3_takesLetter_4 ⟨Nat.zero_le _, Nat.zero_le _⟩ (fun r4 hr4 => ?_)
  obtain rfl := hr4
  refine zv_ifB_eq (tgt := 12) hx hb dX3_takesLetter_7 (by decide) (fun c7 => ?_) (fun c7 => ?_)
  · refine lv_aload_n hx hb dX3_takesLetter_12 rfl (lv_at hl 0 rfl) ?_
    refine va_get (D := g.1) (ci := 1) (v := .int (zI ig)) (C := RX3) (T := TX3) (N := 4) hx hb hts mX3_takesLetter_0 hown hK (hX.gr) 0 rfl rfl 2 (by decide) (hts _ mX3_takesLetter_2) (fun _ h9 => h9) rfl dX3_takesLetter_13 ?_
    refine zv_if_ne (tgt := 35) hx hb dX3_takesLetter_16 (by decide) (by omega) (fun c16 => ?_) (fun c16 => ?_)
    · have e8 : (if ig = 0 then vn else pf) = pf := if_neg c16
      have e9 : (if ig = 0 then 1 else bp) = bp := if_neg c16
      refine lv_aload_n hx hb dX3_takesLetter_35 rfl (lv_at hl 0 rfl) ?_
      refine va_get (D := g.1) (ci := 1) (v := .ref (ad 14)) (C := RX3) (T := TX3) (N := 4) hx hb hts mX3_takesLetter_0 hown hK (hX.gr) 0 rfl rfl 0 (by decide) (hts _ mX3_takesLetter_1) (fun _ h9 => h9) rfl dX3_takesLetter_36 ?_
      refine lv_iload_n hx hb dX3_takesLetter_39 rfl (lv_at hl 1 rfl) ?_
      refine zc_VWv (As := [.int (zI x)]) (rest := []) S hK (kX8_append l g (ad 14) (ad 15) v vn x (by omega) (by omega)) (cwV 1 hts gX3_takesLetter_X8_append rfl rfl rfl (by decide +kernel) ⟨Nat.le_of_ble_eq_true rfl, Nat.le_of_ble_eq_true rfl⟩) ((hX.gv)) ((hX.gv).recv hK) rfl hl.1 rfl (Nat.le_of_ble_eq_true rfl) dX3_takesLetter_40 ⟨Nat.zero_le _, Nat.zero_le _⟩ hS (zAx_2 (by omega) (by omega)) (fun H1 locs hp hz hk hS => ?_)
      have hX := hX.setV hk hp
      refine zv_iconst hx hb dX3_takesLetter_43 ?_
      exact zw_z hx hb hr hlocks hS dX3_takesLetter_44 rfl (Or.inr ⟨rfl, c7, by rw [e8, e9]; exact hX⟩)
    · have e8 : (if ig = 0 then vn else pf) = vn := if_pos c16
      have e9 : (if ig = 0 then 1 else bp) = 1 := if_pos c16
      refine lv_aload_n hx hb dX3_takesLetter_19 rfl (lv_at hl 0 rfl) ?_
      refine lv_aload_n hx hb dX3_takesLetter_20 rfl (lv_at hl 0 rfl) ?_
      refine va_get (D := g.1) (ci := 1) (v := .ref (ad 14)) (C := RX3) (T := TX3) (N := 4) hx hb hts mX3_takesLetter_0 hown hK (hX.gr) 0 rfl rfl 0 (by decide) (hts _ mX3_takesLetter_1) (fun _ h9 => h9) rfl dX3_takesLetter_21 ?_
      refine zc_V (As := []) (rest := [.ref (ad 21)]) S hK (kX8_length l g (ad 14) (ad 15) v vn) (cwV 0 hts gX3_takesLetter_X8_length rfl rfl rfl (by decide +kernel) ⟨Nat.le_of_ble_eq_true rfl, Nat.le_of_ble_eq_true rfl⟩) ((hX.gv)) ((hX.gv).recv hK) rfl hl.1 rfl (Nat.le_of_ble_eq_true rfl) dX3_takesLetter_24 ⟨Nat.zero_le _, Nat.zero_le _⟩ (fun r24 hr24 => ?_)
      obtain rfl := hr24
      refine zx_put (D := g.1) (A := zAx ad) (ci := 1) (v := .int (zI vn)) (ty := .int) (C := RX3) (T := TX3) (N := 4) hx hb hts mX3_takesLetter_0 tyX3 tyX3_ok nmX3 hown hK (hX.gr) (zAx_i 21 (by omega)) hS rfl 1 (by decide) (hts _ mX3_takesLetter_3) (fun _ h9 => h9) rfl (by decide +kernel) rfl rfl (Nat.le_of_ble_eq_true rfl) dX3_takesLetter_27 (fun H1 locs hp hk hS => ?_)
      have hX := hX.putR hk hp (by omega)
      refine lv_aload_n hx hb dX3_takesLetter_30 rfl (lv_at hl 0 rfl) ?_
      refine zv_iconst hx hb dX3_takesLetter_31 ?_
      refine zx_put (D := g.1) (A := zAx ad) (ci := 1) (v := .int (zI 1)) (ty := .boolean) (C := RX3) (T := TX3) (N := 4) hx hb hts mX3_takesLetter_0 tyX3 tyX3_ok nmX3 hown hK (hX.gr) (zAx_i 21 (by omega)) hS rfl 3 (by decide) (hts _ mX3_takesLetter_4) (fun _ h9 => h9) rfl (by decide +kernel) rfl rfl (Nat.le_of_ble_eq_true rfl) dX3_takesLetter_32 (fun H1 locs hp hk hS => ?_)
      have hX := hX.putR hk hp (by omega)
      refine lv_aload_n hx hb dX3_takesLetter_35 rfl (lv_at hl 0 rfl) ?_
      refine va_get (D := g.1) (ci := 1) (v := .ref (ad 14)) (C := RX3) (T := TX3) (N := 4) hx hb hts mX3_takesLetter_0 hown hK (hX.gr) 0 rfl rfl 0 (by decide) (hts _ mX3_takesLetter_1) (fun _ h9 => h9) rfl dX3_takesLetter_36 ?_
      refine lv_iload_n hx hb dX3_takesLetter_39 rfl (lv_at hl 1 rfl) ?_
      refine zc_VWv (As := [.int (zI x)]) (rest := []) S hK (kX8_append l g (ad 14) (ad 15) v vn x (by omega) (by omega)) (cwV 1 hts gX3_takesLetter_X8_append rfl rfl rfl (by decide +kernel) ⟨Nat.le_of_ble_eq_true rfl, Nat.le_of_ble_eq_true rfl⟩) ((hX.gv)) ((hX.gv).recv hK) rfl hl.1 rfl (Nat.le_of_ble_eq_true rfl) dX3_takesLetter_40 ⟨Nat.zero_le _, Nat.zero_le _⟩ hS (zAx_2 (by omega) (by omega)) (fun H1 locs hp hz hk hS => ?_)
      have hX := hX.setV hk hp
      refine zv_iconst hx hb dX3_takesLetter_43 ?_
      exact zw_z hx hb hr hlocks hS dX3_takesLetter_44 rfl (Or.inr ⟨rfl, c7, by rw [e8, e9]; exact hX⟩)
  · refine zv_iconst hx hb dX3_takesLetter_10 ?_
    exact zw_z hx hb hr hlocks hS dX3_takesLetter_11 rfl (Or.inl ⟨rfl, c7, hX⟩)

theorem mX3_takesTimes_0 : ∀ w ∈ wsX30, w ∈ wsX3_takesTimes := by decide +kernel
theorem mX3_takesTimes_1 : (Cond.fieldLink RX3 12 "BorderRuns$Reader" "read" "LBorderRuns$Word;") ∈ wsX3_takesTimes := by decide +kernel
theorem mX3_takesTimes_2 : (Cond.fieldLink RX3 18 "BorderRuns$Reader" "pieceFrom" "I") ∈ wsX3_takesTimes := by decide +kernel
theorem mX3_takesTimes_3 : (Cond.fieldLink RX3 26 "BorderRuns$Reader" "behindPiece" "Z") ∈ wsX3_takesTimes := by decide +kernel
set_option maxHeartbeats 4000000 in
set_option maxRecDepth 100000 in
/-- Reader.takesTimes -/
theorem kX3_takesTimes (l : Launch) (g : zG) (ad : Nat → Nat) (w : Int → Int) (n : Int) (d : Int → Int) (dn : Int) (u : Int → Int) (un : Int) (hf : Nat → Int → Int) (hn : Nat → Int) (v : Int → Int) (vn hs nx hd tn pf ig bp : Int) (tc : Int → Int) (t : Int) (ht : 2 ≤ t ∧ t ≤ 9) (hpf : pf ≤ vn ∧ (bp = 1 → pf < vn)) : Met l yX3_takesTimes wsX3_takesTimes (zRm 2 45) (zP g [.ref (ad 21), .int (zI t)] (PX g ad w n d dn u un hf hn v vn hs nx hd tn pf ig bp tc)) (zQi (fun r H => (r = zI 0 ∧ (bp = 0 ∨ 40 < vn + (t - 1) * (vn - pf)) ∧ PX g ad w n d dn u un hf hn v vn hs nx hd tn pf ig bp tc H) ∨ (r = zI 1 ∧ ¬ (bp = 0 ∨ 40 < vn + (t - 1) * (vn - pf)) ∧ PX g ad w n d dn u un hf hn (zRep v vn pf) (vn + (t - 1) * (vn - pf)) hs nx hd tn pf ig 0 tc H)) (zAx ad)) 0 0 (zAx ad) := by
  refine Met.ofZ (cc := cX3_takesTimes) (maxL := 5) (ret := (some .boolean)) (by decide) rfl (Nat.le_of_ble_eq_true rfl) ?_
  intro p e s m args below meth c ls hx hb hr hlocks S hin hK hpic hl
  have hown := S.2.2.2.1
  have hts := S.2.2.2.2
  have hl : lv_has ls 5 [(0, .ref (ad 21)), (1, .int (zI t))] := hl
  have hX := hpic
  have hg := hX.grg
  have hn0 := hX.gw.1
  have hd0 := hX.gd.1
  have hu0 := hX.gu.1
  have hv0 := hX.gv.1
  have ht0 := hX.gt.1
  have hS : va_S (zAx ad) s.heap s.heap [] := va_S.rf
  have b9 := zMulBd (a := t - 1) (b := vn - pf) (by omega) (by omega)
  refine lv_aload_n hx hb dX3_takesTimes_0 rfl (lv_at hl 0 rfl) ?_
  refine va_get (D := g.1) (ci := 1) (v := .ref (ad 14)) (C := RX3) (T := TX3) (N := 4) hx hb hts mX3_takesTimes_0 hown hK (hX.gr) 0 rfl rfl 0 (by decide) (hts _ mX3_takesTimes_1) (fun _ h9 => h9) rfl dX3_takesTimes_1 ?_
  refine zc_V (As := []) (rest := []) S hK (kX8_length l g (ad 14) (ad 15) v vn) (cwV 0 hts gX3_takesTimes_X8_length rfl rfl rfl (by decide +kernel) ⟨Nat.le_of_ble_eq_true rfl, Nat.le_of_ble_eq_true rfl⟩) ((hX.gv)) ((hX.gv).recv hK) rfl hl.1 rfl (Nat.le_of_ble_eq_true rfl) dX3_takesTimes_4 ⟨Nat.zero_le _, Nat.zero_le _⟩ (fun r4 hr4 => ?_)
  obtain rfl := hr4
  refine lv_istore_n (lv' := [(2, .int (zI vn)), (0, .ref (ad 21)), (1, .int (zI t))]) hx hb dX3_takesTimes_7 rfl hl (by decide) rfl (fun ls hl => ?_)
  refine lv_iload_n hx hb dX3_takesTimes_8 rfl (lv_at hl 0 rfl) ?_
  refine lv_aload_n hx hb dX3_takesTimes_9 rfl (lv_at hl 1 rfl) ?_
  refine va_get (D := g.1) (ci := 1) (v := .int (zI pf)) (C := RX3) (T := TX3) (N := 4) hx hb hts mX3_takesTimes_0 hown hK (hX.gr) 0 rfl rfl 1 (by decide) (hts _ mX3_takesTimes_2) (fun _ h9 => h9) rfl dX3_takesTimes_10 ?_
  refine zv_isub hx hb dX3_takesTimes_13 ?_
  refine lv_istore_n (lv' := [(3, .int (zI (vn - pf))), (2, .int (zI vn)), (0, .ref (ad 21)), (1, .int (zI t))]) hx hb dX3_takesTimes_14 rfl hl (by decide) rfl (fun ls hl => ?_)
  refine lv_aload_n hx hb dX3_takesTimes_15 rfl (lv_at hl 2 rfl) ?_
  refine va_get (D := g.1) (ci := 1) (v := .int (zI bp)) (C := RX3) (T := TX3) (N := 4) hx hb hts mX3_takesTimes_0 hown hK (hX.gr) 0 rfl rfl 3 (by decide) (hts _ mX3_takesTimes_3) (fun _ h9 => h9) rfl dX3_takesTimes_16 ?_
  refine zv_if_eq (tgt := 34) hx hb dX3_takesTimes_19 (by decide) (by omega) (fun c19 => ?_) (fun c19 => ?_)
  · refine zv_iconst hx hb dX3_takesTimes_34 ?_
    exact zw_z hx hb hr hlocks hS dX3_takesTimes_35 rfl (Or.inl ⟨rfl, by omega, hX⟩)
  · refine lv_iload_n hx hb dX3_takesTimes_22 rfl (lv_at hl 1 rfl) ?_
    refine lv_iload_n hx hb dX3_takesTimes_23 rfl (lv_at hl 3 rfl) ?_
    refine zv_iconst hx hb dX3_takesTimes_24 ?_
    refine zv_isub hx hb dX3_takesTimes_25 ?_
    refine lv_iload_n hx hb dX3_takesTimes_26 rfl (lv_at hl 0 rfl) ?_
    refine zv_imul hx hb dX3_takesTimes_27 ?_
    refine zv_iadd hx hb dX3_takesTimes_28 ?_
    refine zv_bipush hx hb dX3_takesTimes_29 (by decide +kernel) ?_
    refine zv_icmp_le (tgt := 36) hx hb dX3_takesTimes_31 (by decide) (by omega) (by omega) (fun c31 => ?_) (fun c31 => ?_)
    · have b8 : pf < vn := hpf.2 (by omega)
      refine zv_iconst hx hb dX3_takesTimes_36 ?_
      refine lv_istore (lv' := [(4, .int (zI 1)), (3, .int (zI (vn - pf))), (2, .int (zI vn)), (0, .ref (ad 21)), (1, .int (zI t))]) hx hb dX3_takesTimes_37 hl (by decide) rfl (fun ls hl => ?_)
      have lp39 : ∀ (z_f : Nat) (k : Int) (H1 : Heap) (locs : List Loc), (1 ≤ k ∧ k ≤ t) → (PX g ad w n d dn u un hf hn (zRep v vn pf) (vn + (k - 1) * (vn - pf)) hs nx hd tn pf ig bp tc H1) → (va_S (zAx ad) s.heap H1 locs) → ((t - k).toNat) < z_f → ∀ (ls : Array Slot), lv_has ls 5 [(0, .ref (ad 21)), (1, .int (zI t)), (2, .int (zI vn)), (3, .int (zI (vn - pf))), (4, .int (zI k))] → W p l e (zRm 2 45) s m args below meth c H1 locs 0 0 (MQ below (zQi (fun r H => (r = zI 0 ∧ (bp = 0 ∨ 40 < vn + (t - 1) * (vn - pf)) ∧ PX g ad w n d dn u un hf hn v vn hs nx hd tn pf ig bp tc H) ∨ (r = zI 1 ∧ ¬ (bp = 0 ∨ 40 < vn + (t - 1) * (vn - pf)) ∧ PX g ad w n d dn u un hf hn (zRep v vn pf) (vn + (t - 1) * (vn - pf)) hs nx hd tn pf ig 0 tc H)) (zAx ad)) args s 0 0 (zAx ad)) (F0 m 39 ls []) := by
        intro z_f
        induction z_f with
        | zero => intro k H1 locs h0 hX hS z_m; exact absurd z_m (Nat.not_lt_zero _)
        | succ z_f ih39 =>
          intro k H1 locs h0 hX hS z_m39 ls hl
          refine lv_iload hx hb dX3_takesTimes_39 (lv_at hl 4 rfl) ?_
          refine lv_iload_n hx hb dX3_takesTimes_41 rfl (lv_at hl 1 rfl) ?_
          refine zv_icmp_ge (tgt := 67) hx hb dX3_takesTimes_42 (by decide) (by omega) (by omega) (fun c42 => ?_) (fun c42 => ?_)
          · have e9 : k = t := by omega
            subst e9
            refine lv_aload_n hx hb dX3_takesTimes_67 rfl (lv_at hl 0 rfl) ?_
            refine zv_iconst hx hb dX3_takesTimes_68 ?_
            refine zx_put (D := g.1) (A := zAx ad) (ci := 1) (v := .int (zI 0)) (ty := .boolean) (C := RX3) (T := TX3) (N := 4) hx hb hts mX3_takesTimes_0 tyX3 tyX3_ok nmX3 hown hK (hX.gr) (zAx_i 21 (by omega)) hS rfl 3 (by decide) (hts _ mX3_takesTimes_3) (fun _ h9 => h9) rfl (by decide +kernel) rfl rfl (Nat.le_of_ble_eq_true rfl) dX3_takesTimes_69 (fun H1 locs hp hk hS => ?_)
            have hX := hX.putR hk hp (by omega)
            refine zv_iconst hx hb dX3_takesTimes_72 ?_
            exact zw_z hx hb hr hlocks hS dX3_takesTimes_73 rfl (Or.inr ⟨rfl, by omega, hX⟩)
          · have b7 := zRep_fit (k := k) (t := t) (z := vn - pf) (by omega) (by omega)
            have b6 := zMulBd (a := k - 1) (b := vn - pf) (by omega) (by omega)
            refine lv_aload_n hx hb dX3_takesTimes_45 rfl (lv_at hl 0 rfl) ?_
            refine va_get (D := g.1) (ci := 1) (v := .ref (ad 14)) (C := RX3) (T := TX3) (N := 4) hx hb hts mX3_takesTimes_0 hown hK (hX.gr) 0 rfl rfl 0 (by decide) (hts _ mX3_takesTimes_1) (fun _ h9 => h9) rfl dX3_takesTimes_46 ?_
            refine lv_aload_n hx hb dX3_takesTimes_49 rfl (lv_at hl 0 rfl) ?_
            refine va_get (D := g.1) (ci := 1) (v := .ref (ad 14)) (C := RX3) (T := TX3) (N := 4) hx hb hts mX3_takesTimes_0 hown hK (hX.gr) 0 rfl rfl 0 (by decide) (hts _ mX3_takesTimes_1) (fun _ h9 => h9) rfl dX3_takesTimes_50 ?_
            refine lv_aload_n hx hb dX3_takesTimes_53 rfl (lv_at hl 0 rfl) ?_
            refine va_get (D := g.1) (ci := 1) (v := .int (zI pf)) (C := RX3) (T := TX3) (N := 4) hx hb hts mX3_takesTimes_0 hown hK (hX.gr) 0 rfl rfl 1 (by decide) (hts _ mX3_takesTimes_2) (fun _ h9 => h9) rfl dX3_takesTimes_54 ?_
            refine lv_iload_n hx hb dX3_takesTimes_57 rfl (lv_at hl 2 rfl) ?_
            refine zc_VWv (As := [.ref (ad 14), .int (zI pf), .int (zI vn)]) (rest := []) S hK (kX8_appendFactorS l g (ad 14) (ad 15) (zRep v vn pf) (vn + (k - 1) * (vn - pf)) pf vn (by omega)) (cwV 3 hts gX3_takesTimes_X8_appendFactor rfl rfl rfl (by decide +kernel) ⟨Nat.le_of_ble_eq_true rfl, Nat.le_of_ble_eq_true rfl⟩) (hX.gv) (hX.gv.recv hK) rfl hl.1 rfl (Nat.le_of_ble_eq_true rfl) dX3_takesTimes_58 ⟨Nat.zero_le _, Nat.zero_le _⟩ hS (zAx_2 (by omega) (by omega)) (fun H1 locs hp hz hk hS => ?_)
            have hX := (hX.setV hk hp).mvV (v2 := (zRep v vn pf)) (n2 := vn + (k + 1 - 1) * (vn - pf)) (by rw [zRep_next]; omega) (fun q h1q h2q => zRep_step (by omega) (by omega) q h1q h2q)
            refine zv_iinc (lv' := [(4, .int (zI (k + 1))), (0, .ref (ad 21)), (1, .int (zI t)), (2, .int (zI vn)), (3, .int (zI (vn - pf)))]) hx hb dX3_takesTimes_61 hl (k := 4) rfl (by decide) rfl (fun ls hl => ?_)
            refine lv_goto (tgt := 39) hx hb dX3_takesTimes_64 (by decide) ?_
            exact ih39 (k + 1) _ _ (by omega) (hX) (hS) (by omega) _ (lv_sub hl [1, 2, 3, 4, 0] rfl)
      exact lp39 _ 1 _ _ (by omega) (hX.mvV (by rw [show (1 : Int) - 1 = 0 from rfl, Int.zero_mul]; omega) (fun q h1q h2q => zRep_lo h2q)) (hS) (Nat.lt_succ_self _) _ (lv_sub hl [3, 4, 2, 1, 0] rfl)
    · refine zv_iconst hx hb dX3_takesTimes_34 ?_
      exact zw_z hx hb hr hlocks hS dX3_takesTimes_35 rfl (Or.inl ⟨rfl, by omega, hX⟩)

theorem mX3_opensGroup_0 : ∀ w ∈ wsX30, w ∈ wsX3_opensGroup := by decide +kernel
theorem mX3_opensGroup_1 : (Cond.fieldLink RX3 22 "BorderRuns$Reader" "inGroup" "Z") ∈ wsX3_opensGroup := by decide +kernel
theorem mX3_opensGroup_2 : (Cond.fieldLink RX3 12 "BorderRuns$Reader" "read" "LBorderRuns$Word;") ∈ wsX3_opensGroup := by decide +kernel
theorem mX3_opensGroup_3 : (Cond.fieldLink RX3 18 "BorderRuns$Reader" "pieceFrom" "I") ∈ wsX3_opensGroup := by decide +kernel
theorem mX3_opensGroup_4 : (Cond.fieldLink RX3 26 "BorderRuns$Reader" "behindPiece" "Z") ∈ wsX3_opensGroup := by decide +kernel
set_option maxHeartbeats 4000000 in
set_option maxRecDepth 100000 in
/-- Reader.opensGroup -/
theorem kX3_opensGroup (l : Launch) (g : zG) (ad : Nat → Nat) (w : Int → Int) (n : Int) (d : Int → Int) (dn : Int) (u : Int → Int) (un : Int) (hf : Nat → Int → Int) (hn : Nat → Int) (v : Int → Int) (vn hs nx hd tn pf ig bp : Int) (tc : Int → Int) (hpf : pf ≤ vn) : Met l yX3_opensGroup wsX3_opensGroup (zRm 1 20) (zP g [.ref (ad 21)] (PX g ad w n d dn u un hf hn v vn hs nx hd tn pf ig bp tc)) (zQi (fun r H => (r = zI 0 ∧ ig = 1 ∧ PX g ad w n d dn u un hf hn v vn hs nx hd tn pf ig bp tc H) ∨ (r = zI 1 ∧ ¬ ig = 1 ∧ PX g ad w n d dn u un hf hn v vn hs nx hd tn vn 1 0 tc H)) (zAx ad)) 0 0 (zAx ad) := by
  refine Met.ofZ (cc := cX3_opensGroup) (maxL := 1) (ret := (some .boolean)) (by decide) rfl (Nat.le_of_ble_eq_true rfl) ?_
  intro p e s m args below meth c ls hx hb hr hlocks S hin hK hpic hl
  have hown := S.2.2.2.1
  have hts := S.2.2.2.2
  have hl : lv_has ls 1 [(0, .ref (ad 21))] := hl
  have hX := hpic
  have hg := hX.grg
  have hn0 := hX.gw.1
  have hd0 := hX.gd.1
  have hu0 := hX.gu.1
  have hv0 := hX.gv.1
  have ht0 := hX.gt.1
  have hS : va_S (zAx ad) s.heap s.heap [] := va_S.rf
  refine lv_aload_n hx hb dX3_opensGroup_0 rfl (lv_at hl 0 rfl) ?_
  refine va_get (D := g.1) (ci := 1) (v := .int (zI ig)) (C := RX3) (T := TX3) (N := 4) hx hb hts mX3_opensGroup_0 hown hK (hX.gr) 0 rfl rfl 2 (by decide) (hts _ mX3_opensGroup_1) (fun _ h9 => h9) rfl dX3_opensGroup_1 ?_
  refine zv_if_eq (tgt := 9) hx hb dX3_opensGroup_4 (by decide) (by omega) (fun c4 => ?_) (fun c4 => ?_)
  · refine lv_aload_n hx hb dX3_opensGroup_9 rfl (lv_at hl 0 rfl) ?_
    refine lv_aload_n hx hb dX3_opensGroup_10 rfl (lv_at hl 0 rfl) ?_
    refine va_get (D := g.1) (ci := 1) (v := .ref (ad 14)) (C := RX3) (T := TX3) (N := 4) hx hb hts mX3_opensGroup_0 hown hK (hX.gr) 0 rfl rfl 0 (by decide) (hts _ mX3_opensGroup_2) (fun _ h9 => h9) rfl dX3_opensGroup_11 ?_
    refine zc_V (As := []) (rest := [.ref (ad 21)]) S hK (kX8_length l g (ad 14) (ad 15) v vn) (cwV 0 hts gX3_opensGroup_X8_length rfl rfl rfl (by decide +kernel) ⟨Nat.le_of_ble_eq_true rfl, Nat.le_of_ble_eq_true rfl⟩) ((hX.gv)) ((hX.gv).recv hK) rfl hl.1 rfl (Nat.le_of_ble_eq_true rfl) dX3_opensGroup_14 ⟨Nat.zero_le _, Nat.zero_le _⟩ (fun r14 hr14 => ?_)
    obtain rfl := hr14
    refine zx_put (D := g.1) (A := zAx ad) (ci := 1) (v := .int (zI vn)) (ty := .int) (C := RX3) (T := TX3) (N := 4) hx hb hts mX3_opensGroup_0 tyX3 tyX3_ok nmX3 hown hK (hX.gr) (zAx_i 21 (by omega)) hS rfl 1 (by decide) (hts _ mX3_opensGroup_3) (fun _ h9 => h9) rfl (by decide +kernel) rfl rfl (Nat.le_of_ble_eq_true rfl) dX3_opensGroup_17 (fun H1 locs hp hk hS => ?_)
    have hX := hX.putR hk hp (by omega)
    refine lv_aload_n hx hb dX3_opensGroup_20 rfl (lv_at hl 0 rfl) ?_
    refine zv_iconst hx hb dX3_opensGroup_21 ?_
    refine zx_put (D := g.1) (A := zAx ad) (ci := 1) (v := .int (zI 1)) (ty := .boolean) (C := RX3) (T := TX3) (N := 4) hx hb hts mX3_opensGroup_0 tyX3 tyX3_ok nmX3 hown hK (hX.gr) (zAx_i 21 (by omega)) hS rfl 2 (by decide) (hts _ mX3_opensGroup_1) (fun _ h9 => h9) rfl (by decide +kernel) rfl rfl (Nat.le_of_ble_eq_true rfl) dX3_opensGroup_22 (fun H1 locs hp hk hS => ?_)
    have hX := hX.putR hk hp (by omega)
    refine lv_aload_n hx hb dX3_opensGroup_25 rfl (lv_at hl 0 rfl) ?_
    refine zv_iconst hx hb dX3_opensGroup_26 ?_
    refine zx_put (D := g.1) (A := zAx ad) (ci := 1) (v := .int (zI 0)) (ty := .boolean) (C := RX3) (T := TX3) (N := 4) hx hb hts mX3_opensGroup_0 tyX3 tyX3_ok nmX3 hown hK (hX.gr) (zAx_i 21 (by omega)) hS rfl 3 (by decide) (hts _ mX3_opensGroup_4) (fun _ h9 => h9) rfl (by decide +kernel) rfl rfl (Nat.le_of_ble_eq_true rfl) dX3_opensGroup_27 (fun H1 locs hp hk hS => ?_)
    have hX := hX.putR hk hp (by omega)
    refine zv_iconst hx hb dX3_opensGroup_30 ?_
    exact zw_z hx hb hr hlocks hS dX3_opensGroup_31 rfl (Or.inr ⟨rfl, by omega, hX⟩)
  · refine zv_iconst hx hb dX3_opensGroup_7 ?_
    exact zw_z hx hb hr hlocks hS dX3_opensGroup_8 rfl (Or.inl ⟨rfl, by omega, hX⟩)

theorem mX3_closesGroup_0 : ∀ w ∈ wsX30, w ∈ wsX3_closesGroup := by decide +kernel
theorem mX3_closesGroup_1 : (Cond.fieldLink RX3 22 "BorderRuns$Reader" "inGroup" "Z") ∈ wsX3_closesGroup := by decide +kernel
theorem mX3_closesGroup_2 : (Cond.fieldLink RX3 12 "BorderRuns$Reader" "read" "LBorderRuns$Word;") ∈ wsX3_closesGroup := by decide +kernel
theorem mX3_closesGroup_3 : (Cond.fieldLink RX3 18 "BorderRuns$Reader" "pieceFrom" "I") ∈ wsX3_closesGroup := by decide +kernel
theorem mX3_closesGroup_4 : (Cond.fieldLink RX3 26 "BorderRuns$Reader" "behindPiece" "Z") ∈ wsX3_closesGroup := by decide +kernel
set_option maxHeartbeats 4000000 in
set_option maxRecDepth 100000 in
/-- Reader.closesGroup -/
theorem kX3_closesGroup (l : Launch) (g : zG) (ad : Nat → Nat) (w : Int → Int) (n : Int) (d : Int → Int) (dn : Int) (u : Int → Int) (un : Int) (hf : Nat → Int → Int) (hn : Nat → Int) (v : Int → Int) (vn hs nx hd tn pf ig bp : Int) (tc : Int → Int) (hpf : pf ≤ vn) : Met l yX3_closesGroup wsX3_closesGroup (zRm 1 20) (zP g [.ref (ad 21)] (PX g ad w n d dn u un hf hn v vn hs nx hd tn pf ig bp tc)) (zQi (fun r H => (r = zI 0 ∧ (ig = 0 ∨ vn = pf) ∧ PX g ad w n d dn u un hf hn v vn hs nx hd tn pf ig bp tc H) ∨ (r = zI 1 ∧ ¬ (ig = 0 ∨ vn = pf) ∧ PX g ad w n d dn u un hf hn v vn hs nx hd tn pf 0 1 tc H)) (zAx ad)) 0 0 (zAx ad) := by
  refine Met.ofZ (cc := cX3_closesGroup) (maxL := 1) (ret := (some .boolean)) (by decide) rfl (Nat.le_of_ble_eq_true rfl) ?_
  intro p e s m args below meth c ls hx hb hr hlocks S hin hK hpic hl
  have hown := S.2.2.2.1
  have hts := S.2.2.2.2
  have hl : lv_has ls 1 [(0, .ref (ad 21))] := hl
  have hX := hpic
  have hg := hX.grg
  have hn0 := hX.gw.1
  have hd0 := hX.gd.1
  have hu0 := hX.gu.1
  have hv0 := hX.gv.1
  have ht0 := hX.gt.1
  have hS : va_S (zAx ad) s.heap s.heap [] := va_S.rf
  refine lv_aload_n hx hb dX3_closesGroup_0 rfl (lv_at hl 0 rfl) ?_
  refine va_get (D := g.1) (ci := 1) (v := .int (zI ig)) (C := RX3) (T := TX3) (N := 4) hx hb hts mX3_closesGroup_0 hown hK (hX.gr) 0 rfl rfl 2 (by decide) (hts _ mX3_closesGroup_1) (fun _ h9 => h9) rfl dX3_closesGroup_1 ?_
  refine zv_if_eq (tgt := 21) hx hb dX3_closesGroup_4 (by decide) (by omega) (fun c4 => ?_) (fun c4 => ?_)
  · refine zv_iconst hx hb dX3_closesGroup_21 ?_
    exact zw_z hx hb hr hlocks hS dX3_closesGroup_22 rfl (Or.inl ⟨rfl, by omega, hX⟩)
  · refine lv_aload_n hx hb dX3_closesGroup_7 rfl (lv_at hl 0 rfl) ?_
    refine va_get (D := g.1) (ci := 1) (v := .ref (ad 14)) (C := RX3) (T := TX3) (N := 4) hx hb hts mX3_closesGroup_0 hown hK (hX.gr) 0 rfl rfl 0 (by decide) (hts _ mX3_closesGroup_2) (fun _ h9 => h9) rfl dX3_closesGroup_8 ?_
    refine zc_V (As := []) (rest := []) S hK (kX8_length l g (ad 14) (ad 15) v vn) (cwV 0 hts gX3_closesGroup_X8_length rfl rfl rfl (by decide +kernel) ⟨Nat.le_of_ble_eq_true rfl, Nat.le_of_ble_eq_true rfl⟩) ((hX.gv)) ((hX.gv).recv hK) rfl hl.1 rfl (Nat.le_of_ble_eq_true rfl) dX3_closesGroup_11 ⟨Nat.zero_le _, Nat.zero_le _⟩ (fun r11 hr11 => ?_)
    obtain rfl := hr11
    refine lv_aload_n hx hb dX3_closesGroup_14 rfl (lv_at hl 0 rfl) ?_
    refine va_get (D := g.1) (ci := 1) (v := .int (zI pf)) (C := RX3) (T := TX3) (N := 4) hx hb hts mX3_closesGroup_0 hown hK (hX.gr) 0 rfl rfl 1 (by decide) (hts _ mX3_closesGroup_3) (fun _ h9 => h9) rfl dX3_closesGroup_15 ?_
    refine zv_icmp_ne (tgt := 23) hx hb dX3_closesGroup_18 (by decide) (by omega) (by omega) (fun c18 => ?_) (fun c18 => ?_)
    · refine lv_aload_n hx hb dX3_closesGroup_23 rfl (lv_at hl 0 rfl) ?_
      refine zv_iconst hx hb dX3_closesGroup_24 ?_
      refine zx_put (D := g.1) (A := zAx ad) (ci := 1) (v := .int (zI 0)) (ty := .boolean) (C := RX3) (T := TX3) (N := 4) hx hb hts mX3_closesGroup_0 tyX3 tyX3_ok nmX3 hown hK (hX.gr) (zAx_i 21 (by omega)) hS rfl 2 (by decide) (hts _ mX3_closesGroup_1) (fun _ h9 => h9) rfl (by decide +kernel) rfl rfl (Nat.le_of_ble_eq_true rfl) dX3_closesGroup_25 (fun H1 locs hp hk hS => ?_)
      have hX := hX.putR hk hp (by omega)
      refine lv_aload_n hx hb dX3_closesGroup_28 rfl (lv_at hl 0 rfl) ?_
      refine zv_iconst hx hb dX3_closesGroup_29 ?_
      refine zx_put (D := g.1) (A := zAx ad) (ci := 1) (v := .int (zI 1)) (ty := .boolean) (C := RX3) (T := TX3) (N := 4) hx hb hts mX3_closesGroup_0 tyX3 tyX3_ok nmX3 hown hK (hX.gr) (zAx_i 21 (by omega)) hS rfl 3 (by decide) (hts _ mX3_closesGroup_4) (fun _ h9 => h9) rfl (by decide +kernel) rfl rfl (Nat.le_of_ble_eq_true rfl) dX3_closesGroup_30 (fun H1 locs hp hk hS => ?_)
      have hX := hX.putR hk hp (by omega)
      refine zv_iconst hx hb dX3_closesGroup_33 ?_
      exact zw_z hx hb hr hlocks hS dX3_closesGroup_34 rfl (Or.inr ⟨rfl, by omega, hX⟩)
    · refine zv_iconst hx hb dX3_closesGroup_21 ?_
      exact zw_z hx hb hr hlocks hS dX3_closesGroup_22 rfl (Or.inl ⟨rfl, by omega, hX⟩)

set_option maxHeartbeats 4000000 in
set_option maxRecDepth 100000 in
/-- Reader.takes(x) -/
theorem kX3_takes (l : Launch) (g : zG) (ad : Nat → Nat) (w : Int → Int) (n : Int) (d : Int → Int) (dn : Int) (u : Int → Int) (un : Int) (hf : Nat → Int → Int) (hn : Nat → Int) (v : Int → Int) (vn hs nx hd tn pf ig bp : Int) (tc : Int → Int) (x : Int) (hx0 : 0 ≤ x ∧ x < 65536) (hpf : pf ≤ vn ∧ (bp = 1 → pf < vn)) : Met l yX3_takes wsX3_takes (zRm 3 69) (zP g [.ref (ad 21), .int (zI x)] (PX g ad w n d dn u un hf hn v vn hs nx hd tn pf ig bp tc)) (zQi (fun r H => (r = zI 0 ∧ zTk x (v, vn, pf, ig, bp) = none ∧ PX g ad w n d dn u un hf hn v vn hs nx hd tn pf ig bp tc H) ∨ (∃ v2 vn2 pf2 ig2 bp2, r = zI 1 ∧ zTk x (v, vn, pf, ig, bp) = some (v2, vn2, pf2, ig2, bp2) ∧ PX g ad w n d dn u un hf hn v2 vn2 hs nx hd tn pf2 ig2 bp2 tc H)) (zAx ad)) 0 0 (zAx ad) := by
  refine Met.ofZ (cc := cX3_takes) (maxL := 2) (ret := (some .boolean)) (by decide) rfl (Nat.le_of_ble_eq_true rfl) ?_
  intro p e s m args below meth c ls hx hb hr hlocks S hin hK hpic hl
  have hown := S.2.2.2.1
  have hts := S.2.2.2.2
  have hl : lv_has ls 2 [(0, .ref (ad 21)), (1, .int (zI x))] := hl
  have hX := hpic
  have hg := hX.grg
  have hn0 := hX.gw.1
  have hd0 := hX.gd.1
  have hu0 := hX.gu.1
  have hv0 := hX.gv.1
  have ht0 := hX.gt.1
  have hS : va_S (zAx ad) s.heap s.heap [] := va_S.rf
  refine lv_iload_n hx hb dX3_takes_0 rfl (lv_at hl 1 rfl) ?_
  refine zv_bipush hx hb dX3_takes_1 (by decide +kernel) ?_
  refine zv_icmp_lt (tgt := 21) hx hb dX3_takes_3 (by decide) (by omega) (by omega) (fun c3 => ?_) (fun c3 => ?_)
  · refine lv_iload_n hx hb dX3_takes_21 rfl (lv_at hl 1 rfl) ?_
    refine zv_bipush hx hb dX3_takes_22 (by decide +kernel) ?_
    refine zv_icmp_lt (tgt := 42) hx hb dX3_takes_24 (by decide) (by omega) (by omega) (fun c24 => ?_) (fun c24 => ?_)
    · refine lv_iload_n hx hb dX3_takes_42 rfl (lv_at hl 1 rfl) ?_
      refine zv_bipush hx hb dX3_takes_43 (by decide +kernel) ?_
      refine zv_icmp_ne (tgt := 53) hx hb dX3_takes_45 (by decide) (by omega) (by omega) (fun c45 => ?_) (fun c45 => ?_)
      · refine lv_iload_n hx hb dX3_takes_53 rfl (lv_at hl 1 rfl) ?_
        refine zv_bipush hx hb dX3_takes_54 (by decide +kernel) ?_
        refine zv_icmp_ne (tgt := 70) hx hb dX3_takes_56 (by decide) (by omega) (by omega) (fun c56 => ?_) (fun c56 => ?_)
        · refine zv_iconst hx hb dX3_takes_70 ?_
          exact zw_z hx hb hr hlocks hS dX3_takes_71 rfl (Or.inl ⟨rfl, by unfold zTk; simp only; rw [if_neg (by omega), if_neg (by omega), if_neg (by omega), if_neg (by omega)], hX⟩)
        · refine lv_aload_n hx hb dX3_takes_59 rfl (lv_at hl 0 rfl) ?_
          refine zc_VWi (As := []) (rest := []) S hK (kX3_closesGroup l g ad w n d dn u un hf hn v vn hs nx hd tn pf ig bp tc hpf.1) (cwV 0 hts gX3_takes_X3_closesGroup rfl rfl rfl (by decide +kernel) ⟨Nat.le_of_ble_eq_true rfl, Nat.le_of_ble_eq_true rfl⟩) (hX) (hX.recvr hK) rfl hl.1 rfl (Nat.le_of_ble_eq_true rfl) dX3_takes_60 ⟨Nat.zero_le _, Nat.zero_le _⟩ hS (fun q h => h) (fun r60 H1 locs hp hz hk hS => ?_)
          rcases hp with ⟨rfl, f60, hX⟩ | ⟨rfl, f60, hX⟩
          · refine zv_if_eq (tgt := 70) hx hb dX3_takes_63 (by decide) (by omega) (fun c63 => ?_) (fun c63 => ?_)
            · refine zv_iconst hx hb dX3_takes_70 ?_
              exact zw_z hx hb hr hlocks hS dX3_takes_71 rfl (Or.inl ⟨rfl, by unfold zTk; simp only; rw [if_neg (by omega), if_neg (by omega), if_neg (by omega), if_pos (by omega), if_pos f60], hX⟩)
            · exfalso; omega
          · refine zv_if_eq (tgt := 70) hx hb dX3_takes_63 (by decide) (by omega) (fun c63 => ?_) (fun c63 => ?_)
            · exfalso; omega
            · refine zv_iconst hx hb dX3_takes_66 ?_
              refine lv_goto (tgt := 71) hx hb dX3_takes_67 (by decide) ?_
              exact zw_z hx hb hr hlocks hS dX3_takes_71 rfl (Or.inr ⟨_, _, _, _, _, rfl, by unfold zTk; simp only; rw [if_neg (by omega), if_neg (by omega), if_neg (by omega), if_pos (by omega), if_neg f60], hX⟩)
      · refine lv_aload_n hx hb dX3_takes_48 rfl (lv_at hl 0 rfl) ?_
        refine zc_VWi (As := []) (rest := []) S hK (kX3_opensGroup l g ad w n d dn u un hf hn v vn hs nx hd tn pf ig bp tc hpf.1) (cwV 0 hts gX3_takes_X3_opensGroup rfl rfl rfl (by decide +kernel) ⟨Nat.le_of_ble_eq_true rfl, Nat.le_of_ble_eq_true rfl⟩) (hX) (hX.recvr hK) rfl hl.1 rfl (Nat.le_of_ble_eq_true rfl) dX3_takes_49 ⟨Nat.zero_le _, Nat.zero_le _⟩ hS (fun q h => h) (fun r49 H1 locs hp hz hk hS => ?_)
        rcases hp with ⟨rfl, f49, hX⟩ | ⟨rfl, f49, hX⟩
        · exact zw_z hx hb hr hlocks hS dX3_takes_52 rfl (Or.inl ⟨rfl, by unfold zTk; simp only; rw [if_neg (by omega), if_neg (by omega), if_pos (by omega), if_pos f49], hX⟩)
        · exact zw_z hx hb hr hlocks hS dX3_takes_52 rfl (Or.inr ⟨_, _, _, _, _, rfl, by unfold zTk; simp only; rw [if_neg (by omega), if_neg (by omega), if_pos (by omega), if_neg f49], hX⟩)
    · refine lv_iload_n hx hb dX3_takes_27 rfl (lv_at hl 1 rfl) ?_
      refine zv_bipush hx hb dX3_takes_28 (by decide +kernel) ?_
      refine zv_icmp_gt (tgt := 42) hx hb dX3_takes_30 (by decide) (by omega) (by omega) (fun c30 => ?_) (fun c30 => ?_)
      · refine lv_iload_n hx hb dX3_takes_42 rfl (lv_at hl 1 rfl) ?_
        refine zv_bipush hx hb dX3_takes_43 (by decide +kernel) ?_
        refine zv_icmp_ne (tgt := 53) hx hb dX3_takes_45 (by decide) (by omega) (by omega) (fun c45 => ?_) (fun c45 => ?_)
        · refine lv_iload_n hx hb dX3_takes_53 rfl (lv_at hl 1 rfl) ?_
          refine zv_bipush hx hb dX3_takes_54 (by decide +kernel) ?_
          refine zv_icmp_ne (tgt := 70) hx hb dX3_takes_56 (by decide) (by omega) (by omega) (fun c56 => ?_) (fun c56 => ?_)
          · refine zv_iconst hx hb dX3_takes_70 ?_
            exact zw_z hx hb hr hlocks hS dX3_takes_71 rfl (Or.inl ⟨rfl, by unfold zTk; simp only; rw [if_neg (by omega), if_neg (by omega), if_neg (by omega), if_neg (by omega)], hX⟩)
          · refine lv_aload_n hx hb dX3_takes_59 rfl (lv_at hl 0 rfl) ?_
            refine zc_VWi (As := []) (rest := []) S hK (kX3_closesGroup l g ad w n d dn u un hf hn v vn hs nx hd tn pf ig bp tc hpf.1) (cwV 0 hts gX3_takes_X3_closesGroup rfl rfl rfl (by decide +kernel) ⟨Nat.le_of_ble_eq_true rfl, Nat.le_of_ble_eq_true rfl⟩) (hX) (hX.recvr hK) rfl hl.1 rfl (Nat.le_of_ble_eq_true rfl) dX3_takes_60 ⟨Nat.zero_le _, Nat.zero_le _⟩ hS (fun q h => h) (fun r60 H1 locs hp hz hk hS => ?_)
            rcases hp with ⟨rfl, f60, hX⟩ | ⟨rfl, f60, hX⟩
            · refine zv_if_eq (tgt := 70) hx hb dX3_takes_63 (by decide) (by omega) (fun c63 => ?_) (fun c63 => ?_)
              · refine zv_iconst hx hb dX3_takes_70 ?_
                exact zw_z hx hb hr hlocks hS dX3_takes_71 rfl (Or.inl ⟨rfl, by unfold zTk; simp only; rw [if_neg (by omega), if_neg (by omega), if_neg (by omega), if_pos (by omega), if_pos f60], hX⟩)
              · exfalso; omega
            · refine zv_if_eq (tgt := 70) hx hb dX3_takes_63 (by decide) (by omega) (fun c63 => ?_) (fun c63 => ?_)
              · exfalso; omega
              · refine zv_iconst hx hb dX3_takes_66 ?_
                refine lv_goto (tgt := 71) hx hb dX3_takes_67 (by decide) ?_
                exact zw_z hx hb hr hlocks hS dX3_takes_71 rfl (Or.inr ⟨_, _, _, _, _, rfl, by unfold zTk; simp only; rw [if_neg (by omega), if_neg (by omega), if_neg (by omega), if_pos (by omega), if_neg f60], hX⟩)
        · refine lv_aload_n hx hb dX3_takes_48 rfl (lv_at hl 0 rfl) ?_
          refine zc_VWi (As := []) (rest := []) S hK (kX3_opensGroup l g ad w n d dn u un hf hn v vn hs nx hd tn pf ig bp tc hpf.1) (cwV 0 hts gX3_takes_X3_opensGroup rfl rfl rfl (by decide +kernel) ⟨Nat.le_of_ble_eq_true rfl, Nat.le_of_ble_eq_true rfl⟩) (hX) (hX.recvr hK) rfl hl.1 rfl (Nat.le_of_ble_eq_true rfl) dX3_takes_49 ⟨Nat.zero_le _, Nat.zero_le _⟩ hS (fun q h => h) (fun r49 H1 locs hp hz hk hS => ?_)
          rcases hp with ⟨rfl, f49, hX⟩ | ⟨rfl, f49, hX⟩
          · exact zw_z hx hb hr hlocks hS dX3_takes_52 rfl (Or.inl ⟨rfl, by unfold zTk; simp only; rw [if_neg (by omega), if_neg (by omega), if_pos (by omega), if_pos f49], hX⟩)
          · exact zw_z hx hb hr hlocks hS dX3_takes_52 rfl (Or.inr ⟨_, _, _, _, _, rfl, by unfold zTk; simp only; rw [if_neg (by omega), if_neg (by omega), if_pos (by omega), if_neg f49], hX⟩)
      · refine lv_aload_n hx hb dX3_takes_33 rfl (lv_at hl 0 rfl) ?_
        refine lv_iload_n hx hb dX3_takes_34 rfl (lv_at hl 1 rfl) ?_
        refine zv_bipush hx hb dX3_takes_35 (by decide +kernel) ?_
        refine zv_isub hx hb dX3_takes_37 ?_
        refine zc_VWi (As := [.int (zI (x - 48))]) (rest := []) S hK (kX3_takesTimes l g ad w n d dn u un hf hn v vn hs nx hd tn pf ig bp tc (x - 48) (by omega) hpf) (cwV 1 hts gX3_takes_X3_takesTimes rfl rfl rfl (by decide +kernel) ⟨Nat.le_of_ble_eq_true rfl, Nat.le_of_ble_eq_true rfl⟩) (hX) (hX.recvr hK) rfl hl.1 rfl (Nat.le_of_ble_eq_true rfl) dX3_takes_38 ⟨Nat.zero_le _, Nat.zero_le _⟩ hS (fun q h => h) (fun r38 H1 locs hp hz hk hS => ?_)
        rcases hp with ⟨rfl, f38, hX⟩ | ⟨rfl, f38, hX⟩
        · exact zw_z hx hb hr hlocks hS dX3_takes_41 rfl (Or.inl ⟨rfl, by unfold zTk; simp only; rw [if_neg (by omega), if_pos (by omega), if_pos f38], hX⟩)
        · exact zw_z hx hb hr hlocks hS dX3_takes_41 rfl (Or.inr ⟨_, _, _, _, _, rfl, by unfold zTk; simp only; rw [if_neg (by omega), if_pos (by omega), if_neg f38], hX⟩)
  · refine lv_iload_n hx hb dX3_takes_6 rfl (lv_at hl 1 rfl) ?_
    refine zv_bipush hx hb dX3_takes_7 (by decide +kernel) ?_
    refine zv_icmp_gt (tgt := 21) hx hb dX3_takes_9 (by decide) (by omega) (by omega) (fun c9 => ?_) (fun c9 => ?_)
    · refine lv_iload_n hx hb dX3_takes_21 rfl (lv_at hl 1 rfl) ?_
      refine zv_bipush hx hb dX3_takes_22 (by decide +kernel) ?_
      refine zv_icmp_lt (tgt := 42) hx hb dX3_takes_24 (by decide) (by omega) (by omega) (fun c24 => ?_) (fun c24 => ?_)
      · refine lv_iload_n hx hb dX3_takes_42 rfl (lv_at hl 1 rfl) ?_
        refine zv_bipush hx hb dX3_takes_43 (by decide +kernel) ?_
        refine zv_icmp_ne (tgt := 53) hx hb dX3_takes_45 (by decide) (by omega) (by omega) (fun c45 => ?_) (fun c45 => ?_)
        · refine lv_iload_n hx hb dX3_takes_53 rfl (lv_at hl 1 rfl) ?_
          refine zv_bipush hx hb dX3_takes_54 (by decide +kernel) ?_
          refine zv_icmp_ne (tgt := 70) hx hb dX3_takes_56 (by decide) (by omega) (by omega) (fun c56 => ?_) (fun c56 => ?_)
          · refine zv_iconst hx hb dX3_takes_70 ?_
            exact zw_z hx hb hr hlocks hS dX3_takes_71 rfl (Or.inl ⟨rfl, by unfold zTk; simp only; rw [if_neg (by omega), if_neg (by omega), if_neg (by omega), if_neg (by omega)], hX⟩)
          · refine lv_aload_n hx hb dX3_takes_59 rfl (lv_at hl 0 rfl) ?_
            refine zc_VWi (As := []) (rest := []) S hK (kX3_closesGroup l g ad w n d dn u un hf hn v vn hs nx hd tn pf ig bp tc hpf.1) (cwV 0 hts gX3_takes_X3_closesGroup rfl rfl rfl (by decide +kernel) ⟨Nat.le_of_ble_eq_true rfl, Nat.le_of_ble_eq_true rfl⟩) (hX) (hX.recvr hK) rfl hl.1 rfl (Nat.le_of_ble_eq_true rfl) dX3_takes_60 ⟨Nat.zero_le _, Nat.zero_le _⟩ hS (fun q h => h) (fun r60 H1 locs hp hz hk hS => ?_)
            rcases hp with ⟨rfl, f60, hX⟩ | ⟨rfl, f60, hX⟩
            · refine zv_if_eq (tgt := 70) hx hb dX3_takes_63 (by decide) (by omega) (fun c63 => ?_) (fun c63 => ?_)
              · refine zv_iconst hx hb dX3_takes_70 ?_
                exact zw_z hx hb hr hlocks hS dX3_takes_71 rfl (Or.inl ⟨rfl, by unfold zTk; simp only; rw [if_neg (by omega), if_neg (by omega), if_neg (by omega), if_pos (by omega), if_pos f60], hX⟩)
              · exfalso; omega
            · refine zv_if_eq (tgt := 70) hx hb dX3_takes_63 (by decide) (by omega) (fun c63 => ?_) (fun c63 => ?_)
              · exfalso; omega
              · refine zv_iconst hx hb dX3_takes_66 ?_
                refine lv_goto (tgt := 71) hx hb dX3_takes_67 (by decide) ?_
                exact zw_z hx hb hr hlocks hS dX3_takes_71 rfl (Or.inr ⟨_, _, _, _, _, rfl, by unfold zTk; simp only; rw [if_neg (by omega), if_neg (by omega), if_neg (by omega), if_pos (by omega), if_neg f60], hX⟩)
        · refine lv_aload_n hx hb dX3_takes_48 rfl (lv_at hl 0 rfl) ?_
          refine zc_VWi (As := []) (rest := []) S hK (kX3_opensGroup l g ad w n d dn u un hf hn v vn hs nx hd tn pf ig bp tc hpf.1) (cwV 0 hts gX3_takes_X3_opensGroup rfl rfl rfl (by decide +kernel) ⟨Nat.le_of_ble_eq_true rfl, Nat.le_of_ble_eq_true rfl⟩) (hX) (hX.recvr hK) rfl hl.1 rfl (Nat.le_of_ble_eq_true rfl) dX3_takes_49 ⟨Nat.zero_le _, Nat.zero_le _⟩ hS (fun q h => h) (fun r49 H1 locs hp hz hk hS => ?_)
          rcases hp with ⟨rfl, f49, hX⟩ | ⟨rfl, f49, hX⟩
          · exact zw_z hx hb hr hlocks hS dX3_takes_52 rfl (Or.inl ⟨rfl, by unfold zTk; simp only; rw [if_neg (by omega), if_neg (by omega), if_pos (by omega), if_pos f49], hX⟩)
          · exact zw_z hx hb hr hlocks hS dX3_takes_52 rfl (Or.inr ⟨_, _, _, _, _, rfl, by unfold zTk; simp only; rw [if_neg (by omega), if_neg (by omega), if_pos (by omega), if_neg f49], hX⟩)
      · refine lv_iload_n hx hb dX3_takes_27 rfl (lv_at hl 1 rfl) ?_
        refine zv_bipush hx hb dX3_takes_28 (by decide +kernel) ?_
        refine zv_icmp_gt (tgt := 42) hx hb dX3_takes_30 (by decide) (by omega) (by omega) (fun c30 => ?_) (fun c30 => ?_)
        · refine lv_iload_n hx hb dX3_takes_42 rfl (lv_at hl 1 rfl) ?_
          refine zv_bipush hx hb dX3_takes_43 (by decide +kernel) ?_
          refine zv_icmp_ne (tgt := 53) hx hb dX3_takes_45 (by decide) (by omega) (by omega) (fun c45 => ?_) (fun c45 => ?_)
          · refine lv_iload_n hx hb dX3_takes_53 rfl (lv_at hl 1 rfl) ?_
            refine zv_bipush hx hb dX3_takes_54 (by decide +kernel) ?_
            refine zv_icmp_ne (tgt := 70) hx hb dX3_takes_56 (by decide) (by omega) (by omega) (fun c56 => ?_) (fun c56 => ?_)
            · refine zv_iconst hx hb dX3_takes_70 ?_
              exact zw_z hx hb hr hlocks hS dX3_takes_71 rfl (Or.inl ⟨rfl, by unfold zTk; simp only; rw [if_neg (by omega), if_neg (by omega), if_neg (by omega), if_neg (by omega)], hX⟩)
            · refine lv_aload_n hx hb dX3_takes_59 rfl (lv_at hl 0 rfl) ?_
              refine zc_VWi (As := []) (rest := []) S hK (kX3_closesGroup l g ad w n d dn u un hf hn v vn hs nx hd tn pf ig bp tc hpf.1) (cwV 0 hts gX3_takes_X3_closesGroup rfl rfl rfl (by decide +kernel) ⟨Nat.le_of_ble_eq_true rfl, Nat.le_of_ble_eq_true rfl⟩) (hX) (hX.recvr hK) rfl hl.1 rfl (Nat.le_of_ble_eq_true rfl) dX3_takes_60 ⟨Nat.zero_le _, Nat.zero_le _⟩ hS (fun q h => h) (fun r60 H1 locs hp hz hk hS => ?_)
              rcases hp with ⟨rfl, f60, hX⟩ | ⟨rfl, f60, hX⟩
              · refine zv_if_eq (tgt := 70) hx hb dX3_takes_63 (by decide) (by omega) (fun c63 => ?_) (fun c63 => ?_)
                · refine zv_iconst hx hb dX3_takes_70 ?_
                  exact zw_z hx hb hr hlocks hS dX3_takes_71 rfl (Or.inl ⟨rfl, by unfold zTk; simp only; rw [if_neg (by omega), if_neg (by omega), if_neg (by omega), if_pos (by omega), if_pos f60], hX⟩)
                · exfalso; omega
              · refine zv_if_eq (tgt := 70) hx hb dX3_takes_63 (by decide) (by omega) (fun c63 => ?_) (fun c63 => ?_)
                · exfalso; omega
                · refine zv_iconst hx hb dX3_takes_66 ?_
                  refine lv_goto (tgt := 71) hx hb dX3_takes_67 (by decide) ?_
                  exact zw_z hx hb hr hlocks hS dX3_takes_71 rfl (Or.inr ⟨_, _, _, _, _, rfl, by unfold zTk; simp only; rw [if_neg (by omega), if_neg (by omega), if_neg (by omega), if_pos (by omega), if_neg f60], hX⟩)
          · refine lv_aload_n hx hb dX3_takes_48 rfl (lv_at hl 0 rfl) ?_
            refine zc_VWi (As := []) (rest := []) S hK (kX3_opensGroup l g ad w n d dn u un hf hn v vn hs nx hd tn pf ig bp tc hpf.1) (cwV 0 hts gX3_takes_X3_opensGroup rfl rfl rfl (by decide +kernel) ⟨Nat.le_of_ble_eq_true rfl, Nat.le_of_ble_eq_true rfl⟩) (hX) (hX.recvr hK) rfl hl.1 rfl (Nat.le_of_ble_eq_true rfl) dX3_takes_49 ⟨Nat.zero_le _, Nat.zero_le _⟩ hS (fun q h => h) (fun r49 H1 locs hp hz hk hS => ?_)
            rcases hp with ⟨rfl, f49, hX⟩ | ⟨rfl, f49, hX⟩
            · exact zw_z hx hb hr hlocks hS dX3_takes_52 rfl (Or.inl ⟨rfl, by unfold zTk; simp only; rw [if_neg (by omega), if_neg (by omega), if_pos (by omega), if_pos f49], hX⟩)
            · exact zw_z hx hb hr hlocks hS dX3_takes_52 rfl (Or.inr ⟨_, _, _, _, _, rfl, by unfold zTk; simp only; rw [if_neg (by omega), if_neg (by omega), if_pos (by omega), if_neg f49], hX⟩)
        · refine lv_aload_n hx hb dX3_takes_33 rfl (lv_at hl 0 rfl) ?_
          refine lv_iload_n hx hb dX3_takes_34 rfl (lv_at hl 1 rfl) ?_
          refine zv_bipush hx hb dX3_takes_35 (by decide +kernel) ?_
          refine zv_isub hx hb dX3_takes_37 ?_
          refine zc_VWi (As := [.int (zI (x - 48))]) (rest := []) S hK (kX3_takesTimes l g ad w n d dn u un hf hn v vn hs nx hd tn pf ig bp tc (x - 48) (by omega) hpf) (cwV 1 hts gX3_takes_X3_takesTimes rfl rfl rfl (by decide +kernel) ⟨Nat.le_of_ble_eq_true rfl, Nat.le_of_ble_eq_true rfl⟩) (hX) (hX.recvr hK) rfl hl.1 rfl (Nat.le_of_ble_eq_true rfl) dX3_takes_38 ⟨Nat.zero_le _, Nat.zero_le _⟩ hS (fun q h => h) (fun r38 H1 locs hp hz hk hS => ?_)
          rcases hp with ⟨rfl, f38, hX⟩ | ⟨rfl, f38, hX⟩
          · exact zw_z hx hb hr hlocks hS dX3_takes_41 rfl (Or.inl ⟨rfl, by unfold zTk; simp only; rw [if_neg (by omega), if_pos (by omega), if_pos f38], hX⟩)
          · exact zw_z hx hb hr hlocks hS dX3_takes_41 rfl (Or.inr ⟨_, _, _, _, _, rfl, by unfold zTk; simp only; rw [if_neg (by omega), if_pos (by omega), if_neg f38], hX⟩)
    · refine lv_aload_n hx hb dX3_takes_12 rfl (lv_at hl 0 rfl) ?_
      refine lv_iload_n hx hb dX3_takes_13 rfl (lv_at hl 1 rfl) ?_
      refine zv_bipush hx hb dX3_takes_14 (by decide +kernel) ?_
      refine zv_isub hx hb dX3_takes_16 ?_
      refine zc_VWi (As := [.int (zI (x - 97))]) (rest := []) S hK (kX3_takesLetter l g ad w n d dn u un hf hn v vn hs nx hd tn pf ig bp tc (x - 97) (by omega)) (cwV 1 hts gX3_takes_X3_takesLetter rfl rfl rfl (by decide +kernel) ⟨Nat.le_of_ble_eq_true rfl, Nat.le_of_ble_eq_true rfl⟩) (hX) (hX.recvr hK) rfl hl.1 rfl (Nat.le_of_ble_eq_true rfl) dX3_takes_17 ⟨Nat.zero_le _, Nat.zero_le _⟩ hS (fun q h => h) (fun r17 H1 locs hp hz hk hS => ?_)
      rcases hp with ⟨rfl, f17, hX⟩ | ⟨rfl, f17, hX⟩
      · exact zw_z hx hb hr hlocks hS dX3_takes_20 rfl (Or.inl ⟨rfl, by unfold zTk; simp only; rw [if_pos (by omega), if_pos f17], hX⟩)
      · exact zw_z hx hb hr hlocks hS dX3_takes_20 rfl (Or.inr ⟨_, _, _, _, _, rfl, by unfold zTk; simp only; rw [if_pos (by omega), if_neg f17], hX⟩)

theorem mX3_read_0 : ∀ w ∈ wsX30, w ∈ wsX3_read := by decide +kernel
theorem mX3_read_1 : (Cond.fieldLink RX3 12 "BorderRuns$Reader" "read" "LBorderRuns$Word;") ∈ wsX3_read := by decide +kernel
theorem mX3_read_2 : (Cond.fieldLink RX3 18 "BorderRuns$Reader" "pieceFrom" "I") ∈ wsX3_read := by decide +kernel
theorem mX3_read_3 : (Cond.fieldLink RX3 22 "BorderRuns$Reader" "inGroup" "Z") ∈ wsX3_read := by decide +kernel
theorem mX3_read_4 : (Cond.fieldLink RX3 26 "BorderRuns$Reader" "behindPiece" "Z") ∈ wsX3_read := by decide +kernel
set_option maxHeartbeats 4000000 in
set_option maxRecDepth 100000 in
/-- Reader.read(text) -/
theorem kX3_read (l : Launch) (g : zG) (ad : Nat → Nat) (w : Int → Int) (n : Int) (d : Int → Int) (dn : Int) (u : Int → Int) (un : Int) (hf : Nat → Int → Int) (hn : Nat → Int) (v : Int → Int) (vn hs nx hd tn pf ig bp : Int) (tc : Int → Int)  : Met l yX3_read wsX3_read (zRm 4 90) (zP g [.ref (ad 21), .ref (ad 19)] (PX g ad w n d dn u un hf hn v vn hs nx hd tn pf ig bp tc)) (zQi (fun r H => ∃ z v2 vn2 pf2 ig2 bp2, r = zI z ∧ z = zFl tc tn ∧ (-1 ≤ z ∧ z ≤ 60) ∧ (z = -1 → zSt tc tn.toNat = some (v2, vn2, pf2, ig2, bp2)) ∧ PX g ad w n d dn u un hf hn v2 vn2 hs nx hd tn pf2 ig2 bp2 tc H) (zAx ad)) 0 0 (zAx ad) := by
  refine Met.ofZ (cc := cX3_read) (maxL := 3) (ret := (some .int)) (by decide) rfl (Nat.le_of_ble_eq_true rfl) ?_
  intro p e s m args below meth c ls hx hb hr hlocks S hin hK hpic hl
  have hown := S.2.2.2.1
  have hts := S.2.2.2.2
  have hl : lv_has ls 3 [(0, .ref (ad 21)), (1, .ref (ad 19))] := hl
  have hX := hpic
  have hg := hX.grg
  have hn0 := hX.gw.1
  have hd0 := hX.gd.1
  have hu0 := hX.gu.1
  have hv0 := hX.gv.1
  have ht0 := hX.gt.1
  have hS : va_S (zAx ad) s.heap s.heap [] := va_S.rf
  refine lv_aload_n hx hb dX3_read_0 rfl (lv_at hl 0 rfl) ?_
  refine va_get (D := g.1) (ci := 1) (v := .ref (ad 14)) (C := RX3) (T := TX3) (N := 4) hx hb hts mX3_read_0 hown hK (hX.gr) 0 rfl rfl 0 (by decide) (hts _ mX3_read_1) (fun _ h9 => h9) rfl dX3_read_1 ?_
  refine zc_VWv (As := []) (rest := []) S hK (kX8_clear l g (ad 14) (ad 15) v vn) (cwV 0 hts gX3_read_X8_clear rfl rfl rfl (by decide +kernel) ⟨Nat.le_of_ble_eq_true rfl, Nat.le_of_ble_eq_true rfl⟩) ((hX.gv)) ((hX.gv).recv hK) rfl hl.1 rfl (Nat.le_of_ble_eq_true rfl) dX3_read_4 ⟨Nat.zero_le _, Nat.zero_le _⟩ hS (zAx_2 (by omega) (by omega)) (fun H1 locs hp hz hk hS => ?_)
  have hX := hX.setV hk hp
  refine lv_aload_n hx hb dX3_read_7 rfl (lv_at hl 0 rfl) ?_
  refine zv_iconst hx hb dX3_read_8 ?_
  refine zx_put (D := g.1) (A := zAx ad) (ci := 1) (v := .int (zI 0)) (ty := .int) (C := RX3) (T := TX3) (N := 4) hx hb hts mX3_read_0 tyX3 tyX3_ok nmX3 hown hK (hX.gr) (zAx_i 21 (by omega)) hS rfl 1 (by decide) (hts _ mX3_read_2) (fun _ h9 => h9) rfl (by decide +kernel) rfl rfl (Nat.le_of_ble_eq_true rfl) dX3_read_9 (fun H1 locs hp hk hS => ?_)
  have hX := hX.putR hk hp (by omega)
  refine lv_aload_n hx hb dX3_read_12 rfl (lv_at hl 0 rfl) ?_
  refine zv_iconst hx hb dX3_read_13 ?_
  refine zx_put (D := g.1) (A := zAx ad) (ci := 1) (v := .int (zI 0)) (ty := .boolean) (C := RX3) (T := TX3) (N := 4) hx hb hts mX3_read_0 tyX3 tyX3_ok nmX3 hown hK (hX.gr) (zAx_i 21 (by omega)) hS rfl 2 (by decide) (hts _ mX3_read_3) (fun _ h9 => h9) rfl (by decide +kernel) rfl rfl (Nat.le_of_ble_eq_true rfl) dX3_read_14 (fun H1 locs hp hk hS => ?_)
  have hX := hX.putR hk hp (by omega)
  refine lv_aload_n hx hb dX3_read_17 rfl (lv_at hl 0 rfl) ?_
  refine zv_iconst hx hb dX3_read_18 ?_
  refine zx_put (D := g.1) (A := zAx ad) (ci := 1) (v := .int (zI 0)) (ty := .boolean) (C := RX3) (T := TX3) (N := 4) hx hb hts mX3_read_0 tyX3 tyX3_ok nmX3 hown hK (hX.gr) (zAx_i 21 (by omega)) hS rfl 3 (by decide) (hts _ mX3_read_4) (fun _ h9 => h9) rfl (by decide +kernel) rfl rfl (Nat.le_of_ble_eq_true rfl) dX3_read_19 (fun H1 locs hp hk hS => ?_)
  have hX := hX.putR hk hp (by omega)
  refine zv_iconst hx hb dX3_read_22 ?_
  refine lv_istore_n (lv' := [(2, .int (zI 0)), (0, .ref (ad 21)), (1, .ref (ad 19))]) hx hb dX3_read_23 rfl hl (by decide) rfl (fun ls hl => ?_)
  have lp24 : ∀ (z_f : Nat) (k : Int) (v1 : Int → Int) (vn1 : Int) (pf1 : Int) (ig1 : Int) (bp1 : Int) (H1 : Heap) (locs : List Loc), (0 ≤ k ∧ k ≤ tn) → (zSt tc k.toNat = some (v1, vn1, pf1, ig1, bp1)) → (PX g ad w n d dn u un hf hn v1 vn1 hs nx hd tn pf1 ig1 bp1 tc H1) → (va_S (zAx ad) s.heap H1 locs) → ((tn - k).toNat) < z_f → ∀ (ls : Array Slot), lv_has ls 3 [(0, .ref (ad 21)), (1, .ref (ad 19)), (2, .int (zI k))] → W p l e (zRm 4 90) s m args below meth c H1 locs 0 0 (MQ below (zQi (fun r H => ∃ z v2 vn2 pf2 ig2 bp2, r = zI z ∧ z = zFl tc tn ∧ (-1 ≤ z ∧ z ≤ 60) ∧ (z = -1 → zSt tc tn.toNat = some (v2, vn2, pf2, ig2, bp2)) ∧ PX g ad w n d dn u un hf hn v2 vn2 hs nx hd tn pf2 ig2 bp2 tc H) (zAx ad)) args s 0 0 (zAx ad)) (F0 m 24 ls []) := by
    intro z_f
    induction z_f with
    | zero => intro k v1 vn1 pf1 ig1 bp1 H1 locs h0 h1 hX hS z_m; exact absurd z_m (Nat.not_lt_zero _)
    | succ z_f ih24 =>
      intro k v1 vn1 pf1 ig1 bp1 H1 locs h0 h1 hX hS z_m24 ls hl
      have h2 := zSt_inv _ h1
      have hg := hX.grg
      simp only [zRI] at h2
      refine lv_iload_n hx hb dX3_read_24 rfl (lv_at hl 2 rfl) ?_
      refine lv_aload_n hx hb dX3_read_25 rfl (lv_at hl 1 rfl) ?_
      refine zc_V (As := []) (rest := [.int (zI k)]) S hK (kX7_length l g (ad 19) (ad 20) tc tn ) (cwV 0 hts gX3_read_X7_length rfl rfl rfl (by decide +kernel) ⟨Nat.le_of_ble_eq_true rfl, Nat.le_of_ble_eq_true rfl⟩) (hX.gt) (hX.gt.recv hK) rfl hl.1 rfl (Nat.le_of_ble_eq_true rfl) dX3_read_26 ⟨Nat.zero_le _, Nat.zero_le _⟩ (fun r26 hr26 => ?_)
      obtain rfl := hr26
      refine zv_icmp_ge (tgt := 52) hx hb dX3_read_29 (by decide) (by omega) (by omega) (fun c29 => ?_) (fun c29 => ?_)
      · have e9 : k = tn := by omega
        rw [e9] at h1
        refine lv_aload_n hx hb dX3_read_52 rfl (lv_at hl 0 rfl) ?_
        refine va_get (D := g.1) (ci := 1) (v := .int (zI ig1)) (C := RX3) (T := TX3) (N := 4) hx hb hts mX3_read_0 hown hK (hX.gr) 0 rfl rfl 2 (by decide) (hts _ mX3_read_3) (fun _ h9 => h9) rfl dX3_read_53 ?_
        refine zv_if_ne (tgt := 69) hx hb dX3_read_56 (by decide) (by omega) (fun c56 => ?_) (fun c56 => ?_)
        · refine lv_aload_n hx hb dX3_read_69 rfl (lv_at hl 1 rfl) ?_
          refine zc_V (As := []) (rest := []) S hK (kX7_length l g (ad 19) (ad 20) tc tn ) (cwV 0 hts gX3_read_X7_length rfl rfl rfl (by decide +kernel) ⟨Nat.le_of_ble_eq_true rfl, Nat.le_of_ble_eq_true rfl⟩) (hX.gt) (hX.gt.recv hK) rfl hl.1 rfl (Nat.le_of_ble_eq_true rfl) dX3_read_70 ⟨Nat.zero_le _, Nat.zero_le _⟩ (fun r70 hr70 => ?_)
          obtain rfl := hr70
          refine lv_goto (tgt := 77) hx hb dX3_read_73 (by decide) ?_
          exact zw_i hx hb hr hlocks hS dX3_read_77 (⟨_, _, _, _, _, _, rfl, (zFl_un (by omega) (Or.inr (Or.inl ⟨_, rfl, h1, fun q => q (by simp only; omega)⟩))).symm, by omega, fun q => absurd q (by omega), hX⟩)
        · refine lv_aload_n hx hb dX3_read_59 rfl (lv_at hl 0 rfl) ?_
          refine va_get (D := g.1) (ci := 1) (v := .ref (ad 14)) (C := RX3) (T := TX3) (N := 4) hx hb hts mX3_read_0 hown hK (hX.gr) 0 rfl rfl 0 (by decide) (hts _ mX3_read_1) (fun _ h9 => h9) rfl dX3_read_60 ?_
          refine zc_V (As := []) (rest := []) S hK (kX8_length l g (ad 14) (ad 15) v1 vn1) (cwV 0 hts gX3_read_X8_length rfl rfl rfl (by decide +kernel) ⟨Nat.le_of_ble_eq_true rfl, Nat.le_of_ble_eq_true rfl⟩) ((hX.gv)) ((hX.gv).recv hK) rfl hl.1 rfl (Nat.le_of_ble_eq_true rfl) dX3_read_63 ⟨Nat.zero_le _, Nat.zero_le _⟩ (fun r63 hr63 => ?_)
          obtain rfl := hr63
          refine zv_if_ne (tgt := 76) hx hb dX3_read_66 (by decide) (by omega) (fun c66 => ?_) (fun c66 => ?_)
          · refine zv_iconst hx hb dX3_read_76 ?_
            exact zw_i hx hb hr hlocks hS dX3_read_77 (⟨_, _, _, _, _, _, rfl, (zFl_un (by omega) (Or.inr (Or.inr ⟨_, rfl, h1, fun q => by simp only at q; omega⟩))).symm, by omega, fun _ => h1, hX⟩)
          · refine lv_aload_n hx hb dX3_read_69 rfl (lv_at hl 1 rfl) ?_
            refine zc_V (As := []) (rest := []) S hK (kX7_length l g (ad 19) (ad 20) tc tn ) (cwV 0 hts gX3_read_X7_length rfl rfl rfl (by decide +kernel) ⟨Nat.le_of_ble_eq_true rfl, Nat.le_of_ble_eq_true rfl⟩) (hX.gt) (hX.gt.recv hK) rfl hl.1 rfl (Nat.le_of_ble_eq_true rfl) dX3_read_70 ⟨Nat.zero_le _, Nat.zero_le _⟩ (fun r70 hr70 => ?_)
            obtain rfl := hr70
            refine lv_goto (tgt := 77) hx hb dX3_read_73 (by decide) ?_
            exact zw_i hx hb hr hlocks hS dX3_read_77 (⟨_, _, _, _, _, _, rfl, (zFl_un (by omega) (Or.inr (Or.inl ⟨_, rfl, h1, fun q => q (by simp only; omega)⟩))).symm, by omega, fun q => absurd q (by omega), hX⟩)
      · refine lv_aload_n hx hb dX3_read_32 rfl (lv_at hl 0 rfl) ?_
        refine lv_aload_n hx hb dX3_read_33 rfl (lv_at hl 1 rfl) ?_
        refine lv_iload_n hx hb dX3_read_34 rfl (lv_at hl 2 rfl) ?_
        refine zc_V (As := [.int (zI k)]) (rest := [.ref (ad 21)]) S hK (kX7_characterAt l g (ad 19) (ad 20) tc tn k (by omega)) (cwV 1 hts gX3_read_X7_characterAt rfl rfl rfl (by decide +kernel) ⟨Nat.le_of_ble_eq_true rfl, Nat.le_of_ble_eq_true rfl⟩) (hX.gt) (hX.gt.recv hK) rfl hl.1 rfl (Nat.le_of_ble_eq_true rfl) dX3_read_35 ⟨Nat.zero_le _, Nat.zero_le _⟩ (fun r35 hr35 => ?_)
        obtain rfl := hr35
        refine zc_VWi (As := [.int (zI (tc k))]) (rest := []) S hK (kX3_takes l g ad w n d dn u un hf hn v1 vn1 hs nx hd tn pf1 ig1 bp1 tc (tc k) (hX.gt.2.1 k (by omega) (by omega)) ⟨h2.1.2.1, h2.2.2.2.1⟩) (cwV 1 hts gX3_read_X3_takes rfl rfl rfl (by decide +kernel) ⟨Nat.le_of_ble_eq_true rfl, Nat.le_of_ble_eq_true rfl⟩) (hX) (hX.recvr hK) rfl hl.1 rfl (Nat.le_of_ble_eq_true rfl) dX3_read_38 ⟨Nat.zero_le _, Nat.zero_le _⟩ hS (fun q h => h) (fun r38 H1 locs hp hz hk hS => ?_)
        rcases hp with ⟨rfl, f38, hX⟩ | ⟨v9, vn9, pf9, ig9, bp9, rfl, f38, hX⟩
        · refine zv_if_ne (tgt := 46) hx hb dX3_read_41 (by decide) (by omega) (fun c41 => ?_) (fun c41 => ?_)
          · exfalso; omega
          · refine lv_iload_n hx hb dX3_read_44 rfl (lv_at hl 2 rfl) ?_
            exact zw_i hx hb hr hlocks hS dX3_read_45 (⟨_, _, _, _, _, _, rfl, (zFl_un (by omega) (Or.inl ⟨_, h1, by omega, by omega, f38⟩)).symm, by omega, fun q => absurd q (by omega), hX⟩)
        · refine zv_if_ne (tgt := 46) hx hb dX3_read_41 (by decide) (by omega) (fun c41 => ?_) (fun c41 => ?_)
          · refine zv_iinc (lv' := [(2, .int (zI (k + 1))), (0, .ref (ad 21)), (1, .ref (ad 19))]) hx hb dX3_read_46 hl (k := 2) rfl (by decide) rfl (fun ls hl => ?_)
            refine lv_goto (tgt := 24) hx hb dX3_read_49 (by decide) ?_
            exact ih24 (k + 1) v9 vn9 pf9 ig9 bp9 _ _ (by omega) ((zSt_next h0.1 h1).trans f38) (hX) (hS) (by omega) _ (lv_sub hl [1, 2, 0] rfl)
          · exfalso; omega
  exact lp24 _ 0 (fun _ => 0) 0 0 0 0 _ _ (by omega) (rfl) (hX.mvV (v2 := fun _ => 0) rfl (fun q h1q h2q => absurd h2q (by omega))) (hS) (Nat.lt_succ_self _) _ (lv_sub hl [1, 2, 0] rfl)

theorem mX10_rankOf_0 : ∀ w ∈ wsX100, w ∈ wsX10_rankOf := by decide +kernel
theorem mX10_rankOf_1 : (Cond.fieldLink RX10 7 "BorderRunsModel" "s" "[I") ∈ wsX10_rankOf := by decide +kernel
theorem mX10_rankOf_2 : (Cond.fieldLink RX10 17 "BorderRunsModel" "order" "[I") ∈ wsX10_rankOf := by decide +kernel
set_option maxHeartbeats 4000000 in
set_option maxRecDepth 100000 in
/-- X10_rankOf -/
theorem kX10_rankOf (l : Launch) (g : zG) (y sa ta oa : Nat) (f gt od : Int → Int) (sv ik tp : Int) (w : Int → Int) (n : Int) (hs : SL f 0 w n) (i : Int) (hi : 0 ≤ i ∧ i < n) : Met l yX10_rankOf wsX10_rankOf (zRm 4 90) (zP g [.ref y, .int (zI i)] (RM g y sa ta oa f gt od sv ik tp)) (zQi (fun r H => (∃ z : Int, r = zI z ∧ z = zRank w n i) ∧ ∃ od2 : Int → Int, RM g y sa ta oa f gt od2 sv ik tp H) (zA4 y sa ta oa)) 0 0 (zA4 y sa ta oa) := by
  refine Met.ofZ (cc := cX10_rankOf) (maxL := 4) (ret := (some .int)) (by decide) rfl (Nat.le_of_ble_eq_true rfl) ?_
  intro p e s m args below meth c ls hx hb hr hlocks S hin hK hpic hl
  have hown := S.2.2.2.1
  have hts := S.2.2.2.2
  have hl : lv_has ls 4 [(0, .ref y), (1, .int (zI i))] := hl
  have hX := hpic
  have hR := hX.rg
  have hS : va_S (zA4 y sa ta oa) s.heap s.heap [] := va_S.rf
  have hn := hs.2.1
  have hs0 := hs.1
  refine lv_aload_n hx hb dX10_rankOf_0 rfl (lv_at hl 0 rfl) ?_
  refine zc_VWv (As := []) (rest := []) S hK (kX10_sorts l g y sa ta oa f gt od sv ik tp w n hs) (cwV 0 hts gX10_rankOf_X10_sorts rfl rfl rfl (by decide +kernel) ⟨Nat.le_of_ble_eq_true rfl, Nat.le_of_ble_eq_true rfl⟩) (hX) (hX.recv hK) rfl hl.1 rfl (Nat.le_of_ble_eq_true rfl) dX10_rankOf_1 ⟨Nat.zero_le _, Nat.zero_le _⟩ hS (fun _ h9 => h9) (fun H1 locs hp hz hk hS => ?_)
  obtain ⟨od1, hX, hsrt⟩ := hp
  refine zv_iconst hx hb dX10_rankOf_4 ?_
  refine lv_istore_n (lv' := [(2, .int (zI 0)), (0, .ref y), (1, .int (zI i))]) hx hb dX10_rankOf_5 rfl hl (by decide) rfl (fun ls hl => ?_)
  refine zv_iconst hx hb dX10_rankOf_6 ?_
  refine lv_istore_n (lv' := [(3, .int (zI 0)), (2, .int (zI 0)), (0, .ref y), (1, .int (zI i))]) hx hb dX10_rankOf_7 rfl hl (by decide) rfl (fun ls hl => ?_)
  have lp8 : ∀ (z_f : Nat) (o : Int) (k : Int), (0 ≤ k ∧ k ≤ n) → (zRank w n i < k → o = zRank w n i) → ((n - k).toNat) < z_f → ∀ (ls : Array Slot), lv_has ls 4 [(0, .ref y), (1, .int (zI i)), (2, .int (zI o)), (3, .int (zI k))] → W p l e (zRm 4 90) s m args below meth c H1 locs 0 0 (MQ below (zQi (fun r H => (∃ z : Int, r = zI z ∧ z = zRank w n i) ∧ ∃ od2 : Int → Int, RM g y sa ta oa f gt od2 sv ik tp H) (zA4 y sa ta oa)) args s 0 0 (zA4 y sa ta oa)) (F0 m 8 ls []) := by
    intro z_f
    induction z_f with
    | zero => intro o k h0 h1 z_m; exact absurd z_m (Nat.not_lt_zero _)
    | succ z_f ih8 =>
      intro o k h0 h1 z_m8 ls hl
      refine lv_iload_n hx hb dX10_rankOf_8 rfl (lv_at hl 3 rfl) ?_
      refine lv_aload_n hx hb dX10_rankOf_9 rfl (lv_at hl 0 rfl) ?_
      refine va_get (D := g.1) (ci := 5) (v := .ref sa) (C := RX10) (T := TX10) (N := 6) hx hb hts mX10_rankOf_0 hown hK (hX.gy) 0 rfl rfl 0 (by decide) (hts _ mX10_rankOf_1) (fun _ h9 => h9) rfl dX10_rankOf_10 ?_
      refine zv_iconst hx hb dX10_rankOf_13 ?_
      refine zy_ild hx hb hK hX (by omega) dX10_rankOf_14 ?_
      refine zv_icmp_ge (tgt := 40) hx hb dX10_rankOf_15 (by decide) (by omega) (by omega) (fun c15 => ?_) (fun c15 => ?_)
      · have e9 : o = zRank w n i := h1 (by have := zRank_top (w := w) hi; omega)
        refine lv_iload_n hx hb dX10_rankOf_40 rfl (lv_at hl 2 rfl) ?_
        exact zw_i hx hb hr hlocks hS dX10_rankOf_41 (⟨⟨_, rfl, e9⟩, _, hX⟩)
      · refine lv_aload_n hx hb dX10_rankOf_18 rfl (lv_at hl 0 rfl) ?_
        refine va_get (D := g.1) (ci := 5) (v := .ref oa) (C := RX10) (T := TX10) (N := 6) hx hb hts mX10_rankOf_0 hown hK (hX.gy) 0 rfl rfl 5 (by decide) (hts _ mX10_rankOf_2) (fun _ h9 => h9) rfl dX10_rankOf_19 ?_
        have hk2 := zRank_of hsrt h0.1 (show k < n by omega)
        refine lv_iload_n hx hb dX10_rankOf_22 rfl (lv_at hl 3 rfl) ?_
        refine zy_old hx hb hK hX (by omega) dX10_rankOf_23 ?_
        refine lv_iload_n hx hb dX10_rankOf_24 rfl (lv_at hl 1 rfl) ?_
        refine zv_icmp_ne (tgt := 32) hx hb dX10_rankOf_25 (by decide) (by omega) (by omega) (fun c25 => ?_) (fun c25 => ?_)
        · refine lv_iload_n hx hb dX10_rankOf_32 rfl (lv_at hl 2 rfl) ?_
          refine lv_istore_n (lv' := [(2, .int (zI o)), (0, .ref y), (1, .int (zI i)), (3, .int (zI k))]) hx hb dX10_rankOf_33 rfl hl (by decide) rfl (fun ls hl => ?_)
          refine zv_iinc (lv' := [(3, .int (zI (k + 1))), (2, .int (zI o)), (0, .ref y), (1, .int (zI i))]) hx hb dX10_rankOf_34 hl (k := 3) rfl (by decide) rfl (fun ls hl => ?_)
          refine lv_goto (tgt := 8) hx hb dX10_rankOf_37 (by decide) ?_
          exact ih8 o (k + 1) (by omega) (fun v => h1 ((show zRank w n i < k ∨ zRank w n i = k by omega).elim id (fun z => absurd (zRank_inj hk2.1 hi (by rw [hk2.2, z])) c25))) (by omega) _ (lv_sub hl [2, 3, 1, 0] rfl)
        · refine lv_iload_n hx hb dX10_rankOf_28 rfl (lv_at hl 3 rfl) ?_
          refine lv_goto (tgt := 33) hx hb dX10_rankOf_29 (by decide) ?_
          refine lv_istore_n (lv' := [(2, .int (zI k)), (0, .ref y), (1, .int (zI i)), (3, .int (zI k))]) hx hb dX10_rankOf_33 rfl hl (by decide) rfl (fun ls hl => ?_)
          refine zv_iinc (lv' := [(3, .int (zI (k + 1))), (2, .int (zI k)), (0, .ref y), (1, .int (zI i))]) hx hb dX10_rankOf_34 hl (k := 3) rfl (by decide) rfl (fun ls hl => ?_)
          refine lv_goto (tgt := 8) hx hb dX10_rankOf_37 (by decide) ?_
          exact ih8 k (k + 1) (by omega) (fun _ => by rw [← show od1 k = i from c25]; exact (hk2.2).symm) (by omega) _ (lv_sub hl [2, 3, 1, 0] rfl)
  exact lp8 _ 0 0 (by omega) (fun v => by have := (zRank_bd w i (n := n) (by omega)).1; omega) (Nat.lt_succ_self _) _ (lv_sub hl [2, 3, 1, 0] rfl)

set_option maxHeartbeats 4000000 in
set_option maxRecDepth 100000 in
/-- X10_at -/
theorem kX10_at (l : Launch) (g : zG) (y sa ta oa : Nat) (w : Int → Int) (n : Int) (ee : Nat → Int → Int) (en : Nat → Int) (hc : Int) (u : Int → Int) (un hs : Int) (tc : Int → Int) (tn : Int) (i q : Int) (hi : -2147483648 ≤ i ∧ i < 2147483648) (hq : -2147483648 ≤ q ∧ q < 2147483648) : Met l yX10_at wsX10_at (zRm 6 143) (zP g [.ref y, .int (zI i), .int (zI q)] (AM g y sa ta oa w n ee en hc u un hs tc tn)) (zQi (fun r H => r = zI (zAt w n i q) ∧ AM g y sa ta oa w n ee en hc u un hs tc tn H) (zA4 y sa ta oa)) 0 0 (zA4 y sa ta oa) := by
  refine Met.ofZ (cc := cX10_at) (maxL := 3) (ret := (some .int)) (by decide) rfl (Nat.le_of_ble_eq_true rfl) ?_
  intro p e s m args below meth c ls hx hb hr hlocks S hin hK hpic hl
  have hown := S.2.2.2.1
  have hts := S.2.2.2.2
  have hl : lv_has ls 3 [(0, .ref y), (1, .int (zI i)), (2, .int (zI q))] := hl
  obtain ⟨f, gt, od, hX, hm, hgt⟩ := hpic
  have hR := hX.rg
  have hsl := hm.1
  have hs0 := hsl.1
  have hn := hsl.2.1
  have hS : va_S (zA4 y sa ta oa) s.heap s.heap [] := va_S.rf
  refine lv_aload_n hx hb dX10_at_0 rfl (lv_at hl 0 rfl) ?_
  refine lv_iload_n hx hb dX10_at_1 rfl (lv_at hl 1 rfl) ?_
  refine zc_V (As := [.int (zI i)]) (rest := []) S hK (kX10_isPlace l g y sa ta oa f gt od hc hs tn w n hsl i (by omega)) (cwV 1 hts gX10_at_X10_isPlace rfl rfl rfl (by decide +kernel) ⟨Nat.le_of_ble_eq_true rfl, Nat.le_of_ble_eq_true rfl⟩) (hX) (hX.recv hK) rfl hl.1 rfl (Nat.le_of_ble_eq_true rfl) dX10_at_2 ⟨Nat.zero_le _, Nat.zero_le _⟩ (fun r2 hr2 => ?_)
  obtain rfl := hr2
  refine zv_ifB_ne (tgt := 10) hx hb dX10_at_5 (by decide) (fun c5 => ?_) (fun c5 => ?_)
  · refine lv_iload_n hx hb dX10_at_10 rfl (lv_at hl 2 rfl) ?_
    rcases (show q = 0 ∨ q = 1 ∨ q = 2 ∨ q = 3 ∨ (q < 0 ∨ 3 < q) by omega) with c11 | c11 | c11 | c11 | c11
    · subst c11
      refine zv_tableIn (a := 0) (tgt := 40) hx hb dX10_at_11 (by omega) (by omega) (by omega) rfl (by decide) ?_
      refine lv_aload_n hx hb dX10_at_40 rfl (lv_at hl 0 rfl) ?_
      refine zv_iconst hx hb dX10_at_41 ?_
      refine lv_iload_n hx hb dX10_at_42 rfl (lv_at hl 1 rfl) ?_
      refine zc_V (As := [.int (zI 0), .int (zI i)]) (rest := []) S hK (kX10_letAt l g y sa ta oa f gt od hc hs tn 0 w n (by omega) hsl i (by omega)) (cwV 2 hts gX10_at_X10_letAt rfl rfl rfl (by decide +kernel) ⟨Nat.le_of_ble_eq_true rfl, Nat.le_of_ble_eq_true rfl⟩) (hX) (hX.recv hK) rfl hl.1 rfl (Nat.le_of_ble_eq_true rfl) dX10_at_43 ⟨Nat.zero_le _, Nat.zero_le _⟩ (fun r43 hr43 => ?_)
      obtain ⟨z43, rfl, hz43⟩ := hr43
      exact zw_i hx hb hr hlocks hS dX10_at_46 (⟨by unfold zAt; rw [zIf_t c5, zIf_t rfl]; exact congrArg zI hz43.1, ⟨_, _, _, hX, hm, hgt⟩⟩)
    · subst c11
      refine zv_tableIn (a := 1) (tgt := 47) hx hb dX10_at_11 (by omega) (by omega) (by omega) rfl (by decide) ?_
      refine lv_aload_n hx hb dX10_at_47 rfl (lv_at hl 0 rfl) ?_
      refine lv_iload_n hx hb dX10_at_48 rfl (lv_at hl 1 rfl) ?_
      refine zc_VWi (As := [.int (zI i)]) (rest := []) S hK (kX10_rankOf l g y sa ta oa f gt od hc hs tn w n hsl i (by omega)) (cwV 1 hts gX10_at_X10_rankOf rfl rfl rfl (by decide +kernel) ⟨Nat.le_of_ble_eq_true rfl, Nat.le_of_ble_eq_true rfl⟩) (hX) (hX.recv hK) rfl hl.1 rfl (Nat.le_of_ble_eq_true rfl) dX10_at_49 ⟨Nat.zero_le _, Nat.zero_le _⟩ hS (fun _ h9 => h9) (fun r49 H1 locs hp hz hk hS => ?_)
      obtain ⟨⟨z49, rfl, hz49⟩, od49, hX⟩ := hp
      exact zw_i hx hb hr hlocks hS dX10_at_52 (⟨by unfold zAt; rw [zIf_t c5, zIf_f (by omega), zIf_t rfl]; exact congrArg zI hz49, ⟨_, _, _, hX, hm, hgt⟩⟩)
    · subst c11
      refine zv_tableIn (a := 2) (tgt := 53) hx hb dX10_at_11 (by omega) (by omega) (by omega) rfl (by decide) ?_
      refine lv_aload_n hx hb dX10_at_53 rfl (lv_at hl 0 rfl) ?_
      refine lv_iload_n hx hb dX10_at_54 rfl (lv_at hl 1 rfl) ?_
      refine zc_V (As := [.int (zI i)]) (rest := []) S hK (kX10_runsOver l g y sa ta oa f gt od hc hs tn w n hsl i (by omega)) (cwV 1 hts gX10_at_X10_runsOver rfl rfl rfl (by decide +kernel) ⟨Nat.le_of_ble_eq_true rfl, Nat.le_of_ble_eq_true rfl⟩) (hX) (hX.recv hK) rfl hl.1 rfl (Nat.le_of_ble_eq_true rfl) dX10_at_55 ⟨Nat.zero_le _, Nat.zero_le _⟩ (fun r55 hr55 => ?_)
      obtain ⟨z55, rfl, hz55⟩ := hr55
      exact zw_i hx hb hr hlocks hS dX10_at_58 (⟨by unfold zAt; rw [zIf_t c5, zIf_f (by omega), zIf_f (by omega), zIf_t rfl]; exact congrArg zI hz55.1, ⟨_, _, _, hX, hm, hgt⟩⟩)
    · subst c11
      refine zv_tableIn (a := 3) (tgt := 59) hx hb dX10_at_11 (by omega) (by omega) (by omega) rfl (by decide) ?_
      refine lv_aload_n hx hb dX10_at_59 rfl (lv_at hl 0 rfl) ?_
      refine zv_iconst hx hb dX10_at_60 ?_
      refine lv_iload_n hx hb dX10_at_61 rfl (lv_at hl 1 rfl) ?_
      refine zv_iconst hx hb dX10_at_62 ?_
      refine zv_iadd hx hb dX10_at_63 ?_
      refine zc_V (As := [.int (zI 0), .int (zI (i + 1))]) (rest := []) S hK (kX10_squares l g y sa ta oa f gt od hc hs tn 0 w n (by omega) hsl (i + 1) (by omega)) (cwV 2 hts gX10_at_X10_squares rfl rfl rfl (by decide +kernel) ⟨Nat.le_of_ble_eq_true rfl, Nat.le_of_ble_eq_true rfl⟩) (hX) (hX.recv hK) rfl hl.1 rfl (Nat.le_of_ble_eq_true rfl) dX10_at_64 ⟨Nat.zero_le _, Nat.zero_le _⟩ (fun r64 hr64 => ?_)
      obtain ⟨z64, rfl, hz64⟩ := hr64
      exact zw_i hx hb hr hlocks hS dX10_at_67 (⟨by unfold zAt; rw [zIf_t c5, zIf_f (by omega), zIf_f (by omega), zIf_f (by omega), zIf_t rfl]; exact congrArg zI (hz64.1.trans (zSsP_end w (by omega))), ⟨_, _, _, hX, hm, hgt⟩⟩)
    · refine zv_tableOut (tgt := 68) hx hb dX10_at_11 (by omega) (by omega) (by decide) ?_
      refine zv_bipush hx hb dX10_at_68 (by decide +kernel) ?_
      exact zw_i hx hb hr hlocks hS dX10_at_70 (⟨by unfold zAt; rw [zIf_t c5, zIf_f (by omega), zIf_f (by omega), zIf_f (by omega), zIf_f (by omega)], ⟨_, _, _, hX, hm, hgt⟩⟩)
  · refine zv_iconst hx hb dX10_at_8 ?_
    exact zw_i hx hb hr hlocks hS dX10_at_9 (⟨by unfold zAt; rw [zIf_f c5], ⟨_, _, _, hX, hm, hgt⟩⟩)

theorem mX10_suffix_0 : ∀ w ∈ wsX100, w ∈ wsX10_suffix := by decide +kernel
theorem mX10_suffix_1 : (Cond.fieldLink RX10 7 "BorderRunsModel" "s" "[I") ∈ wsX10_suffix := by decide +kernel
theorem mX10_suffix_2 : (Cond.fieldLink RX10 17 "BorderRunsModel" "order" "[I") ∈ wsX10_suffix := by decide +kernel
set_option maxHeartbeats 4000000 in
set_option maxRecDepth 100000 in
/-- X10_suffix -/
theorem kX10_suffix (l : Launch) (g : zG) (y sa ta oa : Nat) (w : Int → Int) (n : Int) (ee : Nat → Int → Int) (en : Nat → Int) (hc : Int) (u : Int → Int) (un hs : Int) (tc : Int → Int) (tn : Int) (r : Int) (hr0 : -2147483648 ≤ r ∧ r < 2147483648) : Met l yX10_suffix wsX10_suffix (zRm 4 90) (zP g [.ref y, .int (zI r)] (AM g y sa ta oa w n ee en hc u un hs tc tn)) (zQi (fun v H => v = zI (aSuffix w n r) ∧ AM g y sa ta oa w n ee en hc u un hs tc tn H) (zA4 y sa ta oa)) 0 0 (zA4 y sa ta oa) := by
  refine Met.ofZ (cc := cX10_suffix) (maxL := 2) (ret := (some .int)) (by decide) rfl (Nat.le_of_ble_eq_true rfl) ?_
  intro p e s m args below meth c ls hx hb hr hlocks S hin hK hpic hl
  have hown := S.2.2.2.1
  have hts := S.2.2.2.2
  have hl : lv_has ls 2 [(0, .ref y), (1, .int (zI r))] := hl
  obtain ⟨f, gt, od, hX, hm, hgt⟩ := hpic
  have hR := hX.rg
  have hsl := hm.1
  have hs0 := hsl.1
  have hn := hsl.2.1
  have hS : va_S (zA4 y sa ta oa) s.heap s.heap [] := va_S.rf
  refine lv_iload_n hx hb dX10_suffix_0 rfl (lv_at hl 1 rfl) ?_
  refine zv_if_ge (tgt := 7) hx hb dX10_suffix_1 (by decide) (by omega) (fun c1 => ?_) (fun c1 => ?_)
  · refine lv_iload_n hx hb dX10_suffix_7 rfl (lv_at hl 1 rfl) ?_
    refine lv_aload_n hx hb dX10_suffix_8 rfl (lv_at hl 0 rfl) ?_
    refine va_get (D := g.1) (ci := 5) (v := .ref sa) (C := RX10) (T := TX10) (N := 6) hx hb hts mX10_suffix_0 hown hK (hX.gy) 0 rfl rfl 0 (by decide) (hts _ mX10_suffix_1) (fun _ h9 => h9) rfl dX10_suffix_9 ?_
    refine zv_iconst hx hb dX10_suffix_12 ?_
    refine zy_ild hx hb hK hX (by omega) dX10_suffix_13 ?_
    refine zv_icmp_lt (tgt := 20) hx hb dX10_suffix_14 (by decide) (by omega) (by omega) (fun c14 => ?_) (fun c14 => ?_)
    · refine lv_aload_n hx hb dX10_suffix_20 rfl (lv_at hl 0 rfl) ?_
      refine zc_VWv (As := []) (rest := []) S hK (kX10_sorts l g y sa ta oa f gt od hc hs tn w n hsl) (cwV 0 hts gX10_suffix_X10_sorts rfl rfl rfl (by decide +kernel) ⟨Nat.le_of_ble_eq_true rfl, Nat.le_of_ble_eq_true rfl⟩) (hX) (hX.recv hK) rfl hl.1 rfl (Nat.le_of_ble_eq_true rfl) dX10_suffix_21 ⟨Nat.zero_le _, Nat.zero_le _⟩ hS (fun _ h9 => h9) (fun H1 locs hp hz hk hS => ?_)
      obtain ⟨od21, hX, hsrt⟩ := hp
      refine lv_aload_n hx hb dX10_suffix_24 rfl (lv_at hl 0 rfl) ?_
      refine va_get (D := g.1) (ci := 5) (v := .ref oa) (C := RX10) (T := TX10) (N := 6) hx hb hts mX10_suffix_0 hown hK (hX.gy) 0 rfl rfl 5 (by decide) (hts _ mX10_suffix_2) (fun _ h9 => h9) rfl dX10_suffix_25 ?_
      refine lv_iload_n hx hb dX10_suffix_28 rfl (lv_at hl 1 rfl) ?_
      refine zy_old hx hb hK hX (by omega) dX10_suffix_29 ?_
      exact zw_i hx hb hr hlocks hS dX10_suffix_30 (⟨by unfold aSuffix; rw [zIf_f (by omega)]; have h8 := zRank_of hsrt (r := r) (by omega) (by omega); rw [zPl_hit ⟨h8.1.1, h8.1.2, h8.2⟩], ⟨_, _, _, hX, hm, hgt⟩⟩)
    · refine zv_bipush hx hb dX10_suffix_17 (by decide +kernel) ?_
      exact zw_i hx hb hr hlocks hS dX10_suffix_19 (⟨by unfold aSuffix; rw [zIf_f (by omega), zPl_none (fun q q1 q2 e => by have := zRank_top (w := w) (n := n) (i := q) ⟨q1, q2⟩; omega)], ⟨_, _, _, hX, hm, hgt⟩⟩)
  · refine zv_bipush hx hb dX10_suffix_4 (by decide +kernel) ?_
    exact zw_i hx hb hr hlocks hS dX10_suffix_6 (⟨by unfold aSuffix; rw [zIf_t (by omega)], ⟨_, _, _, hX, hm, hgt⟩⟩)

theorem mX10_tries_0 : ∀ w ∈ wsX100, w ∈ wsX10_tries := by decide +kernel
theorem mX10_tries_1 : (Cond.fieldLink RX10 7 "BorderRunsModel" "s" "[I") ∈ wsX10_tries := by decide +kernel
set_option maxHeartbeats 4000000 in
set_option maxRecDepth 100000 in
/-- X10_tries -/
theorem kX10_tries (l : Launch) (g : zG) (y sa ta oa : Nat) (w : Int → Int) (n : Int) (ee : Nat → Int → Int) (en : Nat → Int) (hc : Int) (u : Int → Int) (un hs : Int) (tc : Int → Int) (tn : Int) (x q : Int) (hx0 : 0 ≤ x ∧ x ≤ 25) (hq : 0 ≤ q ∧ q ≤ 3) (hn40 : n < 40) : Met l yX10_tries wsX10_tries (zRm 6 143) (zP g [.ref y, .int (zI x), .int (zI q)] (AM g y sa ta oa w n ee en hc u un hs tc tn)) (zQi (fun r H => (∃ z : Int, r = zI z ∧ z = zBr w n x q ∧ 0 ≤ z ∧ z ≤ 3000) ∧ AM g y sa ta oa w n ee en hc u un hs tc tn H) (zA4 y sa ta oa)) 0 0 (zA4 y sa ta oa) := by
  refine Met.ofZ (cc := cX10_tries) (maxL := 4) (ret := (some .int)) (by decide) rfl (Nat.le_of_ble_eq_true rfl) ?_
  intro p e s m args below meth c ls hx hb hr hlocks S hin hK hpic hl
  have hown := S.2.2.2.1
  have hts := S.2.2.2.2
  have hl : lv_has ls 4 [(0, .ref y), (1, .int (zI x)), (2, .int (zI q))] := hl
  obtain ⟨f, gt, od, hX, hm, hgt⟩ := hpic
  have hR := hX.rg
  have hsl := hm.1
  have hs0 := hsl.1
  have hn := hsl.2.1
  have hS : va_S (zA4 y sa ta oa) s.heap s.heap [] := va_S.rf
  refine lv_aload_n hx hb dX10_tries_0 rfl (lv_at hl 0 rfl) ?_
  refine zv_iconst hx hb dX10_tries_1 ?_
  refine zv_bipush hx hb dX10_tries_2 (by decide +kernel) ?_
  refine zc_VWv (As := [.int (zI 0), .int (zI 6)]) (rest := []) S hK (kX10_copies l g y sa ta oa f gt od hc hs tn 0 6 (by omega)) (cwV 2 hts gX10_tries_X10_copies rfl rfl rfl (by decide +kernel) ⟨Nat.le_of_ble_eq_true rfl, Nat.le_of_ble_eq_true rfl⟩) (hX) (hX.recv hK) rfl hl.1 rfl (Nat.le_of_ble_eq_true rfl) dX10_tries_4 ⟨Nat.zero_le _, Nat.zero_le _⟩ hS (fun _ h9 => h9) (fun H1 locs hp hz hk hS => ?_)
  have hX := hp
  obtain ⟨f4, e4⟩ : ∃ z9, z9 = zCp f 0 6 41 := ⟨_, rfl⟩
  rw [← e4] at hX
  have k4 : ∀ x9, 0 ≤ x9 → x9 < 41 → f4 (41 * 6 + x9) = f (41 * 0 + x9) := fun x9 a9 b9 => by rw [e4, zCp_in (by omega)]; congr 1; omega
  have o4 : ∀ x9, x9 < 41 * 6 ∨ 41 * 6 + 41 ≤ x9 → f4 x9 = f x9 := fun x9 h => by rw [e4, zCp_out (by omega)]
  have sl4 : SL f4 246 w n := hsl.mv (fun k a b => by rw [show (246 : Int) + k = 41 * 6 + k by omega, show (0 : Int) + k = 41 * 0 + k by omega]; exact k4 k a b)
  have l4 := sl4.1
  refine zv_sipush hx hb dX10_tries_7 (by decide +kernel) ?_
  refine lv_istore_n (lv' := [(3, .int (zI 246)), (0, .ref y), (1, .int (zI x)), (2, .int (zI q))]) hx hb dX10_tries_10 rfl hl (by decide) rfl (fun ls hl => ?_)
  refine lv_aload_n hx hb dX10_tries_11 rfl (lv_at hl 1 rfl) ?_
  refine va_get (D := g.1) (ci := 5) (v := .ref sa) (C := RX10) (T := TX10) (N := 6) hx hb hts mX10_tries_0 hown hK (hX.gy) 0 rfl rfl 0 (by decide) (hts _ mX10_tries_1) (fun _ h9 => h9) rfl dX10_tries_12 ?_
  refine lv_iload_n hx hb dX10_tries_15 rfl (lv_at hl 0 rfl) ?_
  refine lv_dup2_11 hx hb dX10_tries_16 rfl rfl ?_
  refine zy_ild hx hb hK hX (by omega) dX10_tries_17 ?_
  refine zv_iconst hx hb dX10_tries_18 ?_
  refine zv_iadd hx hb dX10_tries_19 ?_
  refine zy_ist hx hb hK hX hS (by omega) (by omega) dX10_tries_20 (fun H1 locs hX hS => ?_)
  obtain ⟨f20, e20⟩ : ∃ z9, z9 = zApp f4 246 ((f4 246) + 1) := ⟨_, rfl⟩
  rw [← e20] at hX
  have r20 : f20 246 = (f4 246) + 1 := by rw [e20]; exact zApp_eq _ _ _
  have q20 : ∀ x9, x9 ≠ 246 → f20 x9 = f4 x9 := fun x9 h => by rw [e20]; exact zApp_ne h
  refine lv_aload_n hx hb dX10_tries_21 rfl (lv_at hl 1 rfl) ?_
  refine va_get (D := g.1) (ci := 5) (v := .ref sa) (C := RX10) (T := TX10) (N := 6) hx hb hts mX10_tries_0 hown hK (hX.gy) 0 rfl rfl 0 (by decide) (hts _ mX10_tries_1) (fun _ h9 => h9) rfl dX10_tries_22 ?_
  refine lv_iload_n hx hb dX10_tries_25 rfl (lv_at hl 0 rfl) ?_
  refine lv_aload_n hx hb dX10_tries_26 rfl (lv_at hl 1 rfl) ?_
  refine va_get (D := g.1) (ci := 5) (v := .ref sa) (C := RX10) (T := TX10) (N := 6) hx hb hts mX10_tries_0 hown hK (hX.gy) 0 rfl rfl 0 (by decide) (hts _ mX10_tries_1) (fun _ h9 => h9) rfl dX10_tries_27 ?_
  refine lv_iload_n hx hb dX10_tries_30 rfl (lv_at hl 0 rfl) ?_
  refine zy_ild hx hb hK hX (by omega) dX10_tries_31 ?_
  refine zv_iadd hx hb dX10_tries_32 ?_
  refine lv_iload_n hx hb dX10_tries_33 rfl (lv_at hl 2 rfl) ?_
  refine zy_ist hx hb hK hX hS (by omega) (by omega) dX10_tries_34 (fun H1 locs hX hS => ?_)
  obtain ⟨f34, e34⟩ : ∃ z9, z9 = zApp f20 (246 + (f20 246)) x := ⟨_, rfl⟩
  rw [← e34] at hX
  have r34 : f34 (246 + (f20 246)) = x := by rw [e34]; exact zApp_eq _ _ _
  have q34 : ∀ x9, x9 ≠ 246 + (f20 246) → f34 x9 = f20 x9 := fun x9 h => by rw [e34]; exact zApp_ne h
  have l34 : f34 246 = n + 1 := by rw [q34 246 (by omega), r20, l4]
  have l20 : f20 246 = n + 1 := by rw [r20, l4]
  have sl2 : SL f34 246 (zApp w n x) (n + 1) := sl4.app hn40 hx0 l34 (by rw [show (246 : Int) + 1 + n = 246 + f20 246 by omega]; exact r34) (fun k a b => by rw [q34 k (by omega), q20 k (by omega)])
  have lo : ∀ k, 0 ≤ k → k < 246 → f34 k = f k := fun k a b => by rw [q34 k (by omega), q20 k (by omega), o4 k (by omega)]
  have sl0 : SL f34 0 w n := hsl.mv (fun k a b => lo _ (by omega) (by omega))
  have l0 := sl0.1
  have hm := hm.scr (f2 := f34) hR.1 lo
  refine lv_iload_n hx hb dX10_tries_35 rfl (lv_at hl 3 rfl) ?_
  refine zv_if_ne (tgt := 60) hx hb dX10_tries_36 (by decide) (by omega) (fun c36 => ?_) (fun c36 => ?_)
  · refine lv_iload_n hx hb dX10_tries_60 rfl (lv_at hl 3 rfl) ?_
    refine zv_iconst hx hb dX10_tries_61 ?_
    refine zv_icmp_ne (tgt := 91) hx hb dX10_tries_62 (by decide) (by omega) (by omega) (fun c62 => ?_) (fun c62 => ?_)
    · refine lv_iload_n hx hb dX10_tries_91 rfl (lv_at hl 3 rfl) ?_
      refine zv_iconst hx hb dX10_tries_92 ?_
      refine zv_icmp_ne (tgt := 110) hx hb dX10_tries_93 (by decide) (by omega) (by omega) (fun c93 => ?_) (fun c93 => ?_)
      · refine lv_aload_n hx hb dX10_tries_110 rfl (lv_at hl 1 rfl) ?_
        refine lv_iload_n hx hb dX10_tries_111 rfl (lv_at hl 0 rfl) ?_
        refine zc_V (As := [.int (zI 246)]) (rest := []) S hK (kX10_runs l g y sa ta oa f34 gt od hc hs tn 246 (zApp w n x) (n + 1) (by omega) sl2  ) (cwV 1 hts gX10_tries_X10_runs rfl rfl rfl (by decide +kernel) ⟨Nat.le_of_ble_eq_true rfl, Nat.le_of_ble_eq_true rfl⟩) (hX) (hX.recv hK) rfl hl.1 rfl (Nat.le_of_ble_eq_true rfl) dX10_tries_112 ⟨Nat.zero_le _, Nat.zero_le _⟩ (fun r112 hr112 => ?_)
        obtain ⟨z112, rfl, hz112⟩ := hr112
        exact zw_i hx hb hr hlocks hS dX10_tries_115 (⟨⟨_, rfl, by unfold zBr; rw [zIf_f (by omega), zIf_f (by omega), zIf_f (by omega)]; exact hz112.1, by omega, by omega⟩, ⟨_, _, _, hX, hm, hgt⟩⟩)
      · refine lv_aload_n hx hb dX10_tries_96 rfl (lv_at hl 1 rfl) ?_
        refine lv_iload_n hx hb dX10_tries_97 rfl (lv_at hl 0 rfl) ?_
        refine lv_aload_n hx hb dX10_tries_98 rfl (lv_at hl 1 rfl) ?_
        refine va_get (D := g.1) (ci := 5) (v := .ref sa) (C := RX10) (T := TX10) (N := 6) hx hb hts mX10_tries_0 hown hK (hX.gy) 0 rfl rfl 0 (by decide) (hts _ mX10_tries_1) (fun _ h9 => h9) rfl dX10_tries_99 ?_
        refine lv_iload_n hx hb dX10_tries_102 rfl (lv_at hl 0 rfl) ?_
        refine zy_ild hx hb hK hX (by omega) dX10_tries_103 ?_
        refine zc_V (As := [.int (zI 246), .int (zI (f34 246))]) (rest := []) S hK (kX10_squares l g y sa ta oa f34 gt od hc hs tn 246 (zApp w n x) (n + 1) (by omega) sl2 (f34 246) (by omega)) (cwV 2 hts gX10_tries_X10_squares rfl rfl rfl (by decide +kernel) ⟨Nat.le_of_ble_eq_true rfl, Nat.le_of_ble_eq_true rfl⟩) (hX) (hX.recv hK) rfl hl.1 rfl (Nat.le_of_ble_eq_true rfl) dX10_tries_104 ⟨Nat.zero_le _, Nat.zero_le _⟩ (fun r104 hr104 => ?_)
        obtain ⟨z104, rfl, hz104⟩ := hr104
        refine lv_goto (tgt := 115) hx hb dX10_tries_107 (by decide) ?_
        exact zw_i hx hb hr hlocks hS dX10_tries_115 (⟨⟨_, rfl, by unfold zBr; rw [zIf_f (by omega), zIf_f (by omega), zIf_t (by omega), ← zSsP_end _ (show 0 ≤ n + 1 ∧ n + 1 ≤ n + 1 by omega)]; rw [l34] at hz104; exact hz104.1, by omega, by omega⟩, ⟨_, _, _, hX, hm, hgt⟩⟩)
    · refine lv_aload_n hx hb dX10_tries_65 rfl (lv_at hl 1 rfl) ?_
      refine lv_iload_n hx hb dX10_tries_66 rfl (lv_at hl 0 rfl) ?_
      refine lv_aload_n hx hb dX10_tries_67 rfl (lv_at hl 1 rfl) ?_
      refine va_get (D := g.1) (ci := 5) (v := .ref sa) (C := RX10) (T := TX10) (N := 6) hx hb hts mX10_tries_0 hown hK (hX.gy) 0 rfl rfl 0 (by decide) (hts _ mX10_tries_1) (fun _ h9 => h9) rfl dX10_tries_68 ?_
      refine lv_iload_n hx hb dX10_tries_71 rfl (lv_at hl 0 rfl) ?_
      refine zy_ild hx hb hK hX (by omega) dX10_tries_72 ?_
      refine zc_V (As := [.int (zI 246), .int (zI (f34 246))]) (rest := []) S hK (kX10_kinds l g y sa ta oa f34 gt od hc hs tn 246 (zApp w n x) (n + 1) (by omega) sl2 (f34 246) (by omega)) (cwV 2 hts gX10_tries_X10_kinds rfl rfl rfl (by decide +kernel) ⟨Nat.le_of_ble_eq_true rfl, Nat.le_of_ble_eq_true rfl⟩) (hX) (hX.recv hK) rfl hl.1 rfl (Nat.le_of_ble_eq_true rfl) dX10_tries_73 ⟨Nat.zero_le _, Nat.zero_le _⟩ (fun r73 hr73 => ?_)
      obtain ⟨z73, rfl, hz73⟩ := hr73
      refine lv_aload_n hx hb dX10_tries_76 rfl (lv_at hl 1 rfl) ?_
      refine zv_iconst hx hb dX10_tries_77 ?_
      refine lv_aload_n hx hb dX10_tries_78 rfl (lv_at hl 1 rfl) ?_
      refine va_get (D := g.1) (ci := 5) (v := .ref sa) (C := RX10) (T := TX10) (N := 6) hx hb hts mX10_tries_0 hown hK (hX.gy) 0 rfl rfl 0 (by decide) (hts _ mX10_tries_1) (fun _ h9 => h9) rfl dX10_tries_79 ?_
      refine zv_iconst hx hb dX10_tries_82 ?_
      refine zy_ild hx hb hK hX (by omega) dX10_tries_83 ?_
      refine zc_V (As := [.int (zI 0), .int (zI (f34 0))]) (rest := [.int (zI z73)]) S hK (kX10_kinds l g y sa ta oa f34 gt od hc hs tn 0 w n (by omega) sl0 (f34 0) (by omega)) (cwV 2 hts gX10_tries_X10_kinds rfl rfl rfl (by decide +kernel) ⟨Nat.le_of_ble_eq_true rfl, Nat.le_of_ble_eq_true rfl⟩) (hX) (hX.recv hK) rfl hl.1 rfl (Nat.le_of_ble_eq_true rfl) dX10_tries_84 ⟨Nat.zero_le _, Nat.zero_le _⟩ (fun r84 hr84 => ?_)
      obtain ⟨z84, rfl, hz84⟩ := hr84
      refine zv_isub hx hb dX10_tries_87 ?_
      refine lv_goto (tgt := 115) hx hb dX10_tries_88 (by decide) ?_
      exact zw_i hx hb hr hlocks hS dX10_tries_115 (⟨⟨_, rfl, by unfold zBr; rw [zIf_f (by omega), zIf_t (by omega), ← zUn_more hn.1]; rw [l34] at hz73; rw [l0] at hz84; rw [hz73.1, hz84.1], by rw [l34] at hz73; rw [l0] at hz84; have h8 := zUn_more (w := w) (x := x) hn.1; have h9 := zUf_bd (zApp w n x) (t := n + 1) (by omega); omega, by omega⟩, ⟨_, _, _, hX, hm, hgt⟩⟩)
  · refine lv_aload_n hx hb dX10_tries_39 rfl (lv_at hl 1 rfl) ?_
    refine lv_iload_n hx hb dX10_tries_40 rfl (lv_at hl 0 rfl) ?_
    refine zv_iconst hx hb dX10_tries_41 ?_
    refine lv_aload_n hx hb dX10_tries_42 rfl (lv_at hl 1 rfl) ?_
    refine va_get (D := g.1) (ci := 5) (v := .ref sa) (C := RX10) (T := TX10) (N := 6) hx hb hts mX10_tries_0 hown hK (hX.gy) 0 rfl rfl 0 (by decide) (hts _ mX10_tries_1) (fun _ h9 => h9) rfl dX10_tries_43 ?_
    refine lv_iload_n hx hb dX10_tries_46 rfl (lv_at hl 0 rfl) ?_
    refine zy_ild hx hb hK hX (by omega) dX10_tries_47 ?_
    refine lv_aload_n hx hb dX10_tries_48 rfl (lv_at hl 1 rfl) ?_
    refine va_get (D := g.1) (ci := 5) (v := .ref sa) (C := RX10) (T := TX10) (N := 6) hx hb hts mX10_tries_0 hown hK (hX.gy) 0 rfl rfl 0 (by decide) (hts _ mX10_tries_1) (fun _ h9 => h9) rfl dX10_tries_49 ?_
    refine lv_iload_n hx hb dX10_tries_52 rfl (lv_at hl 0 rfl) ?_
    refine zy_ild hx hb hK hX (by omega) dX10_tries_53 ?_
    refine zc_V (As := [.int (zI 246), .int (zI 0), .int (zI (f34 246)), .int (zI (f34 246))]) (rest := []) S hK (kX10_edge l g y sa ta oa f34 gt od hc hs tn 246 (zApp w n x) (n + 1) (by omega) sl2 0 (f34 246) (f34 246) (by omega)) (cwV 4 hts gX10_tries_X10_edge rfl rfl rfl (by decide +kernel) ⟨Nat.le_of_ble_eq_true rfl, Nat.le_of_ble_eq_true rfl⟩) (hX) (hX.recv hK) rfl hl.1 rfl (Nat.le_of_ble_eq_true rfl) dX10_tries_54 ⟨Nat.zero_le _, Nat.zero_le _⟩ (fun r54 hr54 => ?_)
    obtain ⟨z54, rfl, hz54⟩ := hr54
    refine lv_goto (tgt := 115) hx hb dX10_tries_57 (by decide) ?_
    exact zw_i hx hb hr hlocks hS dX10_tries_115 (⟨⟨_, rfl, by unfold zBr; rw [zIf_t (by omega)]; rw [l34] at hz54; exact hz54.1, by omega, by omega⟩, ⟨_, _, _, hX, hm, hgt⟩⟩)

theorem mX10_ifLetter_0 : ∀ w ∈ wsX100, w ∈ wsX10_ifLetter := by decide +kernel
theorem mX10_ifLetter_1 : (Cond.fieldLink RX10 7 "BorderRunsModel" "s" "[I") ∈ wsX10_ifLetter := by decide +kernel
set_option maxHeartbeats 4000000 in
set_option maxRecDepth 100000 in
/-- X10_ifLetter -/
theorem kX10_ifLetter (l : Launch) (g : zG) (y sa ta oa : Nat) (w : Int → Int) (n : Int) (ee : Nat → Int → Int) (en : Nat → Int) (hc : Int) (u : Int → Int) (un hs : Int) (tc : Int → Int) (tn : Int) (x q : Int) (hx0 : -2147483648 ≤ x ∧ x < 2147483648) (hq : -2147483648 ≤ q ∧ q < 2147483648) : Met l yX10_ifLetter wsX10_ifLetter (zRm 7 166) (zP g [.ref y, .int (zI x), .int (zI q)] (AM g y sa ta oa w n ee en hc u un hs tc tn)) (zQi (fun r H => r = zI (aIf w n x q) ∧ AM g y sa ta oa w n ee en hc u un hs tc tn H) (zA4 y sa ta oa)) 0 0 (zA4 y sa ta oa) := by
  refine Met.ofZ (cc := cX10_ifLetter) (maxL := 3) (ret := (some .int)) (by decide) rfl (Nat.le_of_ble_eq_true rfl) ?_
  intro p e s m args below meth c ls hx hb hr hlocks S hin hK hpic hl
  have hown := S.2.2.2.1
  have hts := S.2.2.2.2
  have hl : lv_has ls 3 [(0, .ref y), (1, .int (zI x)), (2, .int (zI q))] := hl
  obtain ⟨f, gt, od, hX, hm, hgt⟩ := hpic
  have hR := hX.rg
  have hsl := hm.1
  have hs0 := hsl.1
  have hn := hsl.2.1
  have hS : va_S (zA4 y sa ta oa) s.heap s.heap [] := va_S.rf
  refine lv_iload_n hx hb dX10_ifLetter_0 rfl (lv_at hl 1 rfl) ?_
  refine zv_iconst hx hb dX10_ifLetter_1 ?_
  refine zv_bipush hx hb dX10_ifLetter_2 (by decide +kernel) ?_
  refine zc_S (As := [.int (zI x), .int (zI 0), .int (zI 25)]) (rest := []) S hK (kX10_in l g x 0 25 (by omega) (by omega) (by omega)) (va_cwS 3 hts gX10_ifLetter_X10_in rfl rfl rfl (by decide +kernel) ⟨Nat.le_of_ble_eq_true rfl, Nat.le_of_ble_eq_true rfl⟩) (trivial) rfl hl.1 rfl (Nat.le_of_ble_eq_true rfl) dX10_ifLetter_4 ⟨Nat.zero_le _, Nat.zero_le _⟩ (fun r4 hr4 => ?_)
  obtain rfl := hr4
  refine zv_ifB_eq (tgt := 19) hx hb dX10_ifLetter_7 (by decide) (fun c7 => ?_) (fun c7 => ?_)
  · refine zv_bipush hx hb dX10_ifLetter_19 (by decide +kernel) ?_
    exact zw_i hx hb hr hlocks hS dX10_ifLetter_21 (⟨by unfold aIf; rw [zIf_f (by omega)], ⟨_, _, _, hX, hm, hgt⟩⟩)
  · refine lv_iload_n hx hb dX10_ifLetter_10 rfl (lv_at hl 2 rfl) ?_
    refine zv_iconst hx hb dX10_ifLetter_11 ?_
    refine zv_iconst hx hb dX10_ifLetter_12 ?_
    refine zc_S (As := [.int (zI q), .int (zI 0), .int (zI 3)]) (rest := []) S hK (kX10_in l g q 0 3 (by omega) (by omega) (by omega)) (va_cwS 3 hts gX10_ifLetter_X10_in rfl rfl rfl (by decide +kernel) ⟨Nat.le_of_ble_eq_true rfl, Nat.le_of_ble_eq_true rfl⟩) (trivial) rfl hl.1 rfl (Nat.le_of_ble_eq_true rfl) dX10_ifLetter_13 ⟨Nat.zero_le _, Nat.zero_le _⟩ (fun r13 hr13 => ?_)
    obtain rfl := hr13
    refine zv_ifB_ne (tgt := 22) hx hb dX10_ifLetter_16 (by decide) (fun c16 => ?_) (fun c16 => ?_)
    · refine lv_aload_n hx hb dX10_ifLetter_22 rfl (lv_at hl 0 rfl) ?_
      refine va_get (D := g.1) (ci := 5) (v := .ref sa) (C := RX10) (T := TX10) (N := 6) hx hb hts mX10_ifLetter_0 hown hK (hX.gy) 0 rfl rfl 0 (by decide) (hts _ mX10_ifLetter_1) (fun _ h9 => h9) rfl dX10_ifLetter_23 ?_
      refine zv_iconst hx hb dX10_ifLetter_26 ?_
      refine zy_ild hx hb hK hX (by omega) dX10_ifLetter_27 ?_
      refine zv_bipush hx hb dX10_ifLetter_28 (by decide +kernel) ?_
      refine zv_icmp_ne (tgt := 38) hx hb dX10_ifLetter_30 (by decide) (by omega) (by omega) (fun c30 => ?_) (fun c30 => ?_)
      · refine lv_aload_n hx hb dX10_ifLetter_38 rfl (lv_at hl 0 rfl) ?_
        refine lv_iload_n hx hb dX10_ifLetter_39 rfl (lv_at hl 1 rfl) ?_
        refine lv_iload_n hx hb dX10_ifLetter_40 rfl (lv_at hl 2 rfl) ?_
        refine zc_VWi (As := [.int (zI x), .int (zI q)]) (rest := []) S hK (kX10_tries l g y sa ta oa w n ee en hc u un hs tc tn x q (by omega) (by omega) (by omega)) (cwV 2 hts gX10_ifLetter_X10_tries rfl rfl rfl (by decide +kernel) ⟨Nat.le_of_ble_eq_true rfl, Nat.le_of_ble_eq_true rfl⟩) (⟨_, _, _, hX, hm, hgt⟩) (hX.recv hK) rfl hl.1 rfl (Nat.le_of_ble_eq_true rfl) dX10_ifLetter_41 ⟨Nat.zero_le _, Nat.zero_le _⟩ hS (fun _ h9 => h9) (fun r41 H1 locs hp hz hk hS => ?_)
        obtain ⟨⟨z41, rfl, hz41⟩, f41, gt41, od41, hX, hm, hgt⟩ := hp
        have hR := hX.rg
        have hsl := hm.1
        have hs0 := hsl.1
        exact zw_i hx hb hr hlocks hS dX10_ifLetter_44 (⟨by unfold aIf; rw [zIf_t (by omega), zIf_f (by omega), ← hz41.1], ⟨_, _, _, hX, hm, hgt⟩⟩)
      · refine zv_bipush hx hb dX10_ifLetter_33 (by decide +kernel) ?_
        refine lv_goto (tgt := 44) hx hb dX10_ifLetter_35 (by decide) ?_
        exact zw_i hx hb hr hlocks hS dX10_ifLetter_44 (⟨by unfold aIf; rw [zIf_t (by omega), zIf_t (by omega)], ⟨_, _, _, hX, hm, hgt⟩⟩)
    · refine zv_bipush hx hb dX10_ifLetter_19 (by decide +kernel) ?_
      exact zw_i hx hb hr hlocks hS dX10_ifLetter_21 (⟨by unfold aIf; rw [zIf_f (by omega)], ⟨_, _, _, hX, hm, hgt⟩⟩)

theorem mX10_bestLetter_0 : ∀ w ∈ wsX100, w ∈ wsX10_bestLetter := by decide +kernel
theorem mX10_bestLetter_1 : (Cond.fieldLink RX10 7 "BorderRunsModel" "s" "[I") ∈ wsX10_bestLetter := by decide +kernel
set_option maxHeartbeats 4000000 in
set_option maxRecDepth 100000 in
/-- X10_bestLetter -/
theorem kX10_bestLetter (l : Launch) (g : zG) (y sa ta oa : Nat) (w : Int → Int) (n : Int) (ee : Nat → Int → Int) (en : Nat → Int) (hc : Int) (u : Int → Int) (un hs : Int) (tc : Int → Int) (tn : Int) (q : Int) (hq : -2147483648 ≤ q ∧ q < 2147483648) : Met l yX10_bestLetter wsX10_bestLetter (zRm 7 166) (zP g [.ref y, .int (zI q)] (AM g y sa ta oa w n ee en hc u un hs tc tn)) (zQi (fun r H => r = zI (aBest w n q) ∧ AM g y sa ta oa w n ee en hc u un hs tc tn H) (zA4 y sa ta oa)) 0 0 (zA4 y sa ta oa) := by
  refine Met.ofZ (cc := cX10_bestLetter) (maxL := 6) (ret := (some .int)) (by decide) rfl (Nat.le_of_ble_eq_true rfl) ?_
  intro p e s m args below meth c ls hx hb hr hlocks S hin hK hpic hl
  have hown := S.2.2.2.1
  have hts := S.2.2.2.2
  have hl : lv_has ls 6 [(0, .ref y), (1, .int (zI q))] := hl
  obtain ⟨f, gt, od, hX, hm, hgt⟩ := hpic
  have hR := hX.rg
  have hsl := hm.1
  have hs0 := hsl.1
  have hn := hsl.2.1
  have hS : va_S (zA4 y sa ta oa) s.heap s.heap [] := va_S.rf
  refine lv_iload_n hx hb dX10_bestLetter_0 rfl (lv_at hl 1 rfl) ?_
  refine zv_iconst hx hb dX10_bestLetter_1 ?_
  refine zv_iconst hx hb dX10_bestLetter_2 ?_
  refine zc_S (As := [.int (zI q), .int (zI 0), .int (zI 3)]) (rest := []) S hK (kX10_in l g q 0 3 (by omega) (by omega) (by omega)) (va_cwS 3 hts gX10_bestLetter_X10_in rfl rfl rfl (by decide +kernel) ⟨Nat.le_of_ble_eq_true rfl, Nat.le_of_ble_eq_true rfl⟩) (trivial) rfl hl.1 rfl (Nat.le_of_ble_eq_true rfl) dX10_bestLetter_3 ⟨Nat.zero_le _, Nat.zero_le _⟩ (fun r3 hr3 => ?_)
  obtain rfl := hr3
  refine zv_ifB_ne (tgt := 12) hx hb dX10_bestLetter_6 (by decide) (fun c6 => ?_) (fun c6 => ?_)
  · refine lv_aload_n hx hb dX10_bestLetter_12 rfl (lv_at hl 0 rfl) ?_
    refine va_get (D := g.1) (ci := 5) (v := .ref sa) (C := RX10) (T := TX10) (N := 6) hx hb hts mX10_bestLetter_0 hown hK (hX.gy) 0 rfl rfl 0 (by decide) (hts _ mX10_bestLetter_1) (fun _ h9 => h9) rfl dX10_bestLetter_13 ?_
    refine zv_iconst hx hb dX10_bestLetter_16 ?_
    refine zy_ild hx hb hK hX (by omega) dX10_bestLetter_17 ?_
    refine zv_bipush hx hb dX10_bestLetter_18 (by decide +kernel) ?_
    refine zv_icmp_ne (tgt := 26) hx hb dX10_bestLetter_20 (by decide) (by omega) (by omega) (fun c20 => ?_) (fun c20 => ?_)
    · refine zv_iconst hx hb dX10_bestLetter_26 ?_
      refine lv_istore_n (lv' := [(2, .int (zI 0)), (0, .ref y), (1, .int (zI q))]) hx hb dX10_bestLetter_27 rfl hl (by decide) rfl (fun ls hl => ?_)
      refine zv_iconst hx hb dX10_bestLetter_28 ?_
      refine lv_istore_n (lv' := [(3, .int (zI (-1))), (2, .int (zI 0)), (0, .ref y), (1, .int (zI q))]) hx hb dX10_bestLetter_29 rfl hl (by decide) rfl (fun ls hl => ?_)
      refine zv_iconst hx hb dX10_bestLetter_30 ?_
      refine lv_istore (lv' := [(4, .int (zI 0)), (3, .int (zI (-1))), (2, .int (zI 0)), (0, .ref y), (1, .int (zI q))]) hx hb dX10_bestLetter_31 hl (by decide) rfl (fun ls hl => ?_)
      have lp33 : ∀ (z_f : Nat) (b : Int) (o : Int) (k : Int) (f1 : Int → Int) (gt1 : Int → Int) (od1 : Int → Int) (H1 : Heap) (locs : List Loc), (0 ≤ k ∧ k ≤ 26 ∧ 0 ≤ b ∧ b ≤ k ∧ -1 ≤ o ∧ o ≤ 3000) → ((k = 0 ∧ o = -1) ∨ (1 ≤ k ∧ b = zBst (fun x => zBr w n x q) k ∧ o = zBr w n b q)) → (RM g y sa ta oa f1 gt1 od1 hc hs tn H1) → (MF f1 w n ee en hc u un hs) → (∀ k, 0 ≤ k → k < tn → gt1 k = tc k) → (va_S (zA4 y sa ta oa) s.heap H1 locs) → ((26 - k).toNat) < z_f → ∀ (ls : Array Slot), lv_has ls 6 [(0, .ref y), (1, .int (zI q)), (2, .int (zI b)), (3, .int (zI o)), (4, .int (zI k))] → W p l e (zRm 7 166) s m args below meth c H1 locs 0 0 (MQ below (zQi (fun r H => r = zI (aBest w n q) ∧ AM g y sa ta oa w n ee en hc u un hs tc tn H) (zA4 y sa ta oa)) args s 0 0 (zA4 y sa ta oa)) (F0 m 33 ls []) := by
        intro z_f
        induction z_f with
        | zero => intro b o k f1 gt1 od1 H1 locs h0 h1 hX hm hgt hS z_m; exact absurd z_m (Nat.not_lt_zero _)
        | succ z_f ih33 =>
          intro b o k f1 gt1 od1 H1 locs h0 h1 hX hm hgt hS z_m33 ls hl
          refine lv_iload hx hb dX10_bestLetter_33 (lv_at hl 4 rfl) ?_
          refine zv_bipush hx hb dX10_bestLetter_35 (by decide +kernel) ?_
          refine zv_icmp_ge (tgt := 81) hx hb dX10_bestLetter_37 (by decide) (by omega) (by omega) (fun c37 => ?_) (fun c37 => ?_)
          · have e9 : b = zBst (fun x => zBr w n x q) 26 := (h1.resolve_left (by omega)).2.1.trans (by rw [show k = 26 by omega])
            refine lv_iload_n hx hb dX10_bestLetter_81 rfl (lv_at hl 2 rfl) ?_
            exact zw_i hx hb hr hlocks hS dX10_bestLetter_82 (⟨by unfold aBest; rw [zIf_t (by omega), zIf_f (by omega), ← e9], ⟨_, _, _, hX, hm, hgt⟩⟩)
          · refine lv_aload_n hx hb dX10_bestLetter_40 rfl (lv_at hl 0 rfl) ?_
            refine lv_iload hx hb dX10_bestLetter_41 (lv_at hl 4 rfl) ?_
            refine lv_iload_n hx hb dX10_bestLetter_43 rfl (lv_at hl 1 rfl) ?_
            refine zc_VWi (As := [.int (zI k), .int (zI q)]) (rest := []) S hK (kX10_tries l g y sa ta oa w n ee en hc u un hs tc tn k q (by omega) (by omega) (by omega)) (cwV 2 hts gX10_bestLetter_X10_tries rfl rfl rfl (by decide +kernel) ⟨Nat.le_of_ble_eq_true rfl, Nat.le_of_ble_eq_true rfl⟩) (⟨_, _, _, hX, hm, hgt⟩) (hX.recv hK) rfl hl.1 rfl (Nat.le_of_ble_eq_true rfl) dX10_bestLetter_44 ⟨Nat.zero_le _, Nat.zero_le _⟩ hS (fun _ h9 => h9) (fun r44 H1 locs hp hz hk hS => ?_)
            obtain ⟨⟨z44, rfl, hz44⟩, f44, gt44, od44, hX, hm, hgt⟩ := hp
            have hR := hX.rg
            have hsl := hm.1
            have hs0 := hsl.1
            refine lv_istore (lv' := [(5, .int (zI z44)), (0, .ref y), (1, .int (zI q)), (2, .int (zI b)), (3, .int (zI o)), (4, .int (zI k))]) hx hb dX10_bestLetter_47 hl (by decide) rfl (fun ls hl => ?_)
            refine lv_iload hx hb dX10_bestLetter_49 (lv_at hl 0 rfl) ?_
            refine lv_iload_n hx hb dX10_bestLetter_51 rfl (lv_at hl 4 rfl) ?_
            refine zv_icmp_le (tgt := 60) hx hb dX10_bestLetter_52 (by decide) (by omega) (by omega) (fun c52 => ?_) (fun c52 => ?_)
            · have g52 : ¬ o < z44 := by omega
              refine lv_iload_n hx hb dX10_bestLetter_60 rfl (lv_at hl 3 rfl) ?_
              refine lv_istore_n (lv' := [(2, .int (zI b)), (5, .int (zI z44)), (0, .ref y), (1, .int (zI q)), (3, .int (zI o)), (4, .int (zI k))]) hx hb dX10_bestLetter_61 rfl hl (by decide) rfl (fun ls hl => ?_)
              refine lv_iload hx hb dX10_bestLetter_62 (lv_at hl 1 rfl) ?_
              refine lv_iload_n hx hb dX10_bestLetter_64 rfl (lv_at hl 4 rfl) ?_
              refine zv_icmp_le (tgt := 73) hx hb dX10_bestLetter_65 (by decide) (by omega) (by omega) (fun c65 => ?_) (fun c65 => ?_)
              · refine lv_iload_n hx hb dX10_bestLetter_73 rfl (lv_at hl 4 rfl) ?_
                refine lv_istore_n (lv' := [(3, .int (zI o)), (2, .int (zI b)), (5, .int (zI z44)), (0, .ref y), (1, .int (zI q)), (4, .int (zI k))]) hx hb dX10_bestLetter_74 rfl hl (by decide) rfl (fun ls hl => ?_)
                refine zv_iinc (lv' := [(4, .int (zI (k + 1))), (3, .int (zI o)), (2, .int (zI b)), (5, .int (zI z44)), (0, .ref y), (1, .int (zI q))]) hx hb dX10_bestLetter_75 hl (k := 5) rfl (by decide) rfl (fun ls hl => ?_)
                refine lv_goto (tgt := 33) hx hb dX10_bestLetter_78 (by decide) ?_
                exact ih33 b o (k + 1) f44 gt44 od44 _ _ (by omega) (zBl_f (f := (fun x => zBr w n x q)) h0.1 hz44.1 (by omega) (by omega) h1) (hX) (hm) (hgt) (hS) (by omega) _ (lv_sub hl [4, 5, 2, 1, 0] rfl)
              · exfalso; omega
            · have g52 : o < z44 := by omega
              refine lv_iload hx hb dX10_bestLetter_55 (lv_at hl 5 rfl) ?_
              refine lv_goto (tgt := 61) hx hb dX10_bestLetter_57 (by decide) ?_
              refine lv_istore_n (lv' := [(2, .int (zI k)), (5, .int (zI z44)), (0, .ref y), (1, .int (zI q)), (3, .int (zI o)), (4, .int (zI k))]) hx hb dX10_bestLetter_61 rfl hl (by decide) rfl (fun ls hl => ?_)
              refine lv_iload hx hb dX10_bestLetter_62 (lv_at hl 1 rfl) ?_
              refine lv_iload_n hx hb dX10_bestLetter_64 rfl (lv_at hl 4 rfl) ?_
              refine zv_icmp_le (tgt := 73) hx hb dX10_bestLetter_65 (by decide) (by omega) (by omega) (fun c65 => ?_) (fun c65 => ?_)
              · exfalso; omega
              · refine lv_iload hx hb dX10_bestLetter_68 (lv_at hl 1 rfl) ?_
                refine lv_goto (tgt := 74) hx hb dX10_bestLetter_70 (by decide) ?_
                refine lv_istore_n (lv' := [(3, .int (zI z44)), (2, .int (zI k)), (5, .int (zI z44)), (0, .ref y), (1, .int (zI q)), (4, .int (zI k))]) hx hb dX10_bestLetter_74 rfl hl (by decide) rfl (fun ls hl => ?_)
                refine zv_iinc (lv' := [(4, .int (zI (k + 1))), (3, .int (zI z44)), (2, .int (zI k)), (5, .int (zI z44)), (0, .ref y), (1, .int (zI q))]) hx hb dX10_bestLetter_75 hl (k := 5) rfl (by decide) rfl (fun ls hl => ?_)
                refine lv_goto (tgt := 33) hx hb dX10_bestLetter_78 (by decide) ?_
                exact ih33 k z44 (k + 1) f44 gt44 od44 _ _ (by omega) (zBl_t (f := (fun x => zBr w n x q)) h0.1 (hz44.1) (by omega) (by omega) h1) (hX) (hm) (hgt) (hS) (by omega) _ (lv_sub hl [4, 5, 2, 1, 0] rfl)
      exact lp33 _ 0 (-1) 0 f gt od _ _ (by omega) (Or.inl ⟨rfl, rfl⟩) (hX) (hm) (hgt) (hS) (Nat.lt_succ_self _) _ (lv_sub hl [3, 4, 2, 1, 0] rfl)
    · refine zv_bipush hx hb dX10_bestLetter_23 (by decide +kernel) ?_
      exact zw_i hx hb hr hlocks hS dX10_bestLetter_25 (⟨by unfold aBest; rw [zIf_t (by omega), zIf_t (by omega)], ⟨_, _, _, hX, hm, hgt⟩⟩)
  · refine zv_bipush hx hb dX10_bestLetter_9 (by decide +kernel) ?_
    exact zw_i hx hb hr hlocks hS dX10_bestLetter_11 (⟨by unfold aBest; rw [zIf_f (by omega)], ⟨_, _, _, hX, hm, hgt⟩⟩)

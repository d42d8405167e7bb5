theorem mX10_ends_0 : ∀ w ∈ wsX100, w ∈ wsX10_ends := by decide +kernel
theorem mX10_ends_1 : (Cond.fieldLink RX10 7 "BorderRunsModel" "s" "[I") ∈ wsX10_ends := by decide +kernel
set_option maxHeartbeats 4000000 in
set_option maxRecDepth 100000 in
/-- X10_ends -/
theorem kX10_ends (l : Launch) (g : zG) (y sa ta oa : Nat) (f gt od : Int → Int) (sv ik tp : Int) (b : Int) (w : Int → Int) (n : Int) (hb0 : 0 ≤ b ∧ b ≤ 246) (hs : SL f b w n) (i j : Int) (hi : 0 ≤ i ∧ i < j ∧ j ≤ n) : Met l yX10_ends wsX10_ends (zRm 2 47) (zP g [.ref y, .int (zI b), .int (zI i), .int (zI j)] (RM g y sa ta oa f gt od sv ik tp)) (vp_Sl (fun r => zBt r (zEn w n i (j - i)))) 0 0 (fun _ => False) := by
  refine Met.ofZ (cc := cX10_ends) (maxL := 8) (ret := (some .long)) (by decide) rfl (Nat.le_of_ble_eq_true rfl) ?_
  intro p e s m args below meth c ls hx hb hr hlocks S hin hK hpic hl
  have hown := S.2.2.2.1
  have hts := S.2.2.2.2
  have hl : lv_has ls 8 [(0, .ref y), (1, .int (zI b)), (2, .int (zI i)), (3, .int (zI j))] := hl
  obtain ⟨F, G, O, hP, hF, hG, hO, hdis, hrg⟩ := id hpic
  have hn := hs.2.1
  refine lv_lconst (v := 0) hx hb dX10_ends_0 (by decide) ?_
  refine lv_lstore (lv' := [(4, .long 0), (0, .ref y), (1, .int (zI b)), (2, .int (zI i)), (3, .int (zI j))]) hx hb dX10_ends_1 hl (by decide) rfl (fun ls hl => ?_)
  refine lv_iload_n hx hb dX10_ends_3 rfl (lv_at hl 4 rfl) ?_
  refine lv_iload_n hx hb dX10_ends_4 rfl (lv_at hl 3 rfl) ?_
  refine zv_isub hx hb dX10_ends_5 ?_
  refine lv_istore (lv' := [(6, .int (zI (j - i))), (4, .long 0), (0, .ref y), (1, .int (zI b)), (2, .int (zI i)), (3, .int (zI j))]) hx hb dX10_ends_6 hl (by decide) rfl (fun ls hl => ?_)
  refine lv_iload hx hb dX10_ends_8 (lv_at hl 0 rfl) ?_
  refine lv_istore (lv' := [(7, .int (zI (j - i))), (6, .int (zI (j - i))), (4, .long 0), (0, .ref y), (1, .int (zI b)), (2, .int (zI i)), (3, .int (zI j))]) hx hb dX10_ends_10 hl (by decide) rfl (fun ls hl => ?_)
  have lp12 : ∀ (z_f : Nat) (X : Int64) (q : Int), (j - i ≤ q ∧ q ≤ n + 1) → (zBt X (fun z => zEn w n i (j - i) z ∧ z < q)) → ((n + 1 - q).toNat) < z_f → ∀ (ls : Array Slot), lv_has ls 8 [(0, .ref y), (1, .int (zI b)), (2, .int (zI i)), (3, .int (zI j)), (4, .long X), (6, .int (zI (j - i))), (7, .int (zI q))] → W p l e (zRm 2 47) s m args below meth c s.heap [] 0 0 (MQ below (vp_Sl (fun r => zBt r (zEn w n i (j - i)))) args s 0 0 (fun _ => False)) (F0 m 12 ls []) := by
    intro z_f
    induction z_f with
    | zero => intro X q h0 h1 z_m; exact absurd z_m (Nat.not_lt_zero _)
    | succ z_f ih12 =>
      intro X q h0 h1 z_m12 ls hl
      refine lv_iload hx hb dX10_ends_12 (lv_at hl 6 rfl) ?_
      refine lv_aload_n hx hb dX10_ends_14 rfl (lv_at hl 0 rfl) ?_
      refine va_get (D := g.1) (ci := 5) (v := .ref sa) (C := RX10) (T := TX10) (N := 6) hx hb hts mX10_ends_0 hown hK hP 0 rfl rfl 0 (by decide) (hts _ mX10_ends_1) (fun _ h9 => h9) rfl dX10_ends_15 ?_
      refine lv_iload_n hx hb dX10_ends_18 rfl (lv_at hl 1 rfl) ?_
      refine va_iald (D := g.1) hx hb hK hP 1 0 rfl rfl (zI_in (by omega) (by decide)) dX10_ends_19 ?_
      rw [zI_cl (by omega)]
      rw [(hF b (by omega) (by omega)).1.trans (congrArg zI hs.1)]
      refine zv_icmp_gt (tgt := 58) hx hb dX10_ends_20 (by decide) (by omega) (by omega) (fun c20 => ?_) (fun c20 => ?_)
      · refine lv_lload hx hb dX10_ends_58 (lv_at hl 4 rfl) ?_
        exact zr_l hx hb hr hlocks dX10_ends_60 (zBt_congr h1 (fun z a1 a2 => ⟨fun v => v.1, fun v => ⟨v, by have := v.2.1; omega⟩⟩))
      · refine lv_lload hx hb dX10_ends_23 (lv_at hl 4 rfl) ?_
        refine lv_aload_n hx hb dX10_ends_25 rfl (lv_at hl 0 rfl) ?_
        refine lv_iload_n hx hb dX10_ends_26 rfl (lv_at hl 1 rfl) ?_
        refine lv_iload_n hx hb dX10_ends_27 rfl (lv_at hl 2 rfl) ?_
        refine lv_iload hx hb dX10_ends_28 (lv_at hl 6 rfl) ?_
        refine lv_iload hx hb dX10_ends_30 (lv_at hl 5 rfl) ?_
        refine zv_isub hx hb dX10_ends_32 ?_
        refine lv_iload hx hb dX10_ends_33 (lv_at hl 5 rfl) ?_
        refine zc_V (As := [.int (zI b), .int (zI i), .int (zI (q - (j - i))), .int (zI (j - i))]) (rest := [.long X]) S hK (kX10_areSame l g y sa ta oa f gt od sv ik tp b w n hb0 hs i (q - (j - i)) (j - i) (by omega)) (cwV 4 hts gX10_ends_X10_areSame rfl rfl rfl (by decide +kernel) ⟨Nat.le_of_ble_eq_true rfl, Nat.le_of_ble_eq_true rfl⟩) (hpic) (hpic.recv hK) rfl hl.1 rfl (Nat.le_of_ble_eq_true rfl) dX10_ends_35 ⟨Nat.zero_le _, Nat.zero_le _⟩ (fun r35 hr35 => ?_)
        obtain rfl := hr35
        refine zv_ifB_eq (tgt := 48) hx hb dX10_ends_38 (by decide) (fun c38 => ?_) (fun c38 => ?_)
        · refine lv_lconst (v := 0) hx hb dX10_ends_48 (by decide) ?_
          refine lv_lor hx hb dX10_ends_49 ?_
          refine lv_lstore (lv' := [(4, .long (X ||| 0)), (0, .ref y), (1, .int (zI b)), (2, .int (zI i)), (3, .int (zI j)), (6, .int (zI (j - i))), (7, .int (zI q))]) hx hb dX10_ends_50 hl (by decide) rfl (fun ls hl => ?_)
          refine zv_iinc (lv' := [(7, .int (zI (q + 1))), (4, .long (X ||| 0)), (0, .ref y), (1, .int (zI b)), (2, .int (zI i)), (3, .int (zI j)), (6, .int (zI (j - i)))]) hx hb dX10_ends_52 hl (k := 6) rfl (by decide) rfl (fun ls hl => ?_)
          refine lv_goto (tgt := 12) hx hb dX10_ends_55 (by decide) ?_
          exact ih12 (X ||| 0) (q + 1) (by omega) (zBt_congr (zBt_or h1 zBt_0) (fun z a1 a2 => ⟨fun v => v.elim (fun v => ⟨v.1, by omega⟩) (fun v => v.elim), fun v => Or.inl ⟨v.1, by rcases (show z < q ∨ z = q by omega) with v2 | v2; exact v2; (exact absurd (by rw [v2] at v; exact v.1.2.2) c38)⟩⟩)) (by omega) _ (lv_sub hl [2, 3, 4, 5, 1, 6, 0] rfl)
        · refine lv_lconst (v := 1) hx hb dX10_ends_41 (by decide) ?_
          refine lv_iload hx hb dX10_ends_42 (lv_at hl 6 rfl) ?_
          refine lv_lshl (v := (1 : Int64) <<< ((zI q).toInt64 &&& 63)) hx hb dX10_ends_44 rfl ?_
          refine lv_goto (tgt := 49) hx hb dX10_ends_45 (by decide) ?_
          refine lv_lor hx hb dX10_ends_49 ?_
          refine lv_lstore (lv' := [(4, .long (X ||| ((1 : Int64) <<< ((zI q).toInt64 &&& 63)))), (0, .ref y), (1, .int (zI b)), (2, .int (zI i)), (3, .int (zI j)), (6, .int (zI (j - i))), (7, .int (zI q))]) hx hb dX10_ends_50 hl (by decide) rfl (fun ls hl => ?_)
          refine zv_iinc (lv' := [(7, .int (zI (q + 1))), (4, .long (X ||| ((1 : Int64) <<< ((zI q).toInt64 &&& 63)))), (0, .ref y), (1, .int (zI b)), (2, .int (zI i)), (3, .int (zI j)), (6, .int (zI (j - i)))]) hx hb dX10_ends_52 hl (k := 6) rfl (by decide) rfl (fun ls hl => ?_)
          refine lv_goto (tgt := 12) hx hb dX10_ends_55 (by decide) ?_
          exact ih12 (X ||| ((1 : Int64) <<< ((zI q).toInt64 &&& 63))) (q + 1) (by omega) (zBt_congr (zBt_or h1 (zBt_one (by omega))) (fun z a1 a2 => ⟨fun v => v.elim (fun v => ⟨v.1, by omega⟩) (fun v => by rw [v]; exact ⟨⟨by omega, by omega, c38⟩, by omega⟩), fun v => (show z < q ∨ z = q by omega).elim (fun v2 => Or.inl ⟨v.1, v2⟩) (fun v2 => Or.inr v2)⟩)) (by omega) _ (lv_sub hl [2, 3, 4, 5, 1, 6, 0] rfl)
  exact lp12 _ 0 (j - i) (by omega) (zBt_congr zBt_0 (fun z a1 a2 => ⟨fun v => v.elim, fun v => by have := v.1.1; omega⟩)) (Nat.lt_succ_self _) _ (lv_sub hl [3, 4, 5, 6, 2, 1, 0] rfl)

set_option maxHeartbeats 4000000 in
set_option maxRecDepth 100000 in
/-- X10_longest -/
theorem kX10_longest (l : Launch) (g : zG) (y sa ta oa : Nat) (f gt od : Int → Int) (sv ik tp : Int) (w : Int → Int) (n : Int) (hs : SL f 0 w n) (i j : Int) (hi : 0 ≤ i ∧ i < j ∧ j ≤ n) : Met l yX10_longest wsX10_longest (zRm 3 74) (zP g [.ref y, .int (zI i), .int (zI j)] (RM g y sa ta oa f gt od sv ik tp)) (vp_Si (fun r => ∃ z : Int, r = zI z ∧ z = zLC w n j (j - i) ∧ 0 ≤ z ∧ z ≤ 40)) 0 0 (fun _ => False) := by
  refine Met.ofZ (cc := cX10_longest) (maxL := 6) (ret := (some .int)) (by decide) rfl (Nat.le_of_ble_eq_true rfl) ?_
  intro p e s m args below meth c ls hx hb hr hlocks S hin hK hpic hl
  have hown := S.2.2.2.1
  have hts := S.2.2.2.2
  have hl : lv_has ls 6 [(0, .ref y), (1, .int (zI i)), (2, .int (zI j))] := hl
  obtain ⟨F, G, O, hP, hF, hG, hO, hdis, hrg⟩ := id hpic
  have hn := hs.2.1
  refine lv_aload_n hx hb dX10_longest_0 rfl (lv_at hl 0 rfl) ?_
  refine zv_iconst hx hb dX10_longest_1 ?_
  refine lv_iload_n hx hb dX10_longest_2 rfl (lv_at hl 1 rfl) ?_
  refine lv_iload_n hx hb dX10_longest_3 rfl (lv_at hl 2 rfl) ?_
  refine zc_VL (As := [.int (zI 0), .int (zI i), .int (zI j)]) (rest := []) S hK (kX10_ends l g y sa ta oa f gt od sv ik tp 0 w n (by omega) hs i j (by omega)) (cwV 3 hts gX10_longest_X10_ends rfl rfl rfl (by decide +kernel) ⟨Nat.le_of_ble_eq_true rfl, Nat.le_of_ble_eq_true rfl⟩) (hpic) (hpic.recv hK) rfl hl.1 rfl (Nat.le_of_ble_eq_true rfl) dX10_longest_4 ⟨Nat.zero_le _, Nat.zero_le _⟩ (fun r4 hr4 => ?_)
  refine lv_lstore_n (lv' := [(3, .long r4), (0, .ref y), (1, .int (zI i)), (2, .int (zI j))]) hx hb dX10_longest_7 rfl hl (by decide) rfl (fun ls hl => ?_)
  refine lv_iload_n hx hb dX10_longest_8 rfl (lv_at hl 2 rfl) ?_
  refine lv_istore (lv' := [(5, .int (zI i)), (3, .long r4), (0, .ref y), (1, .int (zI i)), (2, .int (zI j))]) hx hb dX10_longest_9 hl (by decide) rfl (fun ls hl => ?_)
  have lp11 : ∀ (z_f : Nat) (x : Int), (0 ≤ x ∧ x ≤ i) → (∀ k, 0 ≤ k → k < 64 → (zEn w n x (j - x) k ↔ zEn w n i (j - i) k)) → (x.toNat) < z_f → ∀ (ls : Array Slot), lv_has ls 6 [(0, .ref y), (1, .int (zI i)), (2, .int (zI j)), (3, .long r4), (5, .int (zI x))] → W p l e (zRm 3 74) s m args below meth c s.heap [] 0 0 (MQ below (vp_Si (fun r => ∃ z : Int, r = zI z ∧ z = zLC w n j (j - i) ∧ 0 ≤ z ∧ z ≤ 40)) args s 0 0 (fun _ => False)) (F0 m 11 ls []) := by
    intro z_f
    induction z_f with
    | zero => intro x h0 h1 z_m; exact absurd z_m (Nat.not_lt_zero _)
    | succ z_f ih11 =>
      intro x h0 h1 z_m11 ls hl
      refine lv_iload hx hb dX10_longest_11 (lv_at hl 4 rfl) ?_
      refine zv_if_le (tgt := 37) hx hb dX10_longest_13 (by decide) (by omega) (fun c13 => ?_) (fun c13 => ?_)
      · have e9 : zLC w n j (j - i) = j - x := zEn_LC (by omega) h1 (by omega) (Or.inl (by omega)) (by omega)
        refine lv_iload_n hx hb dX10_longest_37 rfl (lv_at hl 2 rfl) ?_
        refine lv_iload hx hb dX10_longest_38 (lv_at hl 4 rfl) ?_
        refine zv_isub hx hb dX10_longest_40 ?_
        exact zr_i hx hb hr hlocks dX10_longest_41 (⟨_, rfl, e9.symm, by omega, by omega⟩)
      · refine lv_aload_n hx hb dX10_longest_16 rfl (lv_at hl 0 rfl) ?_
        refine zv_iconst hx hb dX10_longest_17 ?_
        refine lv_iload hx hb dX10_longest_18 (lv_at hl 4 rfl) ?_
        refine zv_iconst hx hb dX10_longest_20 ?_
        refine zv_isub hx hb dX10_longest_21 ?_
        refine lv_iload_n hx hb dX10_longest_22 rfl (lv_at hl 2 rfl) ?_
        refine zc_VL (As := [.int (zI 0), .int (zI (x - 1)), .int (zI j)]) (rest := []) S hK (kX10_ends l g y sa ta oa f gt od sv ik tp 0 w n (by omega) hs (x - 1) j (by omega)) (cwV 3 hts gX10_longest_X10_ends rfl rfl rfl (by decide +kernel) ⟨Nat.le_of_ble_eq_true rfl, Nat.le_of_ble_eq_true rfl⟩) (hpic) (hpic.recv hK) rfl hl.1 rfl (Nat.le_of_ble_eq_true rfl) dX10_longest_23 ⟨Nat.zero_le _, Nat.zero_le _⟩ (fun r23 hr23 => ?_)
        refine lv_lload_n hx hb dX10_longest_26 rfl (lv_at hl 3 rfl) ?_
        refine zv_lcmp hx hb dX10_longest_27 (fun z27 hz27 hw27 => ?_)
        refine zv_if_ne (tgt := 37) hx hb dX10_longest_28 (by decide) (by omega) (fun c28 => ?_) (fun c28 => ?_)
        · have e9 : zLC w n j (j - i) = j - x := zEn_LC (by omega) h1 (by omega) (Or.inr (fun q => c28 (hw27.mpr ((zBt_ext hr23 hr4).mpr q)))) (by omega)
          refine lv_iload_n hx hb dX10_longest_37 rfl (lv_at hl 2 rfl) ?_
          refine lv_iload hx hb dX10_longest_38 (lv_at hl 4 rfl) ?_
          refine zv_isub hx hb dX10_longest_40 ?_
          exact zr_i hx hb hr hlocks dX10_longest_41 (⟨_, rfl, e9.symm, by omega, by omega⟩)
        · refine zv_iinc (lv' := [(5, .int (zI (x + (-1)))), (0, .ref y), (1, .int (zI i)), (2, .int (zI j)), (3, .long r4)]) hx hb dX10_longest_31 hl (k := 4) rfl (by decide) rfl (fun ls hl => ?_)
          refine lv_goto (tgt := 11) hx hb dX10_longest_34 (by decide) ?_
          exact ih11 (x + (-1)) (by omega) (by rw [show x + (-1) = x - 1 by omega]; exact (zBt_ext hr23 hr4).mp (hw27.mp (by omega))) (by omega) _ (lv_sub hl [1, 2, 3, 4, 0] rfl)
  exact lp11 _ i (by omega) (fun k _ _ => Iff.rfl) (Nat.lt_succ_self _) _ (lv_sub hl [2, 3, 4, 1, 0] rfl)

set_option maxHeartbeats 4000000 in
set_option maxRecDepth 100000 in
/-- X10_shortest -/
theorem kX10_shortest (l : Launch) (g : zG) (y sa ta oa : Nat) (f gt od : Int → Int) (sv ik tp : Int) (w : Int → Int) (n : Int) (hs : SL f 0 w n) (i j : Int) (hi : 0 ≤ i ∧ i < j ∧ j ≤ n) : Met l yX10_shortest wsX10_shortest (zRm 3 74) (zP g [.ref y, .int (zI i), .int (zI j)] (RM g y sa ta oa f gt od sv ik tp)) (vp_Si (fun r => ∃ z : Int, r = zI z ∧ z = zLL w n j (j - i) + 1 ∧ 0 ≤ z ∧ z ≤ 40)) 0 0 (fun _ => False) := by
  refine Met.ofZ (cc := cX10_shortest) (maxL := 6) (ret := (some .int)) (by decide) rfl (Nat.le_of_ble_eq_true rfl) ?_
  intro p e s m args below meth c ls hx hb hr hlocks S hin hK hpic hl
  have hown := S.2.2.2.1
  have hts := S.2.2.2.2
  have hl : lv_has ls 6 [(0, .ref y), (1, .int (zI i)), (2, .int (zI j))] := hl
  obtain ⟨F, G, O, hP, hF, hG, hO, hdis, hrg⟩ := id hpic
  have hn := hs.2.1
  refine lv_aload_n hx hb dX10_shortest_0 rfl (lv_at hl 0 rfl) ?_
  refine zv_iconst hx hb dX10_shortest_1 ?_
  refine lv_iload_n hx hb dX10_shortest_2 rfl (lv_at hl 1 rfl) ?_
  refine lv_iload_n hx hb dX10_shortest_3 rfl (lv_at hl 2 rfl) ?_
  refine zc_VL (As := [.int (zI 0), .int (zI i), .int (zI j)]) (rest := []) S hK (kX10_ends l g y sa ta oa f gt od sv ik tp 0 w n (by omega) hs i j (by omega)) (cwV 3 hts gX10_shortest_X10_ends rfl rfl rfl (by decide +kernel) ⟨Nat.le_of_ble_eq_true rfl, Nat.le_of_ble_eq_true rfl⟩) (hpic) (hpic.recv hK) rfl hl.1 rfl (Nat.le_of_ble_eq_true rfl) dX10_shortest_4 ⟨Nat.zero_le _, Nat.zero_le _⟩ (fun r4 hr4 => ?_)
  refine lv_lstore_n (lv' := [(3, .long r4), (0, .ref y), (1, .int (zI i)), (2, .int (zI j))]) hx hb dX10_shortest_7 rfl hl (by decide) rfl (fun ls hl => ?_)
  refine lv_iload_n hx hb dX10_shortest_8 rfl (lv_at hl 2 rfl) ?_
  refine lv_istore (lv' := [(5, .int (zI i)), (3, .long r4), (0, .ref y), (1, .int (zI i)), (2, .int (zI j))]) hx hb dX10_shortest_9 hl (by decide) rfl (fun ls hl => ?_)
  have lp11 : ∀ (z_f : Nat) (x : Int), (i ≤ x ∧ x < j) → (∀ k, 0 ≤ k → k < 64 → (zEn w n x (j - x) k ↔ zEn w n i (j - i) k)) → ((j - x).toNat) < z_f → ∀ (ls : Array Slot), lv_has ls 6 [(0, .ref y), (1, .int (zI i)), (2, .int (zI j)), (3, .long r4), (5, .int (zI x))] → W p l e (zRm 3 74) s m args below meth c s.heap [] 0 0 (MQ below (vp_Si (fun r => ∃ z : Int, r = zI z ∧ z = zLL w n j (j - i) + 1 ∧ 0 ≤ z ∧ z ≤ 40)) args s 0 0 (fun _ => False)) (F0 m 11 ls []) := by
    intro z_f
    induction z_f with
    | zero => intro x h0 h1 z_m; exact absurd z_m (Nat.not_lt_zero _)
    | succ z_f ih11 =>
      intro x h0 h1 z_m11 ls hl
      refine lv_iload hx hb dX10_shortest_11 (lv_at hl 4 rfl) ?_
      refine zv_iconst hx hb dX10_shortest_13 ?_
      refine zv_iadd hx hb dX10_shortest_14 ?_
      refine lv_iload_n hx hb dX10_shortest_15 rfl (lv_at hl 2 rfl) ?_
      refine zv_icmp_ge (tgt := 40) hx hb dX10_shortest_16 (by decide) (by omega) (by omega) (fun c16 => ?_) (fun c16 => ?_)
      · have e9 : zLL w n j (j - i) = j - x - 1 := zEn_LL (by omega) h1 (by omega) (Or.inl (by omega))
        refine lv_iload_n hx hb dX10_shortest_40 rfl (lv_at hl 2 rfl) ?_
        refine lv_iload hx hb dX10_shortest_41 (lv_at hl 4 rfl) ?_
        refine zv_isub hx hb dX10_shortest_43 ?_
        exact zr_i hx hb hr hlocks dX10_shortest_44 (⟨_, rfl, by omega, by omega, by omega⟩)
      · refine lv_aload_n hx hb dX10_shortest_19 rfl (lv_at hl 0 rfl) ?_
        refine zv_iconst hx hb dX10_shortest_20 ?_
        refine lv_iload hx hb dX10_shortest_21 (lv_at hl 4 rfl) ?_
        refine zv_iconst hx hb dX10_shortest_23 ?_
        refine zv_iadd hx hb dX10_shortest_24 ?_
        refine lv_iload_n hx hb dX10_shortest_25 rfl (lv_at hl 2 rfl) ?_
        refine zc_VL (As := [.int (zI 0), .int (zI (x + 1)), .int (zI j)]) (rest := []) S hK (kX10_ends l g y sa ta oa f gt od sv ik tp 0 w n (by omega) hs (x + 1) j (by omega)) (cwV 3 hts gX10_shortest_X10_ends rfl rfl rfl (by decide +kernel) ⟨Nat.le_of_ble_eq_true rfl, Nat.le_of_ble_eq_true rfl⟩) (hpic) (hpic.recv hK) rfl hl.1 rfl (Nat.le_of_ble_eq_true rfl) dX10_shortest_26 ⟨Nat.zero_le _, Nat.zero_le _⟩ (fun r26 hr26 => ?_)
        refine lv_lload_n hx hb dX10_shortest_29 rfl (lv_at hl 3 rfl) ?_
        refine zv_lcmp hx hb dX10_shortest_30 (fun z30 hz30 hw30 => ?_)
        refine zv_if_ne (tgt := 40) hx hb dX10_shortest_31 (by decide) (by omega) (fun c31 => ?_) (fun c31 => ?_)
        · have e9 : zLL w n j (j - i) = j - x - 1 := zEn_LL (by omega) h1 (by omega) (Or.inr (fun q => c31 (hw30.mpr ((zBt_ext hr26 hr4).mpr q))))
          refine lv_iload_n hx hb dX10_shortest_40 rfl (lv_at hl 2 rfl) ?_
          refine lv_iload hx hb dX10_shortest_41 (lv_at hl 4 rfl) ?_
          refine zv_isub hx hb dX10_shortest_43 ?_
          exact zr_i hx hb hr hlocks dX10_shortest_44 (⟨_, rfl, by omega, by omega, by omega⟩)
        · refine zv_iinc (lv' := [(5, .int (zI (x + 1))), (0, .ref y), (1, .int (zI i)), (2, .int (zI j)), (3, .long r4)]) hx hb dX10_shortest_34 hl (k := 4) rfl (by decide) rfl (fun ls hl => ?_)
          refine lv_goto (tgt := 11) hx hb dX10_shortest_37 (by decide) ?_
          exact ih11 (x + 1) (by omega) ((zBt_ext hr26 hr4).mp (hw30.mp (by omega))) (by omega) _ (lv_sub hl [1, 2, 3, 4, 0] rfl)
  exact lp11 _ i (by omega) (fun k _ _ => Iff.rfl) (Nat.lt_succ_self _) _ (lv_sub hl [2, 3, 4, 1, 0] rfl)

set_option maxHeartbeats 4000000 in
set_option maxRecDepth 100000 in
/-- X10_bits -/
theorem kX10_bits (l : Launch) (g : zG) (y sa ta oa : Nat) (f gt od : Int → Int) (sv ik tp : Int) (X : Int64) (P : Int → Prop) (hP0 : zBt X P) : Met l yX10_bits wsX10_bits (zRm 0 0) (zP g [.ref y, .long X] (RM g y sa ta oa f gt od sv ik tp)) (vp_Si (fun r => ∃ z : Int, r = zI z ∧ z = zC P 0 41 ∧ 0 ≤ z ∧ z ≤ 41)) 0 0 (fun _ => False) := by
  refine Met.ofZ (cc := cX10_bits) (maxL := 5) (ret := (some .int)) (by decide) rfl (Nat.le_of_ble_eq_true rfl) ?_
  intro p e s m args below meth c ls hx hb hr hlocks S hin hK hpic hl
  have hown := S.2.2.2.1
  have hts := S.2.2.2.2
  have hl : lv_has ls 5 [(0, .ref y), (1, .long X)] := hl
  obtain ⟨F, G, O, hP, hF, hG, hO, hdis, hrg⟩ := id hpic
  refine zv_iconst hx hb dX10_bits_0 ?_
  refine lv_istore_n (lv' := [(3, .int (zI 0)), (0, .ref y), (1, .long X)]) hx hb dX10_bits_1 rfl hl (by decide) rfl (fun ls hl => ?_)
  refine zv_iconst hx hb dX10_bits_2 ?_
  refine lv_istore (lv' := [(4, .int (zI 0)), (3, .int (zI 0)), (0, .ref y), (1, .long X)]) hx hb dX10_bits_3 hl (by decide) rfl (fun ls hl => ?_)
  have lp5 : ∀ (z_f : Nat) (o : Int) (k : Int), (0 ≤ k ∧ k ≤ 41 ∧ 0 ≤ o ∧ o ≤ k) → (o = zC P 0 k) → ((41 - k).toNat) < z_f → ∀ (ls : Array Slot), lv_has ls 5 [(0, .ref y), (1, .long X), (3, .int (zI o)), (4, .int (zI k))] → W p l e (zRm 0 0) s m args below meth c s.heap [] 0 0 (MQ below (vp_Si (fun r => ∃ z : Int, r = zI z ∧ z = zC P 0 41 ∧ 0 ≤ z ∧ z ≤ 41)) args s 0 0 (fun _ => False)) (F0 m 5 ls []) := by
    intro z_f
    induction z_f with
    | zero => intro o k h0 h1 z_m; exact absurd z_m (Nat.not_lt_zero _)
    | succ z_f ih5 =>
      intro o k h0 h1 z_m5 ls hl
      refine lv_iload hx hb dX10_bits_5 (lv_at hl 3 rfl) ?_
      refine zv_bipush hx hb dX10_bits_7 (by decide +kernel) ?_
      refine zv_icmp_gt (tgt := 28) hx hb dX10_bits_9 (by decide) (by omega) (by omega) (fun c9 => ?_) (fun c9 => ?_)
      · have e9 : o = zC P 0 41 := by rw [h1, show k = 41 by omega]
        refine lv_iload_n hx hb dX10_bits_28 rfl (lv_at hl 2 rfl) ?_
        exact zr_i hx hb hr hlocks dX10_bits_29 (⟨_, rfl, e9, by omega, by omega⟩)
      · refine lv_iload_n hx hb dX10_bits_12 rfl (lv_at hl 2 rfl) ?_
        refine lv_lload_n hx hb dX10_bits_13 rfl (lv_at hl 1 rfl) ?_
        refine lv_iload hx hb dX10_bits_14 (lv_at hl 3 rfl) ?_
        refine lv_lshr (v := (X : Int64) >>> ((zI k).toInt64 &&& 63)) hx hb dX10_bits_16 rfl ?_
        refine lv_lconst (v := 1) hx hb dX10_bits_17 (by decide) ?_
        refine lv_land hx hb dX10_bits_18 ?_
        refine lv_l2i (v := zI (zB (P k))) hx hb dX10_bits_19 (zBt_val hP0 (by omega)) ?_
        refine zv_iadd hx hb dX10_bits_20 ?_
        refine lv_istore_n (lv' := [(3, .int (zI (o + (zB (P k))))), (0, .ref y), (1, .long X), (4, .int (zI k))]) hx hb dX10_bits_21 rfl hl (by decide) rfl (fun ls hl => ?_)
        refine zv_iinc (lv' := [(4, .int (zI (k + 1))), (3, .int (zI (o + (zB (P k))))), (0, .ref y), (1, .long X)]) hx hb dX10_bits_22 hl (k := 3) rfl (by decide) rfl (fun ls hl => ?_)
        refine lv_goto (tgt := 5) hx hb dX10_bits_25 (by decide) ?_
        exact ih5 (o + (zB (P k))) (k + 1) ((by have := zB_r (P k); omega)) (by rw [zC_s P (by omega)]; omega) (by omega) _ (lv_sub hl [2, 3, 1, 0] rfl)
  exact lp5 _ 0 0 (by omega) ((zC_nil _ (by omega)).symm) (Nat.lt_succ_self _) _ (lv_sub hl [2, 3, 1, 0] rfl)

set_option maxHeartbeats 4000000 in
set_option maxRecDepth 100000 in
/-- X10_edgeOf -/
theorem kX10_edgeOf_1 (l : Launch) (g : zG) (y sa ta oa : Nat) (f gt od : Int → Int) (sv ik tp : Int) (X : Int64) (P : Int → Prop) (hP0 : zBt X P) (hex : ∃ x, 0 ≤ x ∧ x ≤ 40 ∧ P x) : Met l yX10_edgeOf wsX10_edgeOf (zRm 0 0) (zP g [.ref y, .long X, .int (zI 1)] (RM g y sa ta oa f gt od sv ik tp)) (vp_Si (fun r => ∃ z : Int, r = zI z ∧ P z ∧ 0 ≤ z ∧ z ≤ 40 ∧ ∀ q, 0 ≤ q → q < z → ¬ P q)) 0 0 (fun _ => False) := by
  refine Met.ofZ (cc := cX10_edgeOf) (maxL := 7) (ret := (some .int)) (by decide) rfl (Nat.le_of_ble_eq_true rfl) ?_
  intro p e s m args below meth c ls hx hb hr hlocks S hin hK hpic hl
  have hown := S.2.2.2.1
  have hts := S.2.2.2.2
  have hl : lv_has ls 7 [(0, .ref y), (1, .long X), (3, .int (zI 1))] := hl
  obtain ⟨F, G, O, hP, hF, hG, hO, hdis, hrg⟩ := id hpic
  refine zv_iconst hx hb dX10_edgeOf_0 ?_
  refine lv_istore (lv' := [(4, .int (zI 0)), (0, .ref y), (1, .long X), (3, .int (zI 1))]) hx hb dX10_edgeOf_1 hl (by decide) rfl (fun ls hl => ?_)
  refine zv_iconst hx hb dX10_edgeOf_3 ?_
  refine lv_istore (lv' := [(5, .int (zI 0)), (4, .int (zI 0)), (0, .ref y), (1, .long X), (3, .int (zI 1))]) hx hb dX10_edgeOf_4 hl (by decide) rfl (fun ls hl => ?_)
  have lp6 : ∀ (z_f : Nat) (o : Int) (k : Int), (0 ≤ k ∧ k ≤ 41 ∧ 0 ≤ o ∧ o ≤ 40) → ((P o ∧ 41 - k ≤ o ∧ o ≤ 40 ∧ ∀ q, 41 - k ≤ q → q < o → ¬ P q) ∨ (o = 0 ∧ ∀ q, 41 - k ≤ q → q ≤ 40 → ¬ P q)) → ((41 - k).toNat) < z_f → ∀ (ls : Array Slot), lv_has ls 7 [(0, .ref y), (1, .long X), (3, .int (zI 1)), (4, .int (zI o)), (5, .int (zI k))] → W p l e (zRm 0 0) s m args below meth c s.heap [] 0 0 (MQ below (vp_Si (fun r => ∃ z : Int, r = zI z ∧ P z ∧ 0 ≤ z ∧ z ≤ 40 ∧ ∀ q, 0 ≤ q → q < z → ¬ P q)) args s 0 0 (fun _ => False)) (F0 m 6 ls []) := by
    intro z_f
    induction z_f with
    | zero => intro o k h0 h1 z_m; exact absurd z_m (Nat.not_lt_zero _)
    | succ z_f ih6 =>
      intro o k h0 h1 z_m6 ls hl
      refine lv_iload hx hb dX10_edgeOf_6 (lv_at hl 4 rfl) ?_
      refine zv_bipush hx hb dX10_edgeOf_8 (by decide +kernel) ?_
      refine zv_icmp_gt (tgt := 55) hx hb dX10_edgeOf_10 (by decide) (by omega) (by omega) (fun c10 => ?_) (fun c10 => ?_)
      · have e9 : k = 41 := by omega
        refine lv_iload hx hb dX10_edgeOf_55 (lv_at hl 3 rfl) ?_
        exact zr_i hx hb hr hlocks dX10_edgeOf_57 (h1.elim (fun v => ⟨_, rfl, v.1, by omega, by omega, fun q q1 q2 => v.2.2.2 q (by omega) q2⟩) (fun v => by obtain ⟨x, x1, x2, x3⟩ := hex; exact absurd x3 (v.2 x (by omega) x2)))
      · refine lv_iload_n hx hb dX10_edgeOf_13 rfl (lv_at hl 2 rfl) ?_
        refine zv_if_eq (tgt := 25) hx hb dX10_edgeOf_14 (by decide) (by omega) (fun c14 => ?_) (fun c14 => ?_)
        · exfalso; omega
        · refine zv_bipush hx hb dX10_edgeOf_17 (by decide +kernel) ?_
          refine lv_iload hx hb dX10_edgeOf_19 (lv_at hl 4 rfl) ?_
          refine zv_isub hx hb dX10_edgeOf_21 ?_
          refine lv_goto (tgt := 27) hx hb dX10_edgeOf_22 (by decide) ?_
          refine lv_istore (lv' := [(6, .int (zI (40 - k))), (0, .ref y), (1, .long X), (3, .int (zI 1)), (4, .int (zI o)), (5, .int (zI k))]) hx hb dX10_edgeOf_27 hl (by decide) rfl (fun ls hl => ?_)
          refine lv_lload_n hx hb dX10_edgeOf_29 rfl (lv_at hl 2 rfl) ?_
          refine lv_iload hx hb dX10_edgeOf_30 (lv_at hl 0 rfl) ?_
          refine lv_lshr (v := (X : Int64) >>> ((zI (40 - k)).toInt64 &&& 63)) hx hb dX10_edgeOf_32 rfl ?_
          refine lv_lconst (v := 1) hx hb dX10_edgeOf_33 (by decide) ?_
          refine lv_land hx hb dX10_edgeOf_34 ?_
          refine lv_lconst (v := 1) hx hb dX10_edgeOf_35 (by decide) ?_
          refine zv_lcmp hx hb dX10_edgeOf_36 (fun z36 hz36 hw36 => ?_)
          refine zv_if_ne (tgt := 45) hx hb dX10_edgeOf_37 (by decide) (by omega) (fun c37 => ?_) (fun c37 => ?_)
          · have np : ¬ P (40 - k) := fun z => c37 (hw36.mpr ((zBt_one1 hP0 (by omega)).mpr z))
            refine lv_iload hx hb dX10_edgeOf_45 (lv_at hl 4 rfl) ?_
            refine lv_istore (lv' := [(4, .int (zI o)), (6, .int (zI (40 - k))), (0, .ref y), (1, .long X), (3, .int (zI 1)), (5, .int (zI k))]) hx hb dX10_edgeOf_47 hl (by decide) rfl (fun ls hl => ?_)
            refine zv_iinc (lv' := [(5, .int (zI (k + 1))), (4, .int (zI o)), (6, .int (zI (40 - k))), (0, .ref y), (1, .long X), (3, .int (zI 1))]) hx hb dX10_edgeOf_49 hl (k := 5) rfl (by decide) rfl (fun ls hl => ?_)
            refine lv_goto (tgt := 6) hx hb dX10_edgeOf_52 (by decide) ?_
            exact ih6 o (k + 1) (by omega) (h1.elim (fun v => Or.inl ⟨v.1, by omega, by omega, fun q q1 q2 => (show q = 40 - k ∨ 41 - k ≤ q by omega).elim (fun z => by rw [z]; exact np) (fun z => v.2.2.2 q z q2)⟩) (fun v => Or.inr ⟨v.1, fun q q1 q2 => (show q = 40 - k ∨ 41 - k ≤ q by omega).elim (fun z => by rw [z]; exact np) (fun z => v.2 q z q2)⟩)) (by omega) _ (lv_sub hl [3, 4, 5, 1, 0] rfl)
          · have pp : P (40 - k) := (zBt_one1 hP0 (by omega)).mp (hw36.mp (by omega))
            refine lv_iload hx hb dX10_edgeOf_40 (lv_at hl 0 rfl) ?_
            refine lv_goto (tgt := 47) hx hb dX10_edgeOf_42 (by decide) ?_
            refine lv_istore (lv' := [(4, .int (zI (40 - k))), (6, .int (zI (40 - k))), (0, .ref y), (1, .long X), (3, .int (zI 1)), (5, .int (zI k))]) hx hb dX10_edgeOf_47 hl (by decide) rfl (fun ls hl => ?_)
            refine zv_iinc (lv' := [(5, .int (zI (k + 1))), (4, .int (zI (40 - k))), (6, .int (zI (40 - k))), (0, .ref y), (1, .long X), (3, .int (zI 1))]) hx hb dX10_edgeOf_49 hl (k := 5) rfl (by decide) rfl (fun ls hl => ?_)
            refine lv_goto (tgt := 6) hx hb dX10_edgeOf_52 (by decide) ?_
            exact ih6 (40 - k) (k + 1) (by omega) (Or.inl ⟨pp, by omega, by omega, fun q q1 q2 => absurd q2 (by omega)⟩) (by omega) _ (lv_sub hl [3, 4, 5, 1, 0] rfl)
  exact lp6 _ 0 0 (by omega) (Or.inr ⟨rfl, fun q q1 q2 => absurd q1 (by omega)⟩) (Nat.lt_succ_self _) _ (lv_sub hl [2, 3, 4, 1, 0] rfl)

set_option maxHeartbeats 4000000 in
set_option maxRecDepth 100000 in
/-- X10_edgeOf -/
theorem kX10_edgeOf_0 (l : Launch) (g : zG) (y sa ta oa : Nat) (f gt od : Int → Int) (sv ik tp : Int) (X : Int64) (P : Int → Prop) (hP0 : zBt X P) (hex : ∃ x, 0 ≤ x ∧ x ≤ 40 ∧ P x) : Met l yX10_edgeOf wsX10_edgeOf (zRm 0 0) (zP g [.ref y, .long X, .int (zI 0)] (RM g y sa ta oa f gt od sv ik tp)) (vp_Si (fun r => ∃ z : Int, r = zI z ∧ P z ∧ 0 ≤ z ∧ z ≤ 40 ∧ ∀ q, z < q → q ≤ 40 → ¬ P q)) 0 0 (fun _ => False) := by
  refine Met.ofZ (cc := cX10_edgeOf) (maxL := 7) (ret := (some .int)) (by decide) rfl (Nat.le_of_ble_eq_true rfl) ?_
  intro p e s m args below meth c ls hx hb hr hlocks S hin hK hpic hl
  have hown := S.2.2.2.1
  have hts := S.2.2.2.2
  have hl : lv_has ls 7 [(0, .ref y), (1, .long X), (3, .int (zI 0))] := hl
  obtain ⟨F, G, O, hP, hF, hG, hO, hdis, hrg⟩ := id hpic
  refine zv_iconst hx hb dX10_edgeOf_0 ?_
  refine lv_istore (lv' := [(4, .int (zI 0)), (0, .ref y), (1, .long X), (3, .int (zI 0))]) hx hb dX10_edgeOf_1 hl (by decide) rfl (fun ls hl => ?_)
  refine zv_iconst hx hb dX10_edgeOf_3 ?_
  refine lv_istore (lv' := [(5, .int (zI 0)), (4, .int (zI 0)), (0, .ref y), (1, .long X), (3, .int (zI 0))]) hx hb dX10_edgeOf_4 hl (by decide) rfl (fun ls hl => ?_)
  have lp6 : ∀ (z_f : Nat) (o : Int) (k : Int), (0 ≤ k ∧ k ≤ 41 ∧ 0 ≤ o ∧ o ≤ 40) → ((P o ∧ 0 ≤ o ∧ o < k ∧ ∀ q, o < q → q < k → ¬ P q) ∨ (o = 0 ∧ ∀ q, 0 ≤ q → q < k → ¬ P q)) → ((41 - k).toNat) < z_f → ∀ (ls : Array Slot), lv_has ls 7 [(0, .ref y), (1, .long X), (3, .int (zI 0)), (4, .int (zI o)), (5, .int (zI k))] → W p l e (zRm 0 0) s m args below meth c s.heap [] 0 0 (MQ below (vp_Si (fun r => ∃ z : Int, r = zI z ∧ P z ∧ 0 ≤ z ∧ z ≤ 40 ∧ ∀ q, z < q → q ≤ 40 → ¬ P q)) args s 0 0 (fun _ => False)) (F0 m 6 ls []) := by
    intro z_f
    induction z_f with
    | zero => intro o k h0 h1 z_m; exact absurd z_m (Nat.not_lt_zero _)
    | succ z_f ih6 =>
      intro o k h0 h1 z_m6 ls hl
      refine lv_iload hx hb dX10_edgeOf_6 (lv_at hl 4 rfl) ?_
      refine zv_bipush hx hb dX10_edgeOf_8 (by decide +kernel) ?_
      refine zv_icmp_gt (tgt := 55) hx hb dX10_edgeOf_10 (by decide) (by omega) (by omega) (fun c10 => ?_) (fun c10 => ?_)
      · have e9 : k = 41 := by omega
        refine lv_iload hx hb dX10_edgeOf_55 (lv_at hl 3 rfl) ?_
        exact zr_i hx hb hr hlocks dX10_edgeOf_57 (h1.elim (fun v => ⟨_, rfl, v.1, by omega, by omega, fun q q1 q2 => v.2.2.2 q q1 (by omega)⟩) (fun v => by obtain ⟨x, x1, x2, x3⟩ := hex; exact absurd x3 (v.2 x x1 (by omega))))
      · refine lv_iload_n hx hb dX10_edgeOf_13 rfl (lv_at hl 2 rfl) ?_
        refine zv_if_eq (tgt := 25) hx hb dX10_edgeOf_14 (by decide) (by omega) (fun c14 => ?_) (fun c14 => ?_)
        · refine lv_iload hx hb dX10_edgeOf_25 (lv_at hl 4 rfl) ?_
          refine lv_istore (lv' := [(6, .int (zI k)), (0, .ref y), (1, .long X), (3, .int (zI 0)), (4, .int (zI o)), (5, .int (zI k))]) hx hb dX10_edgeOf_27 hl (by decide) rfl (fun ls hl => ?_)
          refine lv_lload_n hx hb dX10_edgeOf_29 rfl (lv_at hl 2 rfl) ?_
          refine lv_iload hx hb dX10_edgeOf_30 (lv_at hl 0 rfl) ?_
          refine lv_lshr (v := (X : Int64) >>> ((zI k).toInt64 &&& 63)) hx hb dX10_edgeOf_32 rfl ?_
          refine lv_lconst (v := 1) hx hb dX10_edgeOf_33 (by decide) ?_
          refine lv_land hx hb dX10_edgeOf_34 ?_
          refine lv_lconst (v := 1) hx hb dX10_edgeOf_35 (by decide) ?_
          refine zv_lcmp hx hb dX10_edgeOf_36 (fun z36 hz36 hw36 => ?_)
          refine zv_if_ne (tgt := 45) hx hb dX10_edgeOf_37 (by decide) (by omega) (fun c37 => ?_) (fun c37 => ?_)
          · have np : ¬ P k := fun z => c37 (hw36.mpr ((zBt_one1 hP0 (by omega)).mpr z))
            refine lv_iload hx hb dX10_edgeOf_45 (lv_at hl 4 rfl) ?_
            refine lv_istore (lv' := [(4, .int (zI o)), (6, .int (zI k)), (0, .ref y), (1, .long X), (3, .int (zI 0)), (5, .int (zI k))]) hx hb dX10_edgeOf_47 hl (by decide) rfl (fun ls hl => ?_)
            refine zv_iinc (lv' := [(5, .int (zI (k + 1))), (4, .int (zI o)), (6, .int (zI k)), (0, .ref y), (1, .long X), (3, .int (zI 0))]) hx hb dX10_edgeOf_49 hl (k := 5) rfl (by decide) rfl (fun ls hl => ?_)
            refine lv_goto (tgt := 6) hx hb dX10_edgeOf_52 (by decide) ?_
            exact ih6 o (k + 1) (by omega) (h1.elim (fun v => Or.inl ⟨v.1, by omega, by omega, fun q q1 q2 => (show q = k ∨ q < k by omega).elim (fun z => by rw [z]; exact np) (fun z => v.2.2.2 q q1 z)⟩) (fun v => Or.inr ⟨v.1, fun q q1 q2 => (show q = k ∨ q < k by omega).elim (fun z => by rw [z]; exact np) (fun z => v.2 q q1 z)⟩)) (by omega) _ (lv_sub hl [3, 4, 5, 1, 0] rfl)
          · have pp : P k := (zBt_one1 hP0 (by omega)).mp (hw36.mp (by omega))
            refine lv_iload hx hb dX10_edgeOf_40 (lv_at hl 0 rfl) ?_
            refine lv_goto (tgt := 47) hx hb dX10_edgeOf_42 (by decide) ?_
            refine lv_istore (lv' := [(4, .int (zI k)), (6, .int (zI k)), (0, .ref y), (1, .long X), (3, .int (zI 0)), (5, .int (zI k))]) hx hb dX10_edgeOf_47 hl (by decide) rfl (fun ls hl => ?_)
            refine zv_iinc (lv' := [(5, .int (zI (k + 1))), (4, .int (zI k)), (6, .int (zI k)), (0, .ref y), (1, .long X), (3, .int (zI 0))]) hx hb dX10_edgeOf_49 hl (k := 5) rfl (by decide) rfl (fun ls hl => ?_)
            refine lv_goto (tgt := 6) hx hb dX10_edgeOf_52 (by decide) ?_
            exact ih6 k (k + 1) (by omega) (Or.inl ⟨pp, by omega, by omega, fun q q1 q2 => absurd q2 (by omega)⟩) (by omega) _ (lv_sub hl [3, 4, 5, 1, 0] rfl)
        · exfalso; omega
  exact lp6 _ 0 0 (by omega) (Or.inr ⟨rfl, fun q q1 q2 => absurd q2 (by omega)⟩) (Nat.lt_succ_self _) _ (lv_sub hl [2, 3, 4, 1, 0] rfl)

set_option maxHeartbeats 4000000 in
set_option maxRecDepth 100000 in
/-- X10_factor -/
theorem kX10_factor (l : Launch) (g : zG) (y sa ta oa : Nat) (f gt od : Int → Int) (sv ik tp : Int) (w : Int → Int) (n : Int) (hs : SL f 0 w n) (i j q : Int) (hi : -2147483648 ≤ i ∧ i < 2147483648) (hj : -2147483648 ≤ j ∧ j < 2147483648) (hq : -2147483648 ≤ q ∧ q < 2147483648) : Met l yX10_factor wsX10_factor (zRm 4 99) (zP g [.ref y, .int (zI i), .int (zI j), .int (zI q)] (RM g y sa ta oa f gt od sv ik tp)) (vp_Si (fun v => v = zI (aFactor w n i j q))) 0 0 (fun _ => False) := by
  refine Met.ofZ (cc := cX10_factor) (maxL := 6) (ret := (some .int)) (by decide) rfl (Nat.le_of_ble_eq_true rfl) ?_
  intro p e s m args below meth c ls hx hb hr hlocks S hin hK hpic hl
  have hown := S.2.2.2.1
  have hts := S.2.2.2.2
  have hl : lv_has ls 6 [(0, .ref y), (1, .int (zI i)), (2, .int (zI j)), (3, .int (zI q))] := hl
  obtain ⟨F, G, O, hP, hF, hG, hO, hdis, hrg⟩ := id hpic
  have hn := hs.2.1
  refine lv_aload_n hx hb dX10_factor_0 rfl (lv_at hl 0 rfl) ?_
  refine lv_iload_n hx hb dX10_factor_1 rfl (lv_at hl 1 rfl) ?_
  refine lv_iload_n hx hb dX10_factor_2 rfl (lv_at hl 2 rfl) ?_
  refine zc_V (As := [.int (zI i), .int (zI j)]) (rest := []) S hK (kX10_isFactor l g y sa ta oa f gt od sv ik tp w n hs i j (by omega) (by omega)) (cwV 2 hts gX10_factor_X10_isFactor rfl rfl rfl (by decide +kernel) ⟨Nat.le_of_ble_eq_true rfl, Nat.le_of_ble_eq_true rfl⟩) (hpic) (hpic.recv hK) rfl hl.1 rfl (Nat.le_of_ble_eq_true rfl) dX10_factor_3 ⟨Nat.zero_le _, Nat.zero_le _⟩ (fun r3 hr3 => ?_)
  obtain rfl := hr3
  refine zv_ifB_ne (tgt := 11) hx hb dX10_factor_6 (by decide) (fun c6 => ?_) (fun c6 => ?_)
  · refine lv_iload_n hx hb dX10_factor_11 rfl (lv_at hl 2 rfl) ?_
    refine lv_iload_n hx hb dX10_factor_12 rfl (lv_at hl 1 rfl) ?_
    refine zv_isub hx hb dX10_factor_13 ?_
    refine lv_istore (lv' := [(4, .int (zI (j - i))), (0, .ref y), (1, .int (zI i)), (2, .int (zI j)), (3, .int (zI q))]) hx hb dX10_factor_14 hl (by decide) rfl (fun ls hl => ?_)
    refine lv_aload_n hx hb dX10_factor_16 rfl (lv_at hl 1 rfl) ?_
    refine zv_iconst hx hb dX10_factor_17 ?_
    refine lv_iload_n hx hb dX10_factor_18 rfl (lv_at hl 2 rfl) ?_
    refine lv_iload_n hx hb dX10_factor_19 rfl (lv_at hl 3 rfl) ?_
    refine zc_V (As := [.int (zI 0), .int (zI i), .int (zI j)]) (rest := []) S hK (kX10_period l g y sa ta oa f gt od sv ik tp 0 w n (by omega) hs i j (by omega)) (cwV 3 hts gX10_factor_X10_period rfl rfl rfl (by decide +kernel) ⟨Nat.le_of_ble_eq_true rfl, Nat.le_of_ble_eq_true rfl⟩) (hpic) (hpic.recv hK) rfl hl.1 rfl (Nat.le_of_ble_eq_true rfl) dX10_factor_20 ⟨Nat.zero_le _, Nat.zero_le _⟩ (fun r20 hr20 => ?_)
    obtain ⟨z20, rfl, hz20⟩ := hr20
    refine lv_istore (lv' := [(5, .int (zI z20)), (4, .int (zI (j - i))), (0, .ref y), (1, .int (zI i)), (2, .int (zI j)), (3, .int (zI q))]) hx hb dX10_factor_23 hl (by decide) rfl (fun ls hl => ?_)
    refine lv_iload_n hx hb dX10_factor_25 rfl (lv_at hl 5 rfl) ?_
    rcases (show q = 0 ∨ q = 1 ∨ q = 2 ∨ q = 3 ∨ q = 4 ∨ q = 5 ∨ q = 6 ∨ q = 7 ∨ q = 8 ∨ q = 9 ∨ (q < 0 ∨ 9 < q) by omega) with c26 | c26 | c26 | c26 | c26 | c26 | c26 | c26 | c26 | c26 | c26
    · subst c26
      refine zv_tableIn (a := 0) (tgt := 80) hx hb dX10_factor_26 (by omega) (by omega) (by omega) rfl (by decide) ?_
      refine lv_aload_n hx hb dX10_factor_80 rfl (lv_at hl 2 rfl) ?_
      refine lv_aload_n hx hb dX10_factor_81 rfl (lv_at hl 2 rfl) ?_
      refine zv_iconst hx hb dX10_factor_82 ?_
      refine lv_iload_n hx hb dX10_factor_83 rfl (lv_at hl 3 rfl) ?_
      refine lv_iload_n hx hb dX10_factor_84 rfl (lv_at hl 4 rfl) ?_
      refine zc_VL (As := [.int (zI 0), .int (zI i), .int (zI j)]) (rest := [.ref y]) S hK (kX10_ends l g y sa ta oa f gt od sv ik tp 0 w n (by omega) hs i j (by omega)) (cwV 3 hts gX10_factor_X10_ends rfl rfl rfl (by decide +kernel) ⟨Nat.le_of_ble_eq_true rfl, Nat.le_of_ble_eq_true rfl⟩) (hpic) (hpic.recv hK) rfl hl.1 rfl (Nat.le_of_ble_eq_true rfl) dX10_factor_85 ⟨Nat.zero_le _, Nat.zero_le _⟩ (fun r85 hr85 => ?_)
      refine zc_V (As := [.long r85]) (rest := []) S hK (kX10_bits l g y sa ta oa f gt od sv ik tp r85 (zEn w n i (j - i)) hr85) (cwV 1 hts gX10_factor_X10_bits rfl rfl rfl (by decide +kernel) ⟨Nat.le_of_ble_eq_true rfl, Nat.le_of_ble_eq_true rfl⟩) (hpic) (hpic.recv hK) rfl hl.1 rfl (Nat.le_of_ble_eq_true rfl) dX10_factor_88 ⟨Nat.zero_le _, Nat.zero_le _⟩ (fun r88 hr88 => ?_)
      obtain ⟨z88, rfl, hz88⟩ := hr88
      exact zr_i hx hb hr hlocks dX10_factor_91 (by unfold aFactor zFac; rw [zIf_t c6, zIf_t rfl]; exact congrArg zI (hz88.1.trans (zEn_how (by omega) (by omega))))
    · subst c26
      refine zv_tableIn (a := 1) (tgt := 92) hx hb dX10_factor_26 (by omega) (by omega) (by omega) rfl (by decide) ?_
      refine lv_aload_n hx hb dX10_factor_92 rfl (lv_at hl 2 rfl) ?_
      refine lv_aload_n hx hb dX10_factor_93 rfl (lv_at hl 2 rfl) ?_
      refine zv_iconst hx hb dX10_factor_94 ?_
      refine lv_iload_n hx hb dX10_factor_95 rfl (lv_at hl 3 rfl) ?_
      refine lv_iload_n hx hb dX10_factor_96 rfl (lv_at hl 4 rfl) ?_
      refine zc_VL (As := [.int (zI 0), .int (zI i), .int (zI j)]) (rest := [.ref y]) S hK (kX10_ends l g y sa ta oa f gt od sv ik tp 0 w n (by omega) hs i j (by omega)) (cwV 3 hts gX10_factor_X10_ends rfl rfl rfl (by decide +kernel) ⟨Nat.le_of_ble_eq_true rfl, Nat.le_of_ble_eq_true rfl⟩) (hpic) (hpic.recv hK) rfl hl.1 rfl (Nat.le_of_ble_eq_true rfl) dX10_factor_97 ⟨Nat.zero_le _, Nat.zero_le _⟩ (fun r97 hr97 => ?_)
      refine zv_iconst hx hb dX10_factor_100 ?_
      refine zc_V (As := [.long r97, .int (zI 1)]) (rest := []) S hK (kX10_edgeOf_1 l g y sa ta oa f gt od sv ik tp r97 (zEn w n i (j - i)) hr97 ⟨j, by omega, by omega, zEn_self (by omega)⟩) (cwV 2 hts gX10_factor_X10_edgeOf rfl rfl rfl (by decide +kernel) ⟨Nat.le_of_ble_eq_true rfl, Nat.le_of_ble_eq_true rfl⟩) (hpic) (hpic.recv hK) rfl hl.1 rfl (Nat.le_of_ble_eq_true rfl) dX10_factor_101 ⟨Nat.zero_le _, Nat.zero_le _⟩ (fun r101 hr101 => ?_)
      obtain ⟨z101, rfl, hz101⟩ := hr101
      exact zr_i hx hb hr hlocks dX10_factor_104 (by unfold aFactor zFac; rw [zIf_t c6, zIf_f (by omega), zIf_t rfl]; exact congrArg zI (zEn_fst (by omega) hz101.1 hz101.2.2.2).symm)
    · subst c26
      refine zv_tableIn (a := 2) (tgt := 105) hx hb dX10_factor_26 (by omega) (by omega) (by omega) rfl (by decide) ?_
      refine lv_aload_n hx hb dX10_factor_105 rfl (lv_at hl 2 rfl) ?_
      refine lv_aload_n hx hb dX10_factor_106 rfl (lv_at hl 2 rfl) ?_
      refine zv_iconst hx hb dX10_factor_107 ?_
      refine lv_iload_n hx hb dX10_factor_108 rfl (lv_at hl 3 rfl) ?_
      refine lv_iload_n hx hb dX10_factor_109 rfl (lv_at hl 4 rfl) ?_
      refine zc_VL (As := [.int (zI 0), .int (zI i), .int (zI j)]) (rest := [.ref y]) S hK (kX10_ends l g y sa ta oa f gt od sv ik tp 0 w n (by omega) hs i j (by omega)) (cwV 3 hts gX10_factor_X10_ends rfl rfl rfl (by decide +kernel) ⟨Nat.le_of_ble_eq_true rfl, Nat.le_of_ble_eq_true rfl⟩) (hpic) (hpic.recv hK) rfl hl.1 rfl (Nat.le_of_ble_eq_true rfl) dX10_factor_110 ⟨Nat.zero_le _, Nat.zero_le _⟩ (fun r110 hr110 => ?_)
      refine zv_iconst hx hb dX10_factor_113 ?_
      refine zc_V (As := [.long r110, .int (zI 0)]) (rest := []) S hK (kX10_edgeOf_0 l g y sa ta oa f gt od sv ik tp r110 (zEn w n i (j - i)) hr110 ⟨j, by omega, by omega, zEn_self (by omega)⟩) (cwV 2 hts gX10_factor_X10_edgeOf rfl rfl rfl (by decide +kernel) ⟨Nat.le_of_ble_eq_true rfl, Nat.le_of_ble_eq_true rfl⟩) (hpic) (hpic.recv hK) rfl hl.1 rfl (Nat.le_of_ble_eq_true rfl) dX10_factor_114 ⟨Nat.zero_le _, Nat.zero_le _⟩ (fun r114 hr114 => ?_)
      obtain ⟨z114, rfl, hz114⟩ := hr114
      exact zr_i hx hb hr hlocks dX10_factor_117 (by unfold aFactor zFac; rw [zIf_t c6, zIf_f (by omega), zIf_f (by omega), zIf_t rfl]; exact congrArg zI (zEn_lst (by omega) (by omega) hz114.1 hz114.2.2.2).symm)
    · subst c26
      refine zv_tableIn (a := 3) (tgt := 118) hx hb dX10_factor_26 (by omega) (by omega) (by omega) rfl (by decide) ?_
      refine lv_aload_n hx hb dX10_factor_118 rfl (lv_at hl 2 rfl) ?_
      refine lv_iload_n hx hb dX10_factor_119 rfl (lv_at hl 3 rfl) ?_
      refine lv_iload_n hx hb dX10_factor_120 rfl (lv_at hl 4 rfl) ?_
      refine zc_V (As := [.int (zI i), .int (zI j)]) (rest := []) S hK (kX10_longest l g y sa ta oa f gt od sv ik tp w n hs i j (by omega)) (cwV 2 hts gX10_factor_X10_longest rfl rfl rfl (by decide +kernel) ⟨Nat.le_of_ble_eq_true rfl, Nat.le_of_ble_eq_true rfl⟩) (hpic) (hpic.recv hK) rfl hl.1 rfl (Nat.le_of_ble_eq_true rfl) dX10_factor_121 ⟨Nat.zero_le _, Nat.zero_le _⟩ (fun r121 hr121 => ?_)
      obtain ⟨z121, rfl, hz121⟩ := hr121
      exact zr_i hx hb hr hlocks dX10_factor_124 (by unfold aFactor zFac; rw [zIf_t c6, zIf_f (by omega), zIf_f (by omega), zIf_f (by omega), zIf_t rfl]; exact congrArg zI hz121.1)
    · subst c26
      refine zv_tableIn (a := 4) (tgt := 125) hx hb dX10_factor_26 (by omega) (by omega) (by omega) rfl (by decide) ?_
      refine lv_aload_n hx hb dX10_factor_125 rfl (lv_at hl 2 rfl) ?_
      refine lv_iload_n hx hb dX10_factor_126 rfl (lv_at hl 3 rfl) ?_
      refine lv_iload_n hx hb dX10_factor_127 rfl (lv_at hl 4 rfl) ?_
      refine zc_V (As := [.int (zI i), .int (zI j)]) (rest := []) S hK (kX10_shortest l g y sa ta oa f gt od sv ik tp w n hs i j (by omega)) (cwV 2 hts gX10_factor_X10_shortest rfl rfl rfl (by decide +kernel) ⟨Nat.le_of_ble_eq_true rfl, Nat.le_of_ble_eq_true rfl⟩) (hpic) (hpic.recv hK) rfl hl.1 rfl (Nat.le_of_ble_eq_true rfl) dX10_factor_128 ⟨Nat.zero_le _, Nat.zero_le _⟩ (fun r128 hr128 => ?_)
      obtain ⟨z128, rfl, hz128⟩ := hr128
      exact zr_i hx hb hr hlocks dX10_factor_131 (by unfold aFactor zFac; rw [zIf_t c6, zIf_f (by omega), zIf_f (by omega), zIf_f (by omega), zIf_f (by omega), zIf_t rfl]; exact congrArg zI hz128.1)
    · subst c26
      refine zv_tableIn (a := 5) (tgt := 132) hx hb dX10_factor_26 (by omega) (by omega) (by omega) rfl (by decide) ?_
      refine lv_aload_n hx hb dX10_factor_132 rfl (lv_at hl 2 rfl) ?_
      refine lv_iload_n hx hb dX10_factor_133 rfl (lv_at hl 3 rfl) ?_
      refine lv_iload_n hx hb dX10_factor_134 rfl (lv_at hl 4 rfl) ?_
      refine zc_V (As := [.int (zI i), .int (zI j)]) (rest := []) S hK (kX10_shortest l g y sa ta oa f gt od sv ik tp w n hs i j (by omega)) (cwV 2 hts gX10_factor_X10_shortest rfl rfl rfl (by decide +kernel) ⟨Nat.le_of_ble_eq_true rfl, Nat.le_of_ble_eq_true rfl⟩) (hpic) (hpic.recv hK) rfl hl.1 rfl (Nat.le_of_ble_eq_true rfl) dX10_factor_135 ⟨Nat.zero_le _, Nat.zero_le _⟩ (fun r135 hr135 => ?_)
      obtain ⟨z135, rfl, hz135⟩ := hr135
      refine zv_iconst hx hb dX10_factor_138 ?_
      refine zv_isub hx hb dX10_factor_139 ?_
      exact zr_i hx hb hr hlocks dX10_factor_140 (by unfold aFactor zFac; rw [zIf_t c6, zIf_f (by omega), zIf_f (by omega), zIf_f (by omega), zIf_f (by omega), zIf_f (by omega), zIf_t rfl]; exact congrArg zI (by omega))
    · subst c26
      refine zv_tableIn (a := 6) (tgt := 141) hx hb dX10_factor_26 (by omega) (by omega) (by omega) rfl (by decide) ?_
      refine lv_iload hx hb dX10_factor_141 (lv_at hl 0 rfl) ?_
      exact zr_i hx hb hr hlocks dX10_factor_143 (by unfold aFactor zFac; rw [zIf_t c6, zIf_f (by omega), zIf_f (by omega), zIf_f (by omega), zIf_f (by omega), zIf_f (by omega), zIf_f (by omega), zIf_t rfl]; exact congrArg zI hz20.1)
    · subst c26
      refine zv_tableIn (a := 7) (tgt := 144) hx hb dX10_factor_26 (by omega) (by omega) (by omega) rfl (by decide) ?_
      refine lv_iload hx hb dX10_factor_144 (lv_at hl 1 rfl) ?_
      refine lv_iload hx hb dX10_factor_146 (lv_at hl 0 rfl) ?_
      refine zv_isub hx hb dX10_factor_148 ?_
      exact zr_i hx hb hr hlocks dX10_factor_149 (by unfold aFactor zFac; rw [zIf_t c6, zIf_f (by omega), zIf_f (by omega), zIf_f (by omega), zIf_f (by omega), zIf_f (by omega), zIf_f (by omega), zIf_f (by omega), zIf_t rfl]; exact congrArg zI (by have := zEG_LP w (i := i) (j := j) (by omega); omega))
    · subst c26
      refine zv_tableIn (a := 8) (tgt := 150) hx hb dX10_factor_26 (by omega) (by omega) (by omega) rfl (by decide) ?_
      refine lv_iload hx hb dX10_factor_150 (lv_at hl 1 rfl) ?_
      refine lv_iload hx hb dX10_factor_152 (lv_at hl 0 rfl) ?_
      refine zv_irem hx hb dX10_factor_154 (by omega) (by omega) ?_
      refine zv_if_ne (tgt := 169) hx hb dX10_factor_155 (by decide) (by have h8 := Int.emod_nonneg (j - i) (show z20 ≠ 0 by omega); have h9 := Int.emod_lt_of_pos (j - i) (show 0 < z20 by omega); omega) (fun c155 => ?_) (fun c155 => ?_)
      · refine zv_iconst hx hb dX10_factor_169 ?_
        exact zr_i hx hb hr hlocks dX10_factor_170 (by unfold aFactor zFac; rw [zIf_t c6, zIf_f (by omega), zIf_f (by omega), zIf_f (by omega), zIf_f (by omega), zIf_f (by omega), zIf_f (by omega), zIf_f (by omega), zIf_f (by omega), zIf_t rfl]; exact congrArg zI (zB_t (P := zPrim w i j) (fun q => by have q1 := q.1; have q2 := q.2; rw [← hz20.1] at q1 q2; omega)).symm)
      · refine lv_iload hx hb dX10_factor_158 (lv_at hl 0 rfl) ?_
        refine lv_iload hx hb dX10_factor_160 (lv_at hl 1 rfl) ?_
        refine zv_icmp_ge (tgt := 169) hx hb dX10_factor_162 (by decide) (by omega) (by omega) (fun c162 => ?_) (fun c162 => ?_)
        · refine zv_iconst hx hb dX10_factor_169 ?_
          exact zr_i hx hb hr hlocks dX10_factor_170 (by unfold aFactor zFac; rw [zIf_t c6, zIf_f (by omega), zIf_f (by omega), zIf_f (by omega), zIf_f (by omega), zIf_f (by omega), zIf_f (by omega), zIf_f (by omega), zIf_f (by omega), zIf_t rfl]; exact congrArg zI (zB_t (P := zPrim w i j) (fun q => by have q1 := q.1; have q2 := q.2; rw [← hz20.1] at q1 q2; omega)).symm)
        · refine zv_iconst hx hb dX10_factor_165 ?_
          refine lv_goto (tgt := 170) hx hb dX10_factor_166 (by decide) ?_
          exact zr_i hx hb hr hlocks dX10_factor_170 (by unfold aFactor zFac; rw [zIf_t c6, zIf_f (by omega), zIf_f (by omega), zIf_f (by omega), zIf_f (by omega), zIf_f (by omega), zIf_f (by omega), zIf_f (by omega), zIf_f (by omega), zIf_t rfl]; exact congrArg zI (zB_f (P := zPrim w i j) (fun q => q ⟨by omega, by rw [← hz20.1]; exact c155⟩)).symm)
    · subst c26
      refine zv_tableIn (a := 9) (tgt := 171) hx hb dX10_factor_26 (by omega) (by omega) (by omega) rfl (by decide) ?_
      refine zv_bipush hx hb dX10_factor_171 (by decide +kernel) ?_
      refine lv_iload hx hb dX10_factor_173 (lv_at hl 1 rfl) ?_
      refine zv_imul hx hb dX10_factor_175 ?_
      refine lv_iload hx hb dX10_factor_176 (lv_at hl 0 rfl) ?_
      refine zv_idiv hx hb dX10_factor_178 (by omega) (by omega) ?_
      exact zr_i hx hb hr hlocks dX10_factor_179 (by unfold aFactor zFac; rw [zIf_t c6, zIf_f (by omega), zIf_f (by omega), zIf_f (by omega), zIf_f (by omega), zIf_f (by omega), zIf_f (by omega), zIf_f (by omega), zIf_f (by omega), zIf_f (by omega), zIf_t rfl]; exact congrArg zI (by rw [hz20.1]))
    · refine zv_tableOut (tgt := 180) hx hb dX10_factor_26 (by omega) (by omega) (by decide) ?_
      refine zv_bipush hx hb dX10_factor_180 (by decide +kernel) ?_
      exact zr_i hx hb hr hlocks dX10_factor_182 (by unfold aFactor zFac; rw [zIf_t c6, zIf_f (by omega), zIf_f (by omega), zIf_f (by omega), zIf_f (by omega), zIf_f (by omega), zIf_f (by omega), zIf_f (by omega), zIf_f (by omega), zIf_f (by omega), zIf_f (by omega)])
  · refine zv_iconst hx hb dX10_factor_9 ?_
    exact zr_i hx hb hr hlocks dX10_factor_10 (by unfold aFactor; rw [zIf_f c6])

theorem mX10_letters_0 : ∀ w ∈ wsX100, w ∈ wsX10_letters := by decide +kernel
theorem mX10_letters_1 : (Cond.fieldLink RX10 7 "BorderRunsModel" "s" "[I") ∈ wsX10_letters := by decide +kernel
set_option maxHeartbeats 4000000 in
set_option maxRecDepth 100000 in
/-- X10_letters -/
theorem kX10_letters (l : Launch) (g : zG) (y sa ta oa : Nat) (f gt od : Int → Int) (sv ik tp : Int) (w : Int → Int) (n : Int) (hs : SL f 0 w n)  : Met l yX10_letters wsX10_letters (zRm 1 24) (zP g [.ref y] (RM g y sa ta oa f gt od sv ik tp)) (vp_Si (fun v => ∃ z : Int, v = zI z ∧ z = zLet w n ∧ 0 ≤ z ∧ z ≤ 26)) 0 0 (fun _ => False) := by
  refine Met.ofZ (cc := cX10_letters) (maxL := 3) (ret := (some .int)) (by decide) rfl (Nat.le_of_ble_eq_true rfl) ?_
  intro p e s m args below meth c ls hx hb hr hlocks S hin hK hpic hl
  have hown := S.2.2.2.1
  have hts := S.2.2.2.2
  have hl : lv_has ls 3 [(0, .ref y)] := hl
  obtain ⟨F, G, O, hP, hF, hG, hO, hdis, hrg⟩ := id hpic
  have hn := hs.2.1
  have hw := fun k h1 h2 => (hs.2.2 k h1 h2).2
  refine zv_iconst hx hb dX10_letters_0 ?_
  refine lv_istore_n (lv' := [(1, .int (zI 0)), (0, .ref y)]) hx hb dX10_letters_1 rfl hl (by decide) rfl (fun ls hl => ?_)
  refine zv_iconst hx hb dX10_letters_2 ?_
  refine lv_istore_n (lv' := [(2, .int (zI 0)), (1, .int (zI 0)), (0, .ref y)]) hx hb dX10_letters_3 rfl hl (by decide) rfl (fun ls hl => ?_)
  have lp4 : ∀ (z_f : Nat) (X : Int32) (k : Int), (0 ≤ k ∧ k ≤ n) → (zBi X (zLtP w k)) → ((n - k).toNat) < z_f → ∀ (ls : Array Slot), lv_has ls 3 [(0, .ref y), (1, .int X), (2, .int (zI k))] → W p l e (zRm 1 24) s m args below meth c s.heap [] 0 0 (MQ below (vp_Si (fun v => ∃ z : Int, v = zI z ∧ z = zLet w n ∧ 0 ≤ z ∧ z ≤ 26)) args s 0 0 (fun _ => False)) (F0 m 4 ls []) := by
    intro z_f
    induction z_f with
    | zero => intro X k h0 h1 z_m; exact absurd z_m (Nat.not_lt_zero _)
    | succ z_f ih4 =>
      intro X k h0 h1 z_m4 ls hl
      refine lv_iload_n hx hb dX10_letters_4 rfl (lv_at hl 2 rfl) ?_
      refine lv_aload_n hx hb dX10_letters_5 rfl (lv_at hl 0 rfl) ?_
      refine va_get (D := g.1) (ci := 5) (v := .ref sa) (C := RX10) (T := TX10) (N := 6) hx hb hts mX10_letters_0 hown hK hP 0 rfl rfl 0 (by decide) (hts _ mX10_letters_1) (fun _ h9 => h9) rfl dX10_letters_6 ?_
      refine zv_iconst hx hb dX10_letters_9 ?_
      refine va_iald (D := g.1) hx hb hK hP 1 0 rfl rfl (zI_in (by omega) (by decide)) dX10_letters_10 ?_
      rw [zI_cl (by omega)]
      rw [(hF 0 (by omega) (by omega)).1.trans (congrArg zI hs.1)]
      refine zv_icmp_ge (tgt := 31) hx hb dX10_letters_11 (by decide) (by omega) (by omega) (fun c11 => ?_) (fun c11 => ?_)
      · have e8 : zBt X.toInt64 (zLtP w n) := zBi_wide (by rw [show n = k by omega]; exact h1) (fun z ⟨q, q1, q2, q3⟩ => by have := hw q q1 q2; omega)
        refine lv_aload_n hx hb dX10_letters_31 rfl (lv_at hl 0 rfl) ?_
        refine lv_iload_n hx hb dX10_letters_32 rfl (lv_at hl 1 rfl) ?_
        refine lv_i2l (v := X.toInt64) hx hb dX10_letters_33 rfl ?_
        refine zc_V (As := [.long X.toInt64]) (rest := []) S hK (kX10_bits l g y sa ta oa f gt od sv ik tp X.toInt64 (zLtP w n) e8) (cwV 1 hts gX10_letters_X10_bits rfl rfl rfl (by decide +kernel) ⟨Nat.le_of_ble_eq_true rfl, Nat.le_of_ble_eq_true rfl⟩) (hpic) (hpic.recv hK) rfl hl.1 rfl (Nat.le_of_ble_eq_true rfl) dX10_letters_34 ⟨Nat.zero_le _, Nat.zero_le _⟩ (fun r34 hr34 => ?_)
        obtain ⟨z34, rfl, hz34⟩ := hr34
        exact zr_i hx hb hr hlocks dX10_letters_37 (⟨_, rfl, hz34.1.trans (zLet_hi (by omega) hw), by have := zLet_bd w n; have := zLet_hi (b := 41) (by omega) hw; omega, by have := zLet_bd w n; have := zLet_hi (b := 41) (by omega) hw; omega⟩)
      · refine lv_iload_n hx hb dX10_letters_14 rfl (lv_at hl 1 rfl) ?_
        refine zv_iconst hx hb dX10_letters_15 ?_
        refine lv_aload_n hx hb dX10_letters_16 rfl (lv_at hl 0 rfl) ?_
        refine zv_iconst hx hb dX10_letters_17 ?_
        refine lv_iload_n hx hb dX10_letters_18 rfl (lv_at hl 2 rfl) ?_
        refine zc_V (As := [.int (zI 0), .int (zI k)]) (rest := [.int (zI 1), .int X]) S hK (kX10_letAt l g y sa ta oa f gt od sv ik tp 0 w n (by omega) hs k (by omega)) (cwV 2 hts gX10_letters_X10_letAt rfl rfl rfl (by decide +kernel) ⟨Nat.le_of_ble_eq_true rfl, Nat.le_of_ble_eq_true rfl⟩) (hpic) (hpic.recv hK) rfl hl.1 rfl (Nat.le_of_ble_eq_true rfl) dX10_letters_19 ⟨Nat.zero_le _, Nat.zero_le _⟩ (fun r19 hr19 => ?_)
        obtain ⟨z19, rfl, hz19⟩ := hr19
        refine lv_ishl hx hb dX10_letters_22 ?_
        refine lv_ior hx hb dX10_letters_23 ?_
        refine lv_istore_n (lv' := [(1, .int (X ||| ((zI 1) <<< (zI z19 &&& 31)))), (0, .ref y), (2, .int (zI k))]) hx hb dX10_letters_24 rfl hl (by decide) rfl (fun ls hl => ?_)
        refine zv_iinc (lv' := [(2, .int (zI (k + 1))), (1, .int (X ||| ((zI 1) <<< (zI z19 &&& 31)))), (0, .ref y)]) hx hb dX10_letters_25 hl (k := 2) rfl (by decide) rfl (fun ls hl => ?_)
        refine lv_goto (tgt := 4) hx hb dX10_letters_28 (by decide) ?_
        exact ih4 (X ||| ((zI 1) <<< (zI z19 &&& 31))) (k + 1) (by omega) (zBi_congr (zBi_or h1 (zBi_one (by omega))) (fun z a1 a2 => ⟨fun v => v.elim (fun ⟨q, q1, q2, q3⟩ => ⟨q, q1, by omega, q3⟩) (fun v => ⟨k, by omega, by omega, by omega⟩), fun ⟨q, q1, q2, q3⟩ => (show q < k ∨ q = k by omega).elim (fun v => Or.inl ⟨q, q1, v, q3⟩) (fun v => Or.inr (by rw [← q3, v]; omega))⟩)) (by omega) _ (lv_sub hl [2, 1, 0] rfl)
  exact lp4 _ (zI 0) 0 (by omega) (zBi_congr zBi_0 (fun z a1 a2 => ⟨fun v => v.elim, fun ⟨q, q1, q2, _⟩ => absurd q2 (by omega)⟩)) (Nat.lt_succ_self _) _ (lv_sub hl [2, 1, 0] rfl)

theorem mX10_classes_0 : ∀ w ∈ wsX100, w ∈ wsX10_classes := by decide +kernel
theorem mX10_classes_1 : (Cond.fieldLink RX10 7 "BorderRunsModel" "s" "[I") ∈ wsX10_classes := by decide +kernel
set_option maxHeartbeats 4000000 in
set_option maxRecDepth 100000 in
/-- X10_classes -/
theorem kX10_classes (l : Launch) (g : zG) (y sa ta oa : Nat) (f gt od : Int → Int) (sv ik tp : Int) (w : Int → Int) (n : Int) (hs : SL f 0 w n)  : Met l yX10_classes wsX10_classes (zRm 4 99) (zP g [.ref y] (RM g y sa ta oa f gt od sv ik tp)) (vp_Si (fun v => ∃ z : Int, v = zI z ∧ z = zCl w n ∧ 0 ≤ z ∧ z ≤ 1640)) 0 0 (fun _ => False) := by
  refine Met.ofZ (cc := cX10_classes) (maxL := 4) (ret := (some .int)) (by decide) rfl (Nat.le_of_ble_eq_true rfl) ?_
  intro p e s m args below meth c ls hx hb hr hlocks S hin hK hpic hl
  have hown := S.2.2.2.1
  have hts := S.2.2.2.2
  have hl : lv_has ls 4 [(0, .ref y)] := hl
  obtain ⟨F, G, O, hP, hF, hG, hO, hdis, hrg⟩ := id hpic
  have hn := hs.2.1
  refine zv_iconst hx hb dX10_classes_0 ?_
  refine lv_istore_n (lv' := [(1, .int (zI 0)), (0, .ref y)]) hx hb dX10_classes_1 rfl hl (by decide) rfl (fun ls hl => ?_)
  refine zv_iconst hx hb dX10_classes_2 ?_
  refine lv_istore_n (lv' := [(2, .int (zI 0)), (1, .int (zI 0)), (0, .ref y)]) hx hb dX10_classes_3 rfl hl (by decide) rfl (fun ls hl => ?_)
  have lp4 : ∀ (z_f : Nat) (o : Int) (i : Int), (0 ≤ i ∧ i ≤ n ∧ 0 ≤ o ∧ o ≤ 40 * i) → (o = zKl w n i) → ((n - i).toNat) < z_f → ∀ (ls : Array Slot), lv_has ls 4 [(0, .ref y), (1, .int (zI o)), (2, .int (zI i))] → W p l e (zRm 4 99) s m args below meth c s.heap [] 0 0 (MQ below (vp_Si (fun v => ∃ z : Int, v = zI z ∧ z = zCl w n ∧ 0 ≤ z ∧ z ≤ 1640)) args s 0 0 (fun _ => False)) (F0 m 4 ls []) := by
    intro z_f
    induction z_f with
    | zero => intro o i h0 h1 z_m; exact absurd z_m (Nat.not_lt_zero _)
    | succ z_f ih4 =>
      intro o i h0 h1 z_m4 ls hl
      refine lv_iload_n hx hb dX10_classes_4 rfl (lv_at hl 2 rfl) ?_
      refine lv_aload_n hx hb dX10_classes_5 rfl (lv_at hl 0 rfl) ?_
      refine va_get (D := g.1) (ci := 5) (v := .ref sa) (C := RX10) (T := TX10) (N := 6) hx hb hts mX10_classes_0 hown hK hP 0 rfl rfl 0 (by decide) (hts _ mX10_classes_1) (fun _ h9 => h9) rfl dX10_classes_6 ?_
      refine zv_iconst hx hb dX10_classes_9 ?_
      refine va_iald (D := g.1) hx hb hK hP 1 0 rfl rfl (zI_in (by omega) (by decide)) dX10_classes_10 ?_
      rw [zI_cl (by omega)]
      rw [(hF 0 (by omega) (by omega)).1.trans (congrArg zI hs.1)]
      refine zv_icmp_ge (tgt := 70) hx hb dX10_classes_11 (by decide) (by omega) (by omega) (fun c11 => ?_) (fun c11 => ?_)
      · have e9 : o = zCl w n := by rw [h1, show i = n by omega]; exact zKl_cl w (by omega)
        refine lv_iload_n hx hb dX10_classes_70 rfl (lv_at hl 1 rfl) ?_
        exact zr_i hx hb hr hlocks dX10_classes_71 (⟨_, rfl, e9, by omega, by omega⟩)
      · refine lv_iload_n hx hb dX10_classes_14 rfl (lv_at hl 2 rfl) ?_
        refine zv_iconst hx hb dX10_classes_15 ?_
        refine zv_iadd hx hb dX10_classes_16 ?_
        refine lv_istore_n (lv' := [(3, .int (zI (i + 1))), (0, .ref y), (1, .int (zI o)), (2, .int (zI i))]) hx hb dX10_classes_17 rfl hl (by decide) rfl (fun ls hl => ?_)
        have lp18 : ∀ (z_f : Nat) (o2 : Int) (t : Int), (i + 1 ≤ t ∧ t ≤ n + 1 ∧ 0 ≤ o2 ∧ o2 ≤ 40 * i + t) → (o2 = zKl w n i + zC (fun t => zNew w i (t - i) ∧ zLC w n t (t - i) = t - i) (i + 1) t) → ((n + 1 - t).toNat) < z_f → ∀ (ls : Array Slot), lv_has ls 4 [(0, .ref y), (1, .int (zI o2)), (2, .int (zI i)), (3, .int (zI t))] → W p l e (zRm 4 99) s m args below meth c s.heap [] 0 0 (MQ below (vp_Si (fun v => ∃ z : Int, v = zI z ∧ z = zCl w n ∧ 0 ≤ z ∧ z ≤ 1640)) args s 0 0 (fun _ => False)) (F0 m 18 ls []) := by
          intro z_f
          induction z_f with
          | zero => intro o2 t k0 k1 z_m; exact absurd z_m (Nat.not_lt_zero _)
          | succ z_f ih18 =>
            intro o2 t k0 k1 z_m18 ls hl
            refine lv_iload_n hx hb dX10_classes_18 rfl (lv_at hl 3 rfl) ?_
            refine lv_aload_n hx hb dX10_classes_19 rfl (lv_at hl 0 rfl) ?_
            refine va_get (D := g.1) (ci := 5) (v := .ref sa) (C := RX10) (T := TX10) (N := 6) hx hb hts mX10_classes_0 hown hK hP 0 rfl rfl 0 (by decide) (hts _ mX10_classes_1) (fun _ h9 => h9) rfl dX10_classes_20 ?_
            refine zv_iconst hx hb dX10_classes_23 ?_
            refine va_iald (D := g.1) hx hb hK hP 1 0 rfl rfl (zI_in (by omega) (by decide)) dX10_classes_24 ?_
            rw [zI_cl (by omega)]
            rw [(hF 0 (by omega) (by omega)).1.trans (congrArg zI hs.1)]
            refine zv_icmp_gt (tgt := 64) hx hb dX10_classes_25 (by decide) (by omega) (by omega) (fun c25 => ?_) (fun c25 => ?_)
            · refine zv_iinc (lv' := [(2, .int (zI (i + 1))), (0, .ref y), (1, .int (zI o2)), (3, .int (zI t))]) hx hb dX10_classes_64 hl (k := 2) rfl (by decide) rfl (fun ls hl => ?_)
              refine lv_goto (tgt := 4) hx hb dX10_classes_67 (by decide) ?_
              exact ih4 o2 (i + 1) ((by have q9 := zKlR_bd w (n := n) (i := i) (by omega); have q8 : zKlR w n i = zC (fun t => zNew w i (t - i) ∧ zLC w n t (t - i) = t - i) (i + 1) (n + 1) := rfl; rw [show t = n + 1 by omega] at k1; omega)) ((by show _ = zS (zKlR w n) 0 (i + 1); rw [zS_succ _ (by omega), k1, show t = n + 1 by omega]; rfl)) (by omega) _ (lv_sub hl [1, 2, 0] rfl)
            · refine lv_iload_n hx hb dX10_classes_28 rfl (lv_at hl 1 rfl) ?_
              refine lv_aload_n hx hb dX10_classes_29 rfl (lv_at hl 0 rfl) ?_
              refine zv_iconst hx hb dX10_classes_30 ?_
              refine lv_iload_n hx hb dX10_classes_31 rfl (lv_at hl 2 rfl) ?_
              refine lv_iload_n hx hb dX10_classes_32 rfl (lv_at hl 3 rfl) ?_
              refine zc_V (As := [.int (zI 0), .int (zI i), .int (zI t)]) (rest := [.int (zI o2)]) S hK (kX10_isFirst l g y sa ta oa f gt od sv ik tp 0 w n (by omega) hs i t (by omega)) (cwV 3 hts gX10_classes_X10_isFirst rfl rfl rfl (by decide +kernel) ⟨Nat.le_of_ble_eq_true rfl, Nat.le_of_ble_eq_true rfl⟩) (hpic) (hpic.recv hK) rfl hl.1 rfl (Nat.le_of_ble_eq_true rfl) dX10_classes_33 ⟨Nat.zero_le _, Nat.zero_le _⟩ (fun r33 hr33 => ?_)
              obtain rfl := hr33
              refine zv_ifB_eq (tgt := 55) hx hb dX10_classes_36 (by decide) (fun c36 => ?_) (fun c36 => ?_)
              · refine zv_iconst hx hb dX10_classes_55 ?_
                refine zv_iadd hx hb dX10_classes_56 ?_
                refine lv_istore_n (lv' := [(1, .int (zI (o2 + 0))), (0, .ref y), (2, .int (zI i)), (3, .int (zI t))]) hx hb dX10_classes_57 rfl hl (by decide) rfl (fun ls hl => ?_)
                refine zv_iinc (lv' := [(3, .int (zI (t + 1))), (1, .int (zI (o2 + 0))), (0, .ref y), (2, .int (zI i))]) hx hb dX10_classes_58 hl (k := 3) rfl (by decide) rfl (fun ls hl => ?_)
                refine lv_goto (tgt := 18) hx hb dX10_classes_61 (by decide) ?_
                exact ih18 (o2 + 0) (t + 1) (by omega) (by rw [zC_f (P := (fun t => zNew w i (t - i) ∧ zLC w n t (t - i) = t - i)) (b := t) (by omega) (fun q => by first | exact c36 q.1 | exact c48 (by rw [hz42.1]; exact q.2))]; omega) (by omega) _ (lv_sub hl [2, 1, 3, 0] rfl)
              · refine lv_aload_n hx hb dX10_classes_39 rfl (lv_at hl 0 rfl) ?_
                refine lv_iload_n hx hb dX10_classes_40 rfl (lv_at hl 2 rfl) ?_
                refine lv_iload_n hx hb dX10_classes_41 rfl (lv_at hl 3 rfl) ?_
                refine zc_V (As := [.int (zI i), .int (zI t)]) (rest := [.int (zI o2)]) S hK (kX10_longest l g y sa ta oa f gt od sv ik tp w n hs i t (by omega)) (cwV 2 hts gX10_classes_X10_longest rfl rfl rfl (by decide +kernel) ⟨Nat.le_of_ble_eq_true rfl, Nat.le_of_ble_eq_true rfl⟩) (hpic) (hpic.recv hK) rfl hl.1 rfl (Nat.le_of_ble_eq_true rfl) dX10_classes_42 ⟨Nat.zero_le _, Nat.zero_le _⟩ (fun r42 hr42 => ?_)
                obtain ⟨z42, rfl, hz42⟩ := hr42
                refine lv_iload_n hx hb dX10_classes_45 rfl (lv_at hl 3 rfl) ?_
                refine lv_iload_n hx hb dX10_classes_46 rfl (lv_at hl 2 rfl) ?_
                refine zv_isub hx hb dX10_classes_47 ?_
                refine zv_icmp_ne (tgt := 55) hx hb dX10_classes_48 (by decide) (by omega) (by omega) (fun c48 => ?_) (fun c48 => ?_)
                · refine zv_iconst hx hb dX10_classes_55 ?_
                  refine zv_iadd hx hb dX10_classes_56 ?_
                  refine lv_istore_n (lv' := [(1, .int (zI (o2 + 0))), (0, .ref y), (2, .int (zI i)), (3, .int (zI t))]) hx hb dX10_classes_57 rfl hl (by decide) rfl (fun ls hl => ?_)
                  refine zv_iinc (lv' := [(3, .int (zI (t + 1))), (1, .int (zI (o2 + 0))), (0, .ref y), (2, .int (zI i))]) hx hb dX10_classes_58 hl (k := 3) rfl (by decide) rfl (fun ls hl => ?_)
                  refine lv_goto (tgt := 18) hx hb dX10_classes_61 (by decide) ?_
                  exact ih18 (o2 + 0) (t + 1) (by omega) (by rw [zC_f (P := (fun t => zNew w i (t - i) ∧ zLC w n t (t - i) = t - i)) (b := t) (by omega) (fun q => by first | exact c36 q.1 | exact c48 (by rw [hz42.1]; exact q.2))]; omega) (by omega) _ (lv_sub hl [2, 1, 3, 0] rfl)
                · refine zv_iconst hx hb dX10_classes_51 ?_
                  refine lv_goto (tgt := 56) hx hb dX10_classes_52 (by decide) ?_
                  refine zv_iadd hx hb dX10_classes_56 ?_
                  refine lv_istore_n (lv' := [(1, .int (zI (o2 + 1))), (0, .ref y), (2, .int (zI i)), (3, .int (zI t))]) hx hb dX10_classes_57 rfl hl (by decide) rfl (fun ls hl => ?_)
                  refine zv_iinc (lv' := [(3, .int (zI (t + 1))), (1, .int (zI (o2 + 1))), (0, .ref y), (2, .int (zI i))]) hx hb dX10_classes_58 hl (k := 3) rfl (by decide) rfl (fun ls hl => ?_)
                  refine lv_goto (tgt := 18) hx hb dX10_classes_61 (by decide) ?_
                  exact ih18 (o2 + 1) (t + 1) (by omega) (by rw [zC_t (P := (fun t => zNew w i (t - i) ∧ zLC w n t (t - i) = t - i)) (b := t) (by omega) ⟨c36, by rw [← hz42.1]; omega⟩]; omega) (by omega) _ (lv_sub hl [2, 1, 3, 0] rfl)
        exact lp18 _ o (i + 1) (by omega) (by rw [zC_nil _ (by omega)]; omega) (Nat.lt_succ_self _) _ (lv_sub hl [1, 2, 3, 0] rfl)
  exact lp4 _ 0 0 (by omega) ((zS_nil _ (by omega)).symm) (Nat.lt_succ_self _) _ (lv_sub hl [2, 1, 0] rfl)

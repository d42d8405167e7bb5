theorem mX10_border_0 : ∀ w ∈ wsX100, w ∈ wsX10_border := by decide +kernel
theorem mX10_border_1 : (Cond.fieldLink RX10 7 "BorderRunsModel" "s" "[I") ∈ wsX10_border := by decide +kernel
set_option maxHeartbeats 4000000 in
set_option maxRecDepth 100000 in
/-- X10_border -/
theorem kX10_border (l : Launch) (g : zG) (y sa ta oa : Nat) (f gt od : Int → Int) (sv ik tp : Int) (w : Int → Int) (n : Int) (hs : SL f 0 w n) (i r : Int) (hi : -2147483648 ≤ i ∧ i < 2147483648) (hr0 : -2147483648 ≤ r ∧ r < 2147483648) : Met l yX10_border wsX10_border (zRm 3 72) (zP g [.ref y, .int (zI i), .int (zI r)] (RM g y sa ta oa f gt od sv ik tp)) (vp_Si (fun v => v = zI (aBorder w n i r))) 0 0 (fun _ => False) := by
  refine Met.ofZ (cc := cX10_border) (maxL := 5) (ret := (some .int)) (by decide) rfl (Nat.le_of_ble_eq_true rfl) ?_
  intro p e s m args below meth c ls hx hb hr hlocks S hin hK hpic hl
  have hown := S.2.2.2.1
  have hts := S.2.2.2.2
  have hl : lv_has ls 5 [(0, .ref y), (1, .int (zI i)), (2, .int (zI r))] := hl
  obtain ⟨F, G, O, hP, hF, hG, hO, hdis, hrg⟩ := id hpic
  have hn := hs.2.1
  refine lv_iload_n hx hb dX10_border_0 rfl (lv_at hl 1 rfl) ?_
  refine zv_iconst hx hb dX10_border_1 ?_
  refine lv_aload_n hx hb dX10_border_2 rfl (lv_at hl 0 rfl) ?_
  refine va_get (D := g.1) (ci := 5) (v := .ref sa) (C := RX10) (T := TX10) (N := 6) hx hb hts mX10_border_0 hown hK hP 0 rfl rfl 0 (by decide) (hts _ mX10_border_1) (fun _ h9 => h9) rfl dX10_border_3 ?_
  refine zv_iconst hx hb dX10_border_6 ?_
  refine va_iald (D := g.1) hx hb hK hP 1 0 rfl rfl (zI_in (by omega) (by decide)) dX10_border_7 ?_
  rw [zI_cl (by omega)]
  rw [(hF 0 (by omega) (by omega)).1.trans (congrArg zI hs.1)]
  refine zc_S (As := [.int (zI i), .int (zI 1), .int (zI n)]) (rest := []) S hK (kX10_in l g i 1 n (by omega) (by omega) (by omega)) (va_cwS 3 hts gX10_border_X10_in rfl rfl rfl (by decide +kernel) ⟨Nat.le_of_ble_eq_true rfl, Nat.le_of_ble_eq_true rfl⟩) (trivial) rfl hl.1 rfl (Nat.le_of_ble_eq_true rfl) dX10_border_8 ⟨Nat.zero_le _, Nat.zero_le _⟩ (fun r8 hr8 => ?_)
  obtain rfl := hr8
  refine zv_ifB_ne (tgt := 16) hx hb dX10_border_11 (by decide) (fun c11 => ?_) (fun c11 => ?_)
  · refine lv_iload_n hx hb dX10_border_16 rfl (lv_at hl 2 rfl) ?_
    refine zv_if_ge (tgt := 23) hx hb dX10_border_17 (by decide) (by omega) (fun c17 => ?_) (fun c17 => ?_)
    · refine lv_iload_n hx hb dX10_border_23 rfl (lv_at hl 1 rfl) ?_
      refine lv_istore_n (lv' := [(3, .int (zI i)), (0, .ref y), (1, .int (zI i)), (2, .int (zI r))]) hx hb dX10_border_24 rfl hl (by decide) rfl (fun ls hl => ?_)
      refine zv_iconst hx hb dX10_border_25 ?_
      refine lv_istore (lv' := [(4, .int (zI 0)), (3, .int (zI i)), (0, .ref y), (1, .int (zI i)), (2, .int (zI r))]) hx hb dX10_border_26 hl (by decide) rfl (fun ls hl => ?_)
      have lp28 : ∀ (z_f : Nat) (x : Int) (k : Int), (0 ≤ k ∧ k ≤ r + 1 ∧ 0 ≤ x ∧ k + x ≤ i) → (x = zch w 0 i k.toNat i) → (x.toNat) < z_f → ∀ (ls : Array Slot), lv_has ls 5 [(0, .ref y), (1, .int (zI i)), (2, .int (zI r)), (3, .int (zI x)), (4, .int (zI k))] → W p l e (zRm 3 72) s m args below meth c s.heap [] 0 0 (MQ below (vp_Si (fun v => v = zI (aBorder w n i r))) args s 0 0 (fun _ => False)) (F0 m 28 ls []) := by
        intro z_f
        induction z_f with
        | zero => intro x k h0 h1 z_m; exact absurd z_m (Nat.not_lt_zero _)
        | succ z_f ih28 =>
          intro x k h0 h1 z_m28 ls hl
          refine lv_iload hx hb dX10_border_28 (lv_at hl 4 rfl) ?_
          refine lv_iload_n hx hb dX10_border_30 rfl (lv_at hl 2 rfl) ?_
          refine zv_icmp_gt (tgt := 53) hx hb dX10_border_31 (by decide) (by omega) (by omega) (fun c31 => ?_) (fun c31 => ?_)
          · have e9 : zch w 0 i (r.toNat + 1) i = x := by rw [h1, show k.toNat = r.toNat + 1 by omega]
            refine lv_iload_n hx hb dX10_border_53 rfl (lv_at hl 3 rfl) ?_
            refine zv_if_le (tgt := 61) hx hb dX10_border_54 (by decide) (by omega) (fun c54 => ?_) (fun c54 => ?_)
            · refine zv_bipush hx hb dX10_border_61 (by decide +kernel) ?_
              exact zr_i hx hb hr hlocks dX10_border_63 (by unfold aBorder zBorder; rw [zIf_t (by omega), zIf_f (by omega), e9, if_neg (by omega)])
            · refine lv_iload_n hx hb dX10_border_57 rfl (lv_at hl 3 rfl) ?_
              refine lv_goto (tgt := 63) hx hb dX10_border_58 (by decide) ?_
              exact zr_i hx hb hr hlocks dX10_border_63 (by unfold aBorder zBorder; rw [zIf_t (by omega), zIf_f (by omega), e9, if_pos (by omega)])
          · refine lv_iload_n hx hb dX10_border_34 rfl (lv_at hl 3 rfl) ?_
            refine zv_if_le (tgt := 53) hx hb dX10_border_35 (by decide) (by omega) (fun c35 => ?_) (fun c35 => ?_)
            · have e9 : zch w 0 i (r.toNat + 1) i = x := by
                have h8 := zch_zero (h1.symm.trans (show x = 0 by omega)) (r.toNat + 1 - k.toNat)
                rw [show k.toNat + (r.toNat + 1 - k.toNat) = r.toNat + 1 by omega] at h8
                omega
              refine lv_iload_n hx hb dX10_border_53 rfl (lv_at hl 3 rfl) ?_
              refine zv_if_le (tgt := 61) hx hb dX10_border_54 (by decide) (by omega) (fun c54 => ?_) (fun c54 => ?_)
              · refine zv_bipush hx hb dX10_border_61 (by decide +kernel) ?_
                exact zr_i hx hb hr hlocks dX10_border_63 (by unfold aBorder zBorder; rw [zIf_t (by omega), zIf_f (by omega), e9, if_neg (by omega)])
              · refine lv_iload_n hx hb dX10_border_57 rfl (lv_at hl 3 rfl) ?_
                refine lv_goto (tgt := 63) hx hb dX10_border_58 (by decide) ?_
                exact zr_i hx hb hr hlocks dX10_border_63 (by unfold aBorder zBorder; rw [zIf_t (by omega), zIf_f (by omega), e9, if_pos (by omega)])
            · refine lv_aload_n hx hb dX10_border_38 rfl (lv_at hl 0 rfl) ?_
              refine zv_iconst hx hb dX10_border_39 ?_
              refine zv_iconst hx hb dX10_border_40 ?_
              refine lv_iload_n hx hb dX10_border_41 rfl (lv_at hl 1 rfl) ?_
              refine lv_iload_n hx hb dX10_border_42 rfl (lv_at hl 3 rfl) ?_
              refine zc_V (As := [.int (zI 0), .int (zI 0), .int (zI i), .int (zI x)]) (rest := []) S hK (kX10_edge l g y sa ta oa f gt od sv ik tp 0 w n (by omega) hs 0 i x (by omega)) (cwV 4 hts gX10_border_X10_edge rfl rfl rfl (by decide +kernel) ⟨Nat.le_of_ble_eq_true rfl, Nat.le_of_ble_eq_true rfl⟩) (hpic) (hpic.recv hK) rfl hl.1 rfl (Nat.le_of_ble_eq_true rfl) dX10_border_43 ⟨Nat.zero_le _, Nat.zero_le _⟩ (fun r43 hr43 => ?_)
              obtain ⟨z43, rfl, hz43⟩ := hr43
              refine lv_istore_n (lv' := [(3, .int (zI z43)), (0, .ref y), (1, .int (zI i)), (2, .int (zI r)), (4, .int (zI k))]) hx hb dX10_border_46 rfl hl (by decide) rfl (fun ls hl => ?_)
              refine zv_iinc (lv' := [(4, .int (zI (k + 1))), (3, .int (zI z43)), (0, .ref y), (1, .int (zI i)), (2, .int (zI r))]) hx hb dX10_border_47 hl (k := 4) rfl (by decide) rfl (fun ls hl => ?_)
              refine lv_goto (tgt := 28) hx hb dX10_border_50 (by decide) ?_
              exact ih28 z43 (k + 1) (by omega) (by rw [show (k + 1).toNat = k.toNat + 1 by omega, zch_end, ← h1]; exact hz43.1) (by omega) _ (lv_sub hl [2, 3, 4, 1, 0] rfl)
      exact lp28 _ i 0 (by omega) (rfl) (Nat.lt_succ_self _) _ (lv_sub hl [2, 3, 4, 1, 0] rfl)
    · refine zv_bipush hx hb dX10_border_20 (by decide +kernel) ?_
      exact zr_i hx hb hr hlocks dX10_border_22 (by unfold aBorder; rw [zIf_t (by omega), zIf_t (by omega)])
  · refine zv_iconst hx hb dX10_border_14 ?_
    exact zr_i hx hb hr hlocks dX10_border_15 (by unfold aBorder; rw [zIf_f (by omega)])

set_option maxHeartbeats 4000000 in
set_option maxRecDepth 100000 in
/-- X10_alike -/
theorem kX10_alike (l : Launch) (g : zG) (y sa ta oa : Nat) (f gt od : Int → Int) (sv ik tp : Int) (w : Int → Int) (n : Int) (hs : SL f 0 w n) (i j : Int) (hi : -2147483648 ≤ i ∧ i < 2147483648) (hj : -2147483648 ≤ j ∧ j < 2147483648) : Met l yX10_alike wsX10_alike (zRm 2 45) (zP g [.ref y, .int (zI i), .int (zI j)] (RM g y sa ta oa f gt od sv ik tp)) (vp_Si (fun v => v = zI (aAlike w n i j))) 0 0 (fun _ => False) := by
  refine Met.ofZ (cc := cX10_alike) (maxL := 3) (ret := (some .int)) (by decide) rfl (Nat.le_of_ble_eq_true rfl) ?_
  intro p e s m args below meth c ls hx hb hr hlocks S hin hK hpic hl
  have hown := S.2.2.2.1
  have hts := S.2.2.2.2
  have hl : lv_has ls 3 [(0, .ref y), (1, .int (zI i)), (2, .int (zI j))] := hl
  obtain ⟨F, G, O, hP, hF, hG, hO, hdis, hrg⟩ := id hpic
  have hn := hs.2.1
  refine lv_aload_n hx hb dX10_alike_0 rfl (lv_at hl 0 rfl) ?_
  refine lv_iload_n hx hb dX10_alike_1 rfl (lv_at hl 1 rfl) ?_
  refine zc_V (As := [.int (zI i)]) (rest := []) S hK (kX10_isPlace l g y sa ta oa f gt od sv ik tp w n hs i (by omega)) (cwV 1 hts gX10_alike_X10_isPlace rfl rfl rfl (by decide +kernel) ⟨Nat.le_of_ble_eq_true rfl, Nat.le_of_ble_eq_true rfl⟩) (hpic) (hpic.recv hK) rfl hl.1 rfl (Nat.le_of_ble_eq_true rfl) dX10_alike_2 ⟨Nat.zero_le _, Nat.zero_le _⟩ (fun r2 hr2 => ?_)
  obtain rfl := hr2
  refine zv_ifB_eq (tgt := 25) hx hb dX10_alike_5 (by decide) (fun c5 => ?_) (fun c5 => ?_)
  · refine zv_iconst hx hb dX10_alike_25 ?_
    exact zr_i hx hb hr hlocks dX10_alike_26 (by unfold aAlike; rw [zIf_f (by omega)])
  · refine lv_aload_n hx hb dX10_alike_8 rfl (lv_at hl 0 rfl) ?_
    refine lv_iload_n hx hb dX10_alike_9 rfl (lv_at hl 2 rfl) ?_
    refine zc_V (As := [.int (zI j)]) (rest := []) S hK (kX10_isPlace l g y sa ta oa f gt od sv ik tp w n hs j (by omega)) (cwV 1 hts gX10_alike_X10_isPlace rfl rfl rfl (by decide +kernel) ⟨Nat.le_of_ble_eq_true rfl, Nat.le_of_ble_eq_true rfl⟩) (hpic) (hpic.recv hK) rfl hl.1 rfl (Nat.le_of_ble_eq_true rfl) dX10_alike_10 ⟨Nat.zero_le _, Nat.zero_le _⟩ (fun r10 hr10 => ?_)
    obtain rfl := hr10
    refine zv_ifB_eq (tgt := 25) hx hb dX10_alike_13 (by decide) (fun c13 => ?_) (fun c13 => ?_)
    · refine zv_iconst hx hb dX10_alike_25 ?_
      exact zr_i hx hb hr hlocks dX10_alike_26 (by unfold aAlike; rw [zIf_f (by omega)])
    · refine lv_aload_n hx hb dX10_alike_16 rfl (lv_at hl 0 rfl) ?_
      refine lv_iload_n hx hb dX10_alike_17 rfl (lv_at hl 1 rfl) ?_
      refine lv_iload_n hx hb dX10_alike_18 rfl (lv_at hl 2 rfl) ?_
      refine zc_V (As := [.int (zI i), .int (zI j)]) (rest := []) S hK (kX10_alikeFrom l g y sa ta oa f gt od sv ik tp w n hs i j (by omega) (by omega)) (cwV 2 hts gX10_alike_X10_alikeFrom rfl rfl rfl (by decide +kernel) ⟨Nat.le_of_ble_eq_true rfl, Nat.le_of_ble_eq_true rfl⟩) (hpic) (hpic.recv hK) rfl hl.1 rfl (Nat.le_of_ble_eq_true rfl) dX10_alike_19 ⟨Nat.zero_le _, Nat.zero_le _⟩ (fun r19 hr19 => ?_)
      obtain ⟨z19, rfl, hz19⟩ := hr19
      refine lv_goto (tgt := 26) hx hb dX10_alike_22 (by decide) ?_
      exact zr_i hx hb hr hlocks dX10_alike_26 (by unfold aAlike; rw [zIf_t ⟨c5, c13⟩]; exact congrArg zI hz19.1)

theorem mX10_square_0 : ∀ w ∈ wsX100, w ∈ wsX10_square := by decide +kernel
theorem mX10_square_1 : (Cond.fieldLink RX10 7 "BorderRunsModel" "s" "[I") ∈ wsX10_square := by decide +kernel
set_option maxHeartbeats 4000000 in
set_option maxRecDepth 100000 in
/-- X10_square -/
theorem kX10_square (l : Launch) (g : zG) (y sa ta oa : Nat) (f gt od : Int → Int) (sv ik tp : Int) (w : Int → Int) (n : Int) (hs : SL f 0 w n) (r q : Int) (hr0 : -2147483648 ≤ r ∧ r < 2147483648) (hq : -2147483648 ≤ q ∧ q < 2147483648) : Met l yX10_square wsX10_square (zRm 3 70) (zP g [.ref y, .int (zI r), .int (zI q)] (RM g y sa ta oa f gt od sv ik tp)) (vp_Si (fun v => v = zI (aSquare w n r q))) 0 0 (fun _ => False) := by
  refine Met.ofZ (cc := cX10_square) (maxL := 6) (ret := (some .int)) (by decide) rfl (Nat.le_of_ble_eq_true rfl) ?_
  intro p e s m args below meth c ls hx hb hr hlocks S hin hK hpic hl
  have hown := S.2.2.2.1
  have hts := S.2.2.2.2
  have hl : lv_has ls 6 [(0, .ref y), (1, .int (zI r)), (2, .int (zI q))] := hl
  obtain ⟨F, G, O, hP, hF, hG, hO, hdis, hrg⟩ := id hpic
  have hn := hs.2.1
  refine lv_iload_n hx hb dX10_square_0 rfl (lv_at hl 1 rfl) ?_
  refine zv_if_lt (tgt := 13) hx hb dX10_square_1 (by decide) (by omega) (fun c1 => ?_) (fun c1 => ?_)
  · refine zv_bipush hx hb dX10_square_13 (by decide +kernel) ?_
    exact zr_i hx hb hr hlocks dX10_square_15 (by unfold aSquare; rw [zIf_f (by omega)])
  · refine lv_iload_n hx hb dX10_square_4 rfl (lv_at hl 2 rfl) ?_
    refine zv_iconst hx hb dX10_square_5 ?_
    refine zv_iconst hx hb dX10_square_6 ?_
    refine zc_S (As := [.int (zI q), .int (zI 0), .int (zI 1)]) (rest := []) S hK (kX10_in l g q 0 1 (by omega) (by omega) (by omega)) (va_cwS 3 hts gX10_square_X10_in rfl rfl rfl (by decide +kernel) ⟨Nat.le_of_ble_eq_true rfl, Nat.le_of_ble_eq_true rfl⟩) (trivial) rfl hl.1 rfl (Nat.le_of_ble_eq_true rfl) dX10_square_7 ⟨Nat.zero_le _, Nat.zero_le _⟩ (fun r7 hr7 => ?_)
    obtain rfl := hr7
    refine zv_ifB_ne (tgt := 16) hx hb dX10_square_10 (by decide) (fun c10 => ?_) (fun c10 => ?_)
    · refine zv_iconst hx hb dX10_square_16 ?_
      refine lv_istore_n (lv' := [(3, .int (zI 0)), (0, .ref y), (1, .int (zI r)), (2, .int (zI q))]) hx hb dX10_square_17 rfl hl (by decide) rfl (fun ls hl => ?_)
      refine zv_iconst hx hb dX10_square_18 ?_
      refine lv_istore (lv' := [(4, .int (zI 0)), (3, .int (zI 0)), (0, .ref y), (1, .int (zI r)), (2, .int (zI q))]) hx hb dX10_square_19 hl (by decide) rfl (fun ls hl => ?_)
      have lp21 : ∀ (z_f : Nat) (o : Int) (i : Int), (0 ≤ i ∧ i ≤ n ∧ 0 ≤ o ∧ o ≤ 40 * i) → (o = zCC (zSqP w) n i) → (o ≤ r) → ((n - i).toNat) < z_f → ∀ (ls : Array Slot), lv_has ls 6 [(0, .ref y), (1, .int (zI r)), (2, .int (zI q)), (3, .int (zI o)), (4, .int (zI i))] → W p l e (zRm 3 70) s m args below meth c s.heap [] 0 0 (MQ below (vp_Si (fun v => v = zI (aSquare w n r q))) args s 0 0 (fun _ => False)) (F0 m 21 ls []) := by
        intro z_f
        induction z_f with
        | zero => intro o i h0 h1 h2 z_m; exact absurd z_m (Nat.not_lt_zero _)
        | succ z_f ih21 =>
          intro o i h0 h1 h2 z_m21 ls hl
          refine lv_iload hx hb dX10_square_21 (lv_at hl 4 rfl) ?_
          refine lv_aload_n hx hb dX10_square_23 rfl (lv_at hl 0 rfl) ?_
          refine va_get (D := g.1) (ci := 5) (v := .ref sa) (C := RX10) (T := TX10) (N := 6) hx hb hts mX10_square_0 hown hK hP 0 rfl rfl 0 (by decide) (hts _ mX10_square_1) (fun _ h9 => h9) rfl dX10_square_24 ?_
          refine zv_iconst hx hb dX10_square_27 ?_
          refine va_iald (D := g.1) hx hb hK hP 1 0 rfl rfl (zI_in (by omega) (by decide)) dX10_square_28 ?_
          rw [zI_cl (by omega)]
          rw [(hF 0 (by omega) (by omega)).1.trans (congrArg zI hs.1)]
          refine zv_icmp_ge (tgt := 95) hx hb dX10_square_29 (by decide) (by omega) (by omega) (fun c29 => ?_) (fun c29 => ?_)
          · have e9 : zRk (zSqP w) n r (fun i d => @ite _ (q = 0) (Classical.propDecidable _) i d) = -4 := zRk_none _ (by have e8 := congrArg (zCC (zSqP w) n) (show n = i by omega); omega)
            refine zv_bipush hx hb dX10_square_95 (by decide +kernel) ?_
            exact zr_i hx hb hr hlocks dX10_square_97 (by unfold aSquare; rw [zIf_t (by omega), e9])
          · refine zv_iconst hx hb dX10_square_32 ?_
            refine lv_istore (lv' := [(5, .int (zI 1)), (0, .ref y), (1, .int (zI r)), (2, .int (zI q)), (3, .int (zI o)), (4, .int (zI i))]) hx hb dX10_square_33 hl (by decide) rfl (fun ls hl => ?_)
            have lp35 : ∀ (z_f : Nat) (o2 : Int) (d : Int), (1 ≤ d ∧ d ≤ (n - i) / 2 + 1 ∧ 0 ≤ o2 ∧ o2 ≤ 40 * i + d) → (o2 = zCC (zSqP w) n i + zC ((zSqP w) i) 1 d) → (o2 ≤ r) → ((n + 1 - d).toNat) < z_f → ∀ (ls : Array Slot), lv_has ls 6 [(0, .ref y), (1, .int (zI r)), (2, .int (zI q)), (3, .int (zI o2)), (4, .int (zI i)), (5, .int (zI d))] → W p l e (zRm 3 70) s m args below meth c s.heap [] 0 0 (MQ below (vp_Si (fun v => v = zI (aSquare w n r q))) args s 0 0 (fun _ => False)) (F0 m 35 ls []) := by
              intro z_f
              induction z_f with
              | zero => intro o2 d k0 k1 k2 z_m; exact absurd z_m (Nat.not_lt_zero _)
              | succ z_f ih35 =>
                intro o2 d k0 k1 k2 z_m35 ls hl
                refine lv_iload hx hb dX10_square_35 (lv_at hl 4 rfl) ?_
                refine zv_iconst hx hb dX10_square_37 ?_
                refine lv_iload hx hb dX10_square_38 (lv_at hl 5 rfl) ?_
                refine zv_imul hx hb dX10_square_40 ?_
                refine zv_iadd hx hb dX10_square_41 ?_
                refine lv_aload_n hx hb dX10_square_42 rfl (lv_at hl 0 rfl) ?_
                refine va_get (D := g.1) (ci := 5) (v := .ref sa) (C := RX10) (T := TX10) (N := 6) hx hb hts mX10_square_0 hown hK hP 0 rfl rfl 0 (by decide) (hts _ mX10_square_1) (fun _ h9 => h9) rfl dX10_square_43 ?_
                refine zv_iconst hx hb dX10_square_46 ?_
                refine va_iald (D := g.1) hx hb hK hP 1 0 rfl rfl (zI_in (by omega) (by decide)) dX10_square_47 ?_
                rw [zI_cl (by omega)]
                rw [(hF 0 (by omega) (by omega)).1.trans (congrArg zI hs.1)]
                refine zv_icmp_gt (tgt := 89) hx hb dX10_square_48 (by decide) (by omega) (by omega) (fun c48 => ?_) (fun c48 => ?_)
                · refine zv_iinc (lv' := [(4, .int (zI (i + 1))), (0, .ref y), (1, .int (zI r)), (2, .int (zI q)), (3, .int (zI o2)), (5, .int (zI d))]) hx hb dX10_square_89 hl (k := 4) rfl (by decide) rfl (fun ls hl => ?_)
                  refine lv_goto (tgt := 21) hx hb dX10_square_92 (by decide) ?_
                  exact ih21 o2 (i + 1) ((by have q9 := zRow_bd (zSqP w) (n := n) (i := i) (by omega); have q8 : zRow (zSqP w) n i = zC ((zSqP w) i) 1 ((n - i) / 2 + 1) := rfl; omega)) ((by rw [zCC_succ _ (by omega), k1, show d = (n - i) / 2 + 1 by omega]; rfl)) (by omega) (by omega) _ (lv_sub hl [1, 2, 3, 4, 0] rfl)
                · refine lv_aload_n hx hb dX10_square_51 rfl (lv_at hl 0 rfl) ?_
                  refine zv_iconst hx hb dX10_square_52 ?_
                  refine lv_iload hx hb dX10_square_53 (lv_at hl 4 rfl) ?_
                  refine lv_iload hx hb dX10_square_55 (lv_at hl 5 rfl) ?_
                  refine zc_V (As := [.int (zI 0), .int (zI i), .int (zI d)]) (rest := []) S hK (kX10_isSquare l g y sa ta oa f gt od sv ik tp 0 w n (by omega) hs i d (by omega)) (cwV 3 hts gX10_square_X10_isSquare rfl rfl rfl (by decide +kernel) ⟨Nat.le_of_ble_eq_true rfl, Nat.le_of_ble_eq_true rfl⟩) (hpic) (hpic.recv hK) rfl hl.1 rfl (Nat.le_of_ble_eq_true rfl) dX10_square_57 ⟨Nat.zero_le _, Nat.zero_le _⟩ (fun r57 hr57 => ?_)
                  obtain rfl := hr57
                  refine zv_ifB_eq (tgt := 83) hx hb dX10_square_60 (by decide) (fun c60 => ?_) (fun c60 => ?_)
                  · refine zv_iinc (lv' := [(5, .int (zI (d + 1))), (0, .ref y), (1, .int (zI r)), (2, .int (zI q)), (3, .int (zI o2)), (4, .int (zI i))]) hx hb dX10_square_83 hl (k := 5) rfl (by decide) rfl (fun ls hl => ?_)
                    refine lv_goto (tgt := 35) hx hb dX10_square_86 (by decide) ?_
                    exact ih35 o2 (d + 1) (by omega) (by rw [zC_f (P := (zSqP w) i) (b := d) (by omega) (fun z => c60 ⟨by omega, z⟩)]; omega) (by omega) (by omega) _ (lv_sub hl [1, 2, 3, 4, 5, 0] rfl)
                  · refine lv_iload_n hx hb dX10_square_63 rfl (lv_at hl 3 rfl) ?_
                    refine lv_iload_n hx hb dX10_square_64 rfl (lv_at hl 1 rfl) ?_
                    refine zv_icmp_ne (tgt := 80) hx hb dX10_square_65 (by decide) (by omega) (by omega) (fun c65 => ?_) (fun c65 => ?_)
                    · refine zv_iinc (lv' := [(3, .int (zI (o2 + 1))), (0, .ref y), (1, .int (zI r)), (2, .int (zI q)), (4, .int (zI i)), (5, .int (zI d))]) hx hb dX10_square_80 hl (k := 3) rfl (by decide) rfl (fun ls hl => ?_)
                      refine zv_iinc (lv' := [(5, .int (zI (d + 1))), (3, .int (zI (o2 + 1))), (0, .ref y), (1, .int (zI r)), (2, .int (zI q)), (4, .int (zI i))]) hx hb dX10_square_83 hl (k := 5) rfl (by decide) rfl (fun ls hl => ?_)
                      refine lv_goto (tgt := 35) hx hb dX10_square_86 (by decide) ?_
                      exact ih35 (o2 + 1) (d + 1) (by omega) (by rw [zC_t (P := (zSqP w) i) (b := d) (by omega) (c60.2)]; omega) (by omega) (by omega) _ (lv_sub hl [2, 3, 4, 1, 5, 0] rfl)
                    · have e9 := zRk_hit (fun i d => @ite _ (q = 0) (Classical.propDecidable _) i d) (show zIsRk (zSqP w) n r i d from ⟨by omega, c60.2, by omega⟩)
                      refine lv_iload_n hx hb dX10_square_68 rfl (lv_at hl 2 rfl) ?_
                      refine zv_if_ne (tgt := 77) hx hb dX10_square_69 (by decide) (by omega) (fun c69 => ?_) (fun c69 => ?_)
                      · replace e9 := e9.trans (if_neg c69)
                        refine lv_iload hx hb dX10_square_77 (lv_at hl 5 rfl) ?_
                        exact zr_i hx hb hr hlocks dX10_square_79 (by unfold aSquare; rw [zIf_t (by omega), e9])
                      · replace e9 := e9.trans (if_pos c69)
                        refine lv_iload hx hb dX10_square_72 (lv_at hl 4 rfl) ?_
                        refine lv_goto (tgt := 79) hx hb dX10_square_74 (by decide) ?_
                        exact zr_i hx hb hr hlocks dX10_square_79 (by unfold aSquare; rw [zIf_t (by omega), e9])
            exact lp35 _ o 1 (by omega) (by rw [zC_nil _ (by omega)]; omega) (h2) (Nat.lt_succ_self _) _ (lv_sub hl [1, 2, 3, 4, 5, 0] rfl)
      exact lp21 _ 0 0 (by omega) ((zCC_0 _ n).symm) (by omega) (Nat.lt_succ_self _) _ (lv_sub hl [2, 3, 4, 1, 0] rfl)
    · refine zv_bipush hx hb dX10_square_13 (by decide +kernel) ?_
      exact zr_i hx hb hr hlocks dX10_square_15 (by unfold aSquare; rw [zIf_f (by omega)])

set_option maxHeartbeats 4000000 in
set_option maxRecDepth 100000 in
/-- X10_root -/
theorem kX10_root (l : Launch) (g : zG) (y sa ta oa : Nat) (f gt od : Int → Int) (sv ik tp : Int) (w : Int → Int) (n : Int) (hs : SL f 0 w n) (i t d : Int) (hi : 0 ≤ i ∧ 1 ≤ d ∧ i + d ≤ t ∧ t ≤ n) : Met l yX10_root wsX10_root (zRm 1 22) (zP g [.ref y, .int (zI i), .int (zI t), .int (zI d)] (RM g y sa ta oa f gt od sv ik tp)) (vp_Si (fun v => ∃ z : Int, v = zI z ∧ z = zRootTo w d i (t - d + 1) ∧ i ≤ z ∧ z ≤ t - d)) 0 0 (fun _ => False) := by
  refine Met.ofZ (cc := cX10_root) (maxL := 7) (ret := (some .int)) (by decide) rfl (Nat.le_of_ble_eq_true rfl) ?_
  intro p e s m args below meth c ls hx hb hr hlocks S hin hK hpic hl
  have hown := S.2.2.2.1
  have hts := S.2.2.2.2
  have hl : lv_has ls 7 [(0, .ref y), (1, .int (zI i)), (2, .int (zI t)), (3, .int (zI d))] := hl
  obtain ⟨F, G, O, hP, hF, hG, hO, hdis, hrg⟩ := id hpic
  have hn := hs.2.1
  refine lv_iload_n hx hb dX10_root_0 rfl (lv_at hl 1 rfl) ?_
  refine lv_istore (lv' := [(4, .int (zI i)), (0, .ref y), (1, .int (zI i)), (2, .int (zI t)), (3, .int (zI d))]) hx hb dX10_root_1 hl (by decide) rfl (fun ls hl => ?_)
  refine lv_iload_n hx hb dX10_root_3 rfl (lv_at hl 2 rfl) ?_
  refine zv_iconst hx hb dX10_root_4 ?_
  refine zv_iadd hx hb dX10_root_5 ?_
  refine lv_istore (lv' := [(5, .int (zI (i + 1))), (4, .int (zI i)), (0, .ref y), (1, .int (zI i)), (2, .int (zI t)), (3, .int (zI d))]) hx hb dX10_root_6 hl (by decide) rfl (fun ls hl => ?_)
  have lp8 : ∀ (z_f : Nat) (o : Int) (k : Int), (i < k ∧ k ≤ t - d + 1 ∧ i ≤ o ∧ o < k) → (o = zRootTo w d i k) → ((t - d + 1 - k).toNat) < z_f → ∀ (ls : Array Slot), lv_has ls 7 [(0, .ref y), (1, .int (zI i)), (2, .int (zI t)), (3, .int (zI d)), (4, .int (zI o)), (5, .int (zI k))] → W p l e (zRm 1 22) s m args below meth c s.heap [] 0 0 (MQ below (vp_Si (fun v => ∃ z : Int, v = zI z ∧ z = zRootTo w d i (t - d + 1) ∧ i ≤ z ∧ z ≤ t - d)) args s 0 0 (fun _ => False)) (F0 m 8 ls []) := by
    intro z_f
    induction z_f with
    | zero => intro o k h0 h1 z_m; exact absurd z_m (Nat.not_lt_zero _)
    | succ z_f ih8 =>
      intro o k h0 h1 z_m8 ls hl
      refine lv_iload hx hb dX10_root_8 (lv_at hl 5 rfl) ?_
      refine lv_iload_n hx hb dX10_root_10 rfl (lv_at hl 3 rfl) ?_
      refine zv_iadd hx hb dX10_root_11 ?_
      refine lv_iload_n hx hb dX10_root_12 rfl (lv_at hl 2 rfl) ?_
      refine zv_icmp_gt (tgt := 98) hx hb dX10_root_13 (by decide) (by omega) (by omega) (fun c13 => ?_) (fun c13 => ?_)
      · have e9 : o = zRootTo w d i (t - d + 1) := by rw [h1, show k = t - d + 1 by omega]
        refine lv_iload hx hb dX10_root_98 (lv_at hl 4 rfl) ?_
        exact zr_i hx hb hr hlocks dX10_root_100 (⟨_, rfl, e9, by omega, by omega⟩)
      · refine zv_iconst hx hb dX10_root_16 ?_
        refine lv_istore (lv' := [(6, .int (zI 0)), (0, .ref y), (1, .int (zI i)), (2, .int (zI t)), (3, .int (zI d)), (4, .int (zI o)), (5, .int (zI k))]) hx hb dX10_root_17 hl (by decide) rfl (fun ls hl => ?_)
        have lp19 : ∀ (z_f : Nat) (x : Int), (0 ≤ x ∧ x ≤ d) → (zSm w k o x) → ((d - x).toNat) < z_f → ∀ (ls : Array Slot), lv_has ls 7 [(0, .ref y), (1, .int (zI i)), (2, .int (zI t)), (3, .int (zI d)), (4, .int (zI o)), (5, .int (zI k)), (6, .int (zI x))] → W p l e (zRm 1 22) s m args below meth c s.heap [] 0 0 (MQ below (vp_Si (fun v => ∃ z : Int, v = zI z ∧ z = zRootTo w d i (t - d + 1) ∧ i ≤ z ∧ z ≤ t - d)) args s 0 0 (fun _ => False)) (F0 m 19 ls []) := by
          intro z_f
          induction z_f with
          | zero => intro x k0 k1 z_m; exact absurd z_m (Nat.not_lt_zero _)
          | succ z_f ih19 =>
            intro x k0 k1 z_m19 ls hl
            refine lv_iload hx hb dX10_root_19 (lv_at hl 6 rfl) ?_
            refine lv_iload_n hx hb dX10_root_21 rfl (lv_at hl 3 rfl) ?_
            refine zv_icmp_ge (tgt := 54) hx hb dX10_root_22 (by decide) (by omega) (by omega) (fun c22 => ?_) (fun c22 => ?_)
            · have e6 := zLs_at (w := w) (d := d) (k := k) (f := o) k0.1 k1 (fun q => absurd q (by omega))
              refine lv_iload hx hb dX10_root_54 (lv_at hl 6 rfl) ?_
              refine lv_iload_n hx hb dX10_root_56 rfl (lv_at hl 3 rfl) ?_
              refine zv_icmp_ge (tgt := 88) hx hb dX10_root_57 (by decide) (by omega) (by omega) (fun c57 => ?_) (fun c57 => ?_)
              · refine lv_iload hx hb dX10_root_88 (lv_at hl 4 rfl) ?_
                refine lv_istore (lv' := [(4, .int (zI o)), (0, .ref y), (1, .int (zI i)), (2, .int (zI t)), (3, .int (zI d)), (5, .int (zI k)), (6, .int (zI x))]) hx hb dX10_root_90 hl (by decide) rfl (fun ls hl => ?_)
                refine zv_iinc (lv' := [(5, .int (zI (k + 1))), (4, .int (zI o)), (0, .ref y), (1, .int (zI i)), (2, .int (zI t)), (3, .int (zI d)), (6, .int (zI x))]) hx hb dX10_root_92 hl (k := 5) rfl (by decide) rfl (fun ls hl => ?_)
                refine lv_goto (tgt := 8) hx hb dX10_root_95 (by decide) ?_
                exact ih8 o (k + 1) (by omega) (by rw [zRootTo_f (by omega) (by rw [← h1]; exact fun q => by have q9 := e6.mp q; omega)]; exact h1) (by omega) _ (lv_sub hl [2, 3, 4, 5, 1, 0] rfl)
              · refine lv_aload_n hx hb dX10_root_60 rfl (lv_at hl 0 rfl) ?_
                refine zv_iconst hx hb dX10_root_61 ?_
                refine lv_iload hx hb dX10_root_62 (lv_at hl 5 rfl) ?_
                refine lv_iload hx hb dX10_root_64 (lv_at hl 6 rfl) ?_
                refine zv_iadd hx hb dX10_root_66 ?_
                refine zc_V (As := [.int (zI 0), .int (zI (k + x))]) (rest := []) S hK (kX10_letAt l g y sa ta oa f gt od sv ik tp 0 w n (by omega) hs (k + x) (by omega)) (cwV 2 hts gX10_root_X10_letAt rfl rfl rfl (by decide +kernel) ⟨Nat.le_of_ble_eq_true rfl, Nat.le_of_ble_eq_true rfl⟩) (hpic) (hpic.recv hK) rfl hl.1 rfl (Nat.le_of_ble_eq_true rfl) dX10_root_67 ⟨Nat.zero_le _, Nat.zero_le _⟩ (fun r67 hr67 => ?_)
                obtain ⟨z67, rfl, hz67⟩ := hr67
                refine lv_aload_n hx hb dX10_root_70 rfl (lv_at hl 0 rfl) ?_
                refine zv_iconst hx hb dX10_root_71 ?_
                refine lv_iload hx hb dX10_root_72 (lv_at hl 4 rfl) ?_
                refine lv_iload hx hb dX10_root_74 (lv_at hl 6 rfl) ?_
                refine zv_iadd hx hb dX10_root_76 ?_
                refine zc_V (As := [.int (zI 0), .int (zI (o + x))]) (rest := [.int (zI z67)]) S hK (kX10_letAt l g y sa ta oa f gt od sv ik tp 0 w n (by omega) hs (o + x) (by omega)) (cwV 2 hts gX10_root_X10_letAt rfl rfl rfl (by decide +kernel) ⟨Nat.le_of_ble_eq_true rfl, Nat.le_of_ble_eq_true rfl⟩) (hpic) (hpic.recv hK) rfl hl.1 rfl (Nat.le_of_ble_eq_true rfl) dX10_root_77 ⟨Nat.zero_le _, Nat.zero_le _⟩ (fun r77 hr77 => ?_)
                obtain ⟨z77, rfl, hz77⟩ := hr77
                refine zv_icmp_ge (tgt := 88) hx hb dX10_root_80 (by decide) (by omega) (by omega) (fun c80 => ?_) (fun c80 => ?_)
                · refine lv_iload hx hb dX10_root_88 (lv_at hl 4 rfl) ?_
                  refine lv_istore (lv' := [(4, .int (zI o)), (0, .ref y), (1, .int (zI i)), (2, .int (zI t)), (3, .int (zI d)), (5, .int (zI k)), (6, .int (zI x))]) hx hb dX10_root_90 hl (by decide) rfl (fun ls hl => ?_)
                  refine zv_iinc (lv' := [(5, .int (zI (k + 1))), (4, .int (zI o)), (0, .ref y), (1, .int (zI i)), (2, .int (zI t)), (3, .int (zI d)), (6, .int (zI x))]) hx hb dX10_root_92 hl (k := 5) rfl (by decide) rfl (fun ls hl => ?_)
                  refine lv_goto (tgt := 8) hx hb dX10_root_95 (by decide) ?_
                  exact ih8 o (k + 1) (by omega) (by rw [zRootTo_f (by omega) (by rw [← h1]; exact fun q => by have q9 := e6.mp q; omega)]; exact h1) (by omega) _ (lv_sub hl [2, 3, 4, 5, 1, 0] rfl)
                · refine lv_iload hx hb dX10_root_83 (lv_at hl 5 rfl) ?_
                  refine lv_goto (tgt := 90) hx hb dX10_root_85 (by decide) ?_
                  refine lv_istore (lv' := [(4, .int (zI k)), (0, .ref y), (1, .int (zI i)), (2, .int (zI t)), (3, .int (zI d)), (5, .int (zI k)), (6, .int (zI x))]) hx hb dX10_root_90 hl (by decide) rfl (fun ls hl => ?_)
                  refine zv_iinc (lv' := [(5, .int (zI (k + 1))), (4, .int (zI k)), (0, .ref y), (1, .int (zI i)), (2, .int (zI t)), (3, .int (zI d)), (6, .int (zI x))]) hx hb dX10_root_92 hl (k := 5) rfl (by decide) rfl (fun ls hl => ?_)
                  refine lv_goto (tgt := 8) hx hb dX10_root_95 (by decide) ?_
                  exact ih8 k (k + 1) (by omega) (by rw [zRootTo_t (by omega) (by rw [← h1]; exact e6.mpr ⟨by omega, by omega⟩)]) (by omega) _ (lv_sub hl [2, 3, 4, 5, 1, 0] rfl)
            · refine lv_aload_n hx hb dX10_root_25 rfl (lv_at hl 0 rfl) ?_
              refine zv_iconst hx hb dX10_root_26 ?_
              refine lv_iload hx hb dX10_root_27 (lv_at hl 5 rfl) ?_
              refine lv_iload hx hb dX10_root_29 (lv_at hl 6 rfl) ?_
              refine zv_iadd hx hb dX10_root_31 ?_
              refine zc_V (As := [.int (zI 0), .int (zI (k + x))]) (rest := []) S hK (kX10_letAt l g y sa ta oa f gt od sv ik tp 0 w n (by omega) hs (k + x) (by omega)) (cwV 2 hts gX10_root_X10_letAt rfl rfl rfl (by decide +kernel) ⟨Nat.le_of_ble_eq_true rfl, Nat.le_of_ble_eq_true rfl⟩) (hpic) (hpic.recv hK) rfl hl.1 rfl (Nat.le_of_ble_eq_true rfl) dX10_root_32 ⟨Nat.zero_le _, Nat.zero_le _⟩ (fun r32 hr32 => ?_)
              obtain ⟨z32, rfl, hz32⟩ := hr32
              refine lv_aload_n hx hb dX10_root_35 rfl (lv_at hl 0 rfl) ?_
              refine zv_iconst hx hb dX10_root_36 ?_
              refine lv_iload hx hb dX10_root_37 (lv_at hl 4 rfl) ?_
              refine lv_iload hx hb dX10_root_39 (lv_at hl 6 rfl) ?_
              refine zv_iadd hx hb dX10_root_41 ?_
              refine zc_V (As := [.int (zI 0), .int (zI (o + x))]) (rest := [.int (zI z32)]) S hK (kX10_letAt l g y sa ta oa f gt od sv ik tp 0 w n (by omega) hs (o + x) (by omega)) (cwV 2 hts gX10_root_X10_letAt rfl rfl rfl (by decide +kernel) ⟨Nat.le_of_ble_eq_true rfl, Nat.le_of_ble_eq_true rfl⟩) (hpic) (hpic.recv hK) rfl hl.1 rfl (Nat.le_of_ble_eq_true rfl) dX10_root_42 ⟨Nat.zero_le _, Nat.zero_le _⟩ (fun r42 hr42 => ?_)
              obtain ⟨z42, rfl, hz42⟩ := hr42
              refine zv_icmp_ne (tgt := 54) hx hb dX10_root_45 (by decide) (by omega) (by omega) (fun c45 => ?_) (fun c45 => ?_)
              · have e6 := zLs_at (w := w) (d := d) (k := k) (f := o) k0.1 k1 (fun _ => by omega)
                refine lv_iload hx hb dX10_root_54 (lv_at hl 6 rfl) ?_
                refine lv_iload_n hx hb dX10_root_56 rfl (lv_at hl 3 rfl) ?_
                refine zv_icmp_ge (tgt := 88) hx hb dX10_root_57 (by decide) (by omega) (by omega) (fun c57 => ?_) (fun c57 => ?_)
                · refine lv_iload hx hb dX10_root_88 (lv_at hl 4 rfl) ?_
                  refine lv_istore (lv' := [(4, .int (zI o)), (0, .ref y), (1, .int (zI i)), (2, .int (zI t)), (3, .int (zI d)), (5, .int (zI k)), (6, .int (zI x))]) hx hb dX10_root_90 hl (by decide) rfl (fun ls hl => ?_)
                  refine zv_iinc (lv' := [(5, .int (zI (k + 1))), (4, .int (zI o)), (0, .ref y), (1, .int (zI i)), (2, .int (zI t)), (3, .int (zI d)), (6, .int (zI x))]) hx hb dX10_root_92 hl (k := 5) rfl (by decide) rfl (fun ls hl => ?_)
                  refine lv_goto (tgt := 8) hx hb dX10_root_95 (by decide) ?_
                  exact ih8 o (k + 1) (by omega) (by rw [zRootTo_f (by omega) (by rw [← h1]; exact fun q => by have q9 := e6.mp q; omega)]; exact h1) (by omega) _ (lv_sub hl [2, 3, 4, 5, 1, 0] rfl)
                · refine lv_aload_n hx hb dX10_root_60 rfl (lv_at hl 0 rfl) ?_
                  refine zv_iconst hx hb dX10_root_61 ?_
                  refine lv_iload hx hb dX10_root_62 (lv_at hl 5 rfl) ?_
                  refine lv_iload hx hb dX10_root_64 (lv_at hl 6 rfl) ?_
                  refine zv_iadd hx hb dX10_root_66 ?_
                  refine zc_V (As := [.int (zI 0), .int (zI (k + x))]) (rest := []) S hK (kX10_letAt l g y sa ta oa f gt od sv ik tp 0 w n (by omega) hs (k + x) (by omega)) (cwV 2 hts gX10_root_X10_letAt rfl rfl rfl (by decide +kernel) ⟨Nat.le_of_ble_eq_true rfl, Nat.le_of_ble_eq_true rfl⟩) (hpic) (hpic.recv hK) rfl hl.1 rfl (Nat.le_of_ble_eq_true rfl) dX10_root_67 ⟨Nat.zero_le _, Nat.zero_le _⟩ (fun r67 hr67 => ?_)
                  obtain ⟨z67, rfl, hz67⟩ := hr67
                  refine lv_aload_n hx hb dX10_root_70 rfl (lv_at hl 0 rfl) ?_
                  refine zv_iconst hx hb dX10_root_71 ?_
                  refine lv_iload hx hb dX10_root_72 (lv_at hl 4 rfl) ?_
                  refine lv_iload hx hb dX10_root_74 (lv_at hl 6 rfl) ?_
                  refine zv_iadd hx hb dX10_root_76 ?_
                  refine zc_V (As := [.int (zI 0), .int (zI (o + x))]) (rest := [.int (zI z67)]) S hK (kX10_letAt l g y sa ta oa f gt od sv ik tp 0 w n (by omega) hs (o + x) (by omega)) (cwV 2 hts gX10_root_X10_letAt rfl rfl rfl (by decide +kernel) ⟨Nat.le_of_ble_eq_true rfl, Nat.le_of_ble_eq_true rfl⟩) (hpic) (hpic.recv hK) rfl hl.1 rfl (Nat.le_of_ble_eq_true rfl) dX10_root_77 ⟨Nat.zero_le _, Nat.zero_le _⟩ (fun r77 hr77 => ?_)
                  obtain ⟨z77, rfl, hz77⟩ := hr77
                  refine zv_icmp_ge (tgt := 88) hx hb dX10_root_80 (by decide) (by omega) (by omega) (fun c80 => ?_) (fun c80 => ?_)
                  · refine lv_iload hx hb dX10_root_88 (lv_at hl 4 rfl) ?_
                    refine lv_istore (lv' := [(4, .int (zI o)), (0, .ref y), (1, .int (zI i)), (2, .int (zI t)), (3, .int (zI d)), (5, .int (zI k)), (6, .int (zI x))]) hx hb dX10_root_90 hl (by decide) rfl (fun ls hl => ?_)
                    refine zv_iinc (lv' := [(5, .int (zI (k + 1))), (4, .int (zI o)), (0, .ref y), (1, .int (zI i)), (2, .int (zI t)), (3, .int (zI d)), (6, .int (zI x))]) hx hb dX10_root_92 hl (k := 5) rfl (by decide) rfl (fun ls hl => ?_)
                    refine lv_goto (tgt := 8) hx hb dX10_root_95 (by decide) ?_
                    exact ih8 o (k + 1) (by omega) (by rw [zRootTo_f (by omega) (by rw [← h1]; exact fun q => by have q9 := e6.mp q; omega)]; exact h1) (by omega) _ (lv_sub hl [2, 3, 4, 5, 1, 0] rfl)
                  · refine lv_iload hx hb dX10_root_83 (lv_at hl 5 rfl) ?_
                    refine lv_goto (tgt := 90) hx hb dX10_root_85 (by decide) ?_
                    refine lv_istore (lv' := [(4, .int (zI k)), (0, .ref y), (1, .int (zI i)), (2, .int (zI t)), (3, .int (zI d)), (5, .int (zI k)), (6, .int (zI x))]) hx hb dX10_root_90 hl (by decide) rfl (fun ls hl => ?_)
                    refine zv_iinc (lv' := [(5, .int (zI (k + 1))), (4, .int (zI k)), (0, .ref y), (1, .int (zI i)), (2, .int (zI t)), (3, .int (zI d)), (6, .int (zI x))]) hx hb dX10_root_92 hl (k := 5) rfl (by decide) rfl (fun ls hl => ?_)
                    refine lv_goto (tgt := 8) hx hb dX10_root_95 (by decide) ?_
                    exact ih8 k (k + 1) (by omega) (by rw [zRootTo_t (by omega) (by rw [← h1]; exact e6.mpr ⟨by omega, by omega⟩)]) (by omega) _ (lv_sub hl [2, 3, 4, 5, 1, 0] rfl)
              · refine zv_iinc (lv' := [(6, .int (zI (x + 1))), (0, .ref y), (1, .int (zI i)), (2, .int (zI t)), (3, .int (zI d)), (4, .int (zI o)), (5, .int (zI k))]) hx hb dX10_root_48 hl (k := 6) rfl (by decide) rfl (fun ls hl => ?_)
                refine lv_goto (tgt := 19) hx hb dX10_root_51 (by decide) ?_
                exact ih19 (x + 1) (by omega) (fun q h1q h2q => (show q < x ∨ q = x by omega).elim (fun h8 => k1 q h1q h8) (fun h8 => by subst h8; omega)) (by omega) _ (lv_sub hl [1, 2, 3, 4, 5, 6, 0] rfl)
        exact lp19 _ 0 (by omega) (zSm_0 w k o (Int.le_refl 0)) (Nat.lt_succ_self _) _ (lv_sub hl [1, 2, 3, 4, 5, 6, 0] rfl)
  exact lp8 _ i (i + 1) (by omega) ((zRootTo_0 w d i).symm) (Nat.lt_succ_self _) _ (lv_sub hl [2, 3, 4, 5, 1, 0] rfl)

theorem mX10_run_0 : ∀ w ∈ wsX100, w ∈ wsX10_run := by decide +kernel
theorem mX10_run_1 : (Cond.fieldLink RX10 7 "BorderRunsModel" "s" "[I") ∈ wsX10_run := by decide +kernel
set_option maxHeartbeats 4000000 in
set_option maxRecDepth 100000 in
/-- X10_run -/
theorem kX10_run (l : Launch) (g : zG) (y sa ta oa : Nat) (f gt od : Int → Int) (sv ik tp : Int) (w : Int → Int) (n : Int) (hs : SL f 0 w n) (r q : Int) (hr0 : -2147483648 ≤ r ∧ r < 2147483648) (hq : -2147483648 ≤ q ∧ q < 2147483648) : Met l yX10_run wsX10_run (zRm 5 119) (zP g [.ref y, .int (zI r), .int (zI q)] (RM g y sa ta oa f gt od sv ik tp)) (vp_Si (fun v => v = zI (aRun w n r q))) 0 0 (fun _ => False) := by
  refine Met.ofZ (cc := cX10_run) (maxL := 7) (ret := (some .int)) (by decide) rfl (Nat.le_of_ble_eq_true rfl) ?_
  intro p e s m args below meth c ls hx hb hr hlocks S hin hK hpic hl
  have hown := S.2.2.2.1
  have hts := S.2.2.2.2
  have hl : lv_has ls 7 [(0, .ref y), (1, .int (zI r)), (2, .int (zI q))] := hl
  obtain ⟨F, G, O, hP, hF, hG, hO, hdis, hrg⟩ := id hpic
  have hn := hs.2.1
  refine lv_iload_n hx hb dX10_run_0 rfl (lv_at hl 1 rfl) ?_
  refine zv_if_lt (tgt := 13) hx hb dX10_run_1 (by decide) (by omega) (fun c1 => ?_) (fun c1 => ?_)
  · refine zv_bipush hx hb dX10_run_13 (by decide +kernel) ?_
    exact zr_i hx hb hr hlocks dX10_run_15 (by unfold aRun; rw [zIf_f (by omega)])
  · refine lv_iload_n hx hb dX10_run_4 rfl (lv_at hl 2 rfl) ?_
    refine zv_iconst hx hb dX10_run_5 ?_
    refine zv_iconst hx hb dX10_run_6 ?_
    refine zc_S (As := [.int (zI q), .int (zI 0), .int (zI 4)]) (rest := []) S hK (kX10_in l g q 0 4 (by omega) (by omega) (by omega)) (va_cwS 3 hts gX10_run_X10_in rfl rfl rfl (by decide +kernel) ⟨Nat.le_of_ble_eq_true rfl, Nat.le_of_ble_eq_true rfl⟩) (trivial) rfl hl.1 rfl (Nat.le_of_ble_eq_true rfl) dX10_run_7 ⟨Nat.zero_le _, Nat.zero_le _⟩ (fun r7 hr7 => ?_)
    obtain rfl := hr7
    refine zv_ifB_ne (tgt := 16) hx hb dX10_run_10 (by decide) (fun c10 => ?_) (fun c10 => ?_)
    · refine zv_iconst hx hb dX10_run_16 ?_
      refine lv_istore_n (lv' := [(3, .int (zI 0)), (0, .ref y), (1, .int (zI r)), (2, .int (zI q))]) hx hb dX10_run_17 rfl hl (by decide) rfl (fun ls hl => ?_)
      refine zv_iconst hx hb dX10_run_18 ?_
      refine lv_istore (lv' := [(4, .int (zI 0)), (3, .int (zI 0)), (0, .ref y), (1, .int (zI r)), (2, .int (zI q))]) hx hb dX10_run_19 hl (by decide) rfl (fun ls hl => ?_)
      have lp21 : ∀ (z_f : Nat) (o : Int) (i : Int), (0 ≤ i ∧ i ≤ n ∧ 0 ≤ o ∧ o ≤ 40 * i) → (o = zCC (zRun w n) n i) → (o ≤ r) → ((n - i).toNat) < z_f → ∀ (ls : Array Slot), lv_has ls 7 [(0, .ref y), (1, .int (zI r)), (2, .int (zI q)), (3, .int (zI o)), (4, .int (zI i))] → W p l e (zRm 5 119) s m args below meth c s.heap [] 0 0 (MQ below (vp_Si (fun v => v = zI (aRun w n r q))) args s 0 0 (fun _ => False)) (F0 m 21 ls []) := by
        intro z_f
        induction z_f with
        | zero => intro o i h0 h1 h2 z_m; exact absurd z_m (Nat.not_lt_zero _)
        | succ z_f ih21 =>
          intro o i h0 h1 h2 z_m21 ls hl
          refine lv_iload hx hb dX10_run_21 (lv_at hl 4 rfl) ?_
          refine lv_aload_n hx hb dX10_run_23 rfl (lv_at hl 0 rfl) ?_
          refine va_get (D := g.1) (ci := 5) (v := .ref sa) (C := RX10) (T := TX10) (N := 6) hx hb hts mX10_run_0 hown hK hP 0 rfl rfl 0 (by decide) (hts _ mX10_run_1) (fun _ h9 => h9) rfl dX10_run_24 ?_
          refine zv_iconst hx hb dX10_run_27 ?_
          refine va_iald (D := g.1) hx hb hK hP 1 0 rfl rfl (zI_in (by omega) (by decide)) dX10_run_28 ?_
          rw [zI_cl (by omega)]
          rw [(hF 0 (by omega) (by omega)).1.trans (congrArg zI hs.1)]
          refine zv_icmp_ge (tgt := 157) hx hb dX10_run_29 (by decide) (by omega) (by omega) (fun c29 => ?_) (fun c29 => ?_)
          · have e9 : zRk (zRun w n) n r (fun i d => zTold w i (zRT w n i d) d q) = -4 := zRk_none _ (by have e8 := congrArg (zCC (zRun w n) n) (show n = i by omega); omega)
            refine zv_bipush hx hb dX10_run_157 (by decide +kernel) ?_
            exact zr_i hx hb hr hlocks dX10_run_159 (by unfold aRun; rw [zIf_t (by omega), e9])
          · refine zv_iconst hx hb dX10_run_32 ?_
            refine lv_istore (lv' := [(5, .int (zI 1)), (0, .ref y), (1, .int (zI r)), (2, .int (zI q)), (3, .int (zI o)), (4, .int (zI i))]) hx hb dX10_run_33 hl (by decide) rfl (fun ls hl => ?_)
            have lp35 : ∀ (z_f : Nat) (o2 : Int) (d : Int), (1 ≤ d ∧ d ≤ (n - i) / 2 + 1 ∧ 0 ≤ o2 ∧ o2 ≤ 40 * i + d) → (o2 = zCC (zRun w n) n i + zC ((zRun w n) i) 1 d) → (o2 ≤ r) → ((n + 1 - d).toNat) < z_f → ∀ (ls : Array Slot), lv_has ls 7 [(0, .ref y), (1, .int (zI r)), (2, .int (zI q)), (3, .int (zI o2)), (4, .int (zI i)), (5, .int (zI d))] → W p l e (zRm 5 119) s m args below meth c s.heap [] 0 0 (MQ below (vp_Si (fun v => v = zI (aRun w n r q))) args s 0 0 (fun _ => False)) (F0 m 35 ls []) := by
              intro z_f
              induction z_f with
              | zero => intro o2 d k0 k1 k2 z_m; exact absurd z_m (Nat.not_lt_zero _)
              | succ z_f ih35 =>
                intro o2 d k0 k1 k2 z_m35 ls hl
                refine lv_iload hx hb dX10_run_35 (lv_at hl 4 rfl) ?_
                refine zv_iconst hx hb dX10_run_37 ?_
                refine lv_iload hx hb dX10_run_38 (lv_at hl 5 rfl) ?_
                refine zv_imul hx hb dX10_run_40 ?_
                refine zv_iadd hx hb dX10_run_41 ?_
                refine lv_aload_n hx hb dX10_run_42 rfl (lv_at hl 0 rfl) ?_
                refine va_get (D := g.1) (ci := 5) (v := .ref sa) (C := RX10) (T := TX10) (N := 6) hx hb hts mX10_run_0 hown hK hP 0 rfl rfl 0 (by decide) (hts _ mX10_run_1) (fun _ h9 => h9) rfl dX10_run_43 ?_
                refine zv_iconst hx hb dX10_run_46 ?_
                refine va_iald (D := g.1) hx hb hK hP 1 0 rfl rfl (zI_in (by omega) (by decide)) dX10_run_47 ?_
                rw [zI_cl (by omega)]
                rw [(hF 0 (by omega) (by omega)).1.trans (congrArg zI hs.1)]
                refine zv_icmp_gt (tgt := 151) hx hb dX10_run_48 (by decide) (by omega) (by omega) (fun c48 => ?_) (fun c48 => ?_)
                · refine zv_iinc (lv' := [(4, .int (zI (i + 1))), (0, .ref y), (1, .int (zI r)), (2, .int (zI q)), (3, .int (zI o2)), (5, .int (zI d))]) hx hb dX10_run_151 hl (k := 4) rfl (by decide) rfl (fun ls hl => ?_)
                  refine lv_goto (tgt := 21) hx hb dX10_run_154 (by decide) ?_
                  exact ih21 o2 (i + 1) ((by have q9 := zRow_bd (zRun w n) (n := n) (i := i) (by omega); have q8 : zRow (zRun w n) n i = zC ((zRun w n) i) 1 ((n - i) / 2 + 1) := rfl; omega)) ((by rw [zCC_succ _ (by omega), k1, show d = (n - i) / 2 + 1 by omega]; rfl)) (by omega) (by omega) _ (lv_sub hl [1, 2, 3, 4, 0] rfl)
                · refine lv_aload_n hx hb dX10_run_51 rfl (lv_at hl 0 rfl) ?_
                  refine zv_iconst hx hb dX10_run_52 ?_
                  refine lv_iload hx hb dX10_run_53 (lv_at hl 4 rfl) ?_
                  refine lv_iload hx hb dX10_run_55 (lv_at hl 5 rfl) ?_
                  refine zc_V (As := [.int (zI 0), .int (zI i), .int (zI d)]) (rest := []) S hK (kX10_runEnd l g y sa ta oa f gt od sv ik tp 0 w n (by omega) hs i d (by omega)) (cwV 3 hts gX10_run_X10_runEnd rfl rfl rfl (by decide +kernel) ⟨Nat.le_of_ble_eq_true rfl, Nat.le_of_ble_eq_true rfl⟩) (hpic) (hpic.recv hK) rfl hl.1 rfl (Nat.le_of_ble_eq_true rfl) dX10_run_57 ⟨Nat.zero_le _, Nat.zero_le _⟩ (fun r57 hr57 => ?_)
                  obtain ⟨z57, rfl, hz57⟩ := hr57
                  refine lv_istore (lv' := [(6, .int (zI z57)), (0, .ref y), (1, .int (zI r)), (2, .int (zI q)), (3, .int (zI o2)), (4, .int (zI i)), (5, .int (zI d))]) hx hb dX10_run_60 hl (by decide) rfl (fun ls hl => ?_)
                  refine lv_iload hx hb dX10_run_62 (lv_at hl 0 rfl) ?_
                  refine zv_if_le (tgt := 132) hx hb dX10_run_64 (by decide) (hz57.elim (fun q => by omega) (fun q => by omega)) (fun c64 => ?_) (fun c64 => ?_)
                  · have q33 : ¬ zRun w n i d := hz57.elim (fun q => by omega) (fun q => q.1)
                    refine lv_iload_n hx hb dX10_run_132 rfl (lv_at hl 4 rfl) ?_
                    refine lv_iload hx hb dX10_run_133 (lv_at hl 0 rfl) ?_
                    refine zv_if_le (tgt := 142) hx hb dX10_run_135 (by decide) (by omega) (fun c135 => ?_) (fun c135 => ?_)
                    · refine zv_iconst hx hb dX10_run_142 ?_
                      refine zv_iadd hx hb dX10_run_143 ?_
                      refine lv_istore_n (lv' := [(3, .int (zI (o2 + 0))), (6, .int (zI z57)), (0, .ref y), (1, .int (zI r)), (2, .int (zI q)), (4, .int (zI i)), (5, .int (zI d))]) hx hb dX10_run_144 rfl hl (by decide) rfl (fun ls hl => ?_)
                      refine zv_iinc (lv' := [(5, .int (zI (d + 1))), (3, .int (zI (o2 + 0))), (6, .int (zI z57)), (0, .ref y), (1, .int (zI r)), (2, .int (zI q)), (4, .int (zI i))]) hx hb dX10_run_145 hl (k := 6) rfl (by decide) rfl (fun ls hl => ?_)
                      refine lv_goto (tgt := 35) hx hb dX10_run_148 (by decide) ?_
                      exact ih35 (o2 + 0) (d + 1) (by omega) (by rw [zC_f (P := (zRun w n) i) (b := d) (by omega) (q33)]; omega) (by omega) (by omega) _ (lv_sub hl [3, 4, 5, 1, 6, 0] rfl)
                    · exfalso; omega
                  · have q33 := hz57.resolve_right (fun q => by omega)
                    refine lv_iload_n hx hb dX10_run_67 rfl (lv_at hl 4 rfl) ?_
                    refine lv_iload_n hx hb dX10_run_68 rfl (lv_at hl 2 rfl) ?_
                    refine zv_icmp_ne (tgt := 132) hx hb dX10_run_69 (by decide) (by omega) (by omega) (fun c69 => ?_) (fun c69 => ?_)
                    · refine lv_iload_n hx hb dX10_run_132 rfl (lv_at hl 4 rfl) ?_
                      refine lv_iload hx hb dX10_run_133 (lv_at hl 0 rfl) ?_
                      refine zv_if_le (tgt := 142) hx hb dX10_run_135 (by decide) (by omega) (fun c135 => ?_) (fun c135 => ?_)
                      · exfalso; omega
                      · refine zv_iconst hx hb dX10_run_138 ?_
                        refine lv_goto (tgt := 143) hx hb dX10_run_139 (by decide) ?_
                        refine zv_iadd hx hb dX10_run_143 ?_
                        refine lv_istore_n (lv' := [(3, .int (zI (o2 + 1))), (6, .int (zI z57)), (0, .ref y), (1, .int (zI r)), (2, .int (zI q)), (4, .int (zI i)), (5, .int (zI d))]) hx hb dX10_run_144 rfl hl (by decide) rfl (fun ls hl => ?_)
                        refine zv_iinc (lv' := [(5, .int (zI (d + 1))), (3, .int (zI (o2 + 1))), (6, .int (zI z57)), (0, .ref y), (1, .int (zI r)), (2, .int (zI q)), (4, .int (zI i))]) hx hb dX10_run_145 hl (k := 6) rfl (by decide) rfl (fun ls hl => ?_)
                        refine lv_goto (tgt := 35) hx hb dX10_run_148 (by decide) ?_
                        exact ih35 (o2 + 1) (d + 1) (by omega) (by rw [zC_t (P := (zRun w n) i) (b := d) (by omega) (q33.1)]; omega) (by omega) (by omega) _ (lv_sub hl [3, 4, 5, 1, 6, 0] rfl)
                    · have e9 := zRk_hit (fun i d => zTold w i (zRT w n i d) d q) (show zIsRk (zRun w n) n r i d from ⟨by omega, q33.1, by omega⟩)
                      refine lv_iload_n hx hb dX10_run_72 rfl (lv_at hl 3 rfl) ?_
                      refine zv_if_ne (tgt := 81) hx hb dX10_run_73 (by decide) (by omega) (fun c73 => ?_) (fun c73 => ?_)
                      · refine lv_iload_n hx hb dX10_run_81 rfl (lv_at hl 3 rfl) ?_
                        refine zv_iconst hx hb dX10_run_82 ?_
                        refine zv_icmp_ne (tgt := 91) hx hb dX10_run_83 (by decide) (by omega) (by omega) (fun c83 => ?_) (fun c83 => ?_)
                        · refine lv_iload_n hx hb dX10_run_91 rfl (lv_at hl 3 rfl) ?_
                          refine zv_iconst hx hb dX10_run_92 ?_
                          refine zv_icmp_ne (tgt := 101) hx hb dX10_run_93 (by decide) (by omega) (by omega) (fun c93 => ?_) (fun c93 => ?_)
                          · refine lv_iload_n hx hb dX10_run_101 rfl (lv_at hl 3 rfl) ?_
                            refine zv_iconst hx hb dX10_run_102 ?_
                            refine zv_icmp_ne (tgt := 119) hx hb dX10_run_103 (by decide) (by omega) (by omega) (fun c103 => ?_) (fun c103 => ?_)
                            · refine lv_iload hx hb dX10_run_119 (lv_at hl 0 rfl) ?_
                              refine lv_iload hx hb dX10_run_121 (lv_at hl 5 rfl) ?_
                              refine zv_isub hx hb dX10_run_123 ?_
                              refine zv_iconst hx hb dX10_run_124 ?_
                              refine lv_iload hx hb dX10_run_125 (lv_at hl 6 rfl) ?_
                              refine zv_imul hx hb dX10_run_127 ?_
                              refine zv_isub hx hb dX10_run_128 ?_
                              refine zv_iconst hx hb dX10_run_129 ?_
                              refine zv_iadd hx hb dX10_run_130 ?_
                              exact zr_i hx hb hr hlocks dX10_run_131 (by unfold aRun; rw [zIf_t (by omega), e9, ← q33.2.1, zTold_4 w _ _ _ (by omega)])
                            · refine lv_aload_n hx hb dX10_run_106 rfl (lv_at hl 1 rfl) ?_
                              refine lv_iload hx hb dX10_run_107 (lv_at hl 5 rfl) ?_
                              refine lv_iload hx hb dX10_run_109 (lv_at hl 0 rfl) ?_
                              refine lv_iload hx hb dX10_run_111 (lv_at hl 6 rfl) ?_
                              refine zc_V (As := [.int (zI i), .int (zI z57), .int (zI d)]) (rest := []) S hK (kX10_root l g y sa ta oa f gt od sv ik tp w n hs i z57 d (by omega)) (cwV 3 hts gX10_run_X10_root rfl rfl rfl (by decide +kernel) ⟨Nat.le_of_ble_eq_true rfl, Nat.le_of_ble_eq_true rfl⟩) (hpic) (hpic.recv hK) rfl hl.1 rfl (Nat.le_of_ble_eq_true rfl) dX10_run_113 ⟨Nat.zero_le _, Nat.zero_le _⟩ (fun r113 hr113 => ?_)
                              obtain ⟨z113, rfl, hz113⟩ := hr113
                              refine lv_goto (tgt := 131) hx hb dX10_run_116 (by decide) ?_
                              exact zr_i hx hb hr hlocks dX10_run_131 (by unfold aRun; rw [zIf_t (by omega), e9, ← q33.2.1, show q = 3 by omega, zTold_3]; exact congrArg zI hz113.1)
                          · refine lv_iload hx hb dX10_run_96 (lv_at hl 6 rfl) ?_
                            refine lv_goto (tgt := 131) hx hb dX10_run_98 (by decide) ?_
                            exact zr_i hx hb hr hlocks dX10_run_131 (by unfold aRun; rw [zIf_t (by omega), e9, ← q33.2.1, show q = 2 by omega, zTold_2])
                        · refine lv_iload hx hb dX10_run_86 (lv_at hl 0 rfl) ?_
                          refine lv_goto (tgt := 131) hx hb dX10_run_88 (by decide) ?_
                          exact zr_i hx hb hr hlocks dX10_run_131 (by unfold aRun; rw [zIf_t (by omega), e9, ← q33.2.1, show q = 1 by omega, zTold_1])
                      · refine lv_iload hx hb dX10_run_76 (lv_at hl 5 rfl) ?_
                        refine lv_goto (tgt := 131) hx hb dX10_run_78 (by decide) ?_
                        exact zr_i hx hb hr hlocks dX10_run_131 (by unfold aRun; rw [zIf_t (by omega), e9, ← q33.2.1, show q = 0 by omega, zTold_0])
            exact lp35 _ o 1 (by omega) (by rw [zC_nil _ (by omega)]; omega) (h2) (Nat.lt_succ_self _) _ (lv_sub hl [1, 2, 3, 4, 5, 0] rfl)
      exact lp21 _ 0 0 (by omega) ((zCC_0 _ n).symm) (by omega) (Nat.lt_succ_self _) _ (lv_sub hl [2, 3, 4, 1, 0] rfl)
    · refine zv_bipush hx hb dX10_run_13 (by decide +kernel) ?_
      exact zr_i hx hb hr hlocks dX10_run_15 (by unfold aRun; rw [zIf_f (by omega)])

theorem mX10_unlike_0 : ∀ w ∈ wsX100, w ∈ wsX10_unlike := by decide +kernel
theorem mX10_unlike_1 : (Cond.fieldLink RX10 7 "BorderRunsModel" "s" "[I") ∈ wsX10_unlike := by decide +kernel
set_option maxHeartbeats 4000000 in
set_option maxRecDepth 100000 in
/-- X10_unlike -/
theorem kX10_unlike (l : Launch) (g : zG) (y sa ta oa : Nat) (f gt od : Int → Int) (sv ik tp : Int) (w : Int → Int) (n : Int) (hs : SL f 0 w n) (i : Int) (hi : -2147483648 ≤ i ∧ i < 2147483648) : Met l yX10_unlike wsX10_unlike (zRm 4 96) (zP g [.ref y, .int (zI i)] (RM g y sa ta oa f gt od sv ik tp)) (vp_Si (fun v => v = zI (aUnlike w n i))) 0 0 (fun _ => False) := by
  refine Met.ofZ (cc := cX10_unlike) (maxL := 2) (ret := (some .int)) (by decide) rfl (Nat.le_of_ble_eq_true rfl) ?_
  intro p e s m args below meth c ls hx hb hr hlocks S hin hK hpic hl
  have hown := S.2.2.2.1
  have hts := S.2.2.2.2
  have hl : lv_has ls 2 [(0, .ref y), (1, .int (zI i))] := hl
  obtain ⟨F, G, O, hP, hF, hG, hO, hdis, hrg⟩ := id hpic
  have hn := hs.2.1
  refine lv_iload_n hx hb dX10_unlike_0 rfl (lv_at hl 1 rfl) ?_
  refine zv_iconst hx hb dX10_unlike_1 ?_
  refine lv_aload_n hx hb dX10_unlike_2 rfl (lv_at hl 0 rfl) ?_
  refine va_get (D := g.1) (ci := 5) (v := .ref sa) (C := RX10) (T := TX10) (N := 6) hx hb hts mX10_unlike_0 hown hK hP 0 rfl rfl 0 (by decide) (hts _ mX10_unlike_1) (fun _ h9 => h9) rfl dX10_unlike_3 ?_
  refine zv_iconst hx hb dX10_unlike_6 ?_
  refine va_iald (D := g.1) hx hb hK hP 1 0 rfl rfl (zI_in (by omega) (by decide)) dX10_unlike_7 ?_
  rw [zI_cl (by omega)]
  rw [(hF 0 (by omega) (by omega)).1.trans (congrArg zI hs.1)]
  refine zc_S (As := [.int (zI i), .int (zI 0), .int (zI n)]) (rest := []) S hK (kX10_in l g i 0 n (by omega) (by omega) (by omega)) (va_cwS 3 hts gX10_unlike_X10_in rfl rfl rfl (by decide +kernel) ⟨Nat.le_of_ble_eq_true rfl, Nat.le_of_ble_eq_true rfl⟩) (trivial) rfl hl.1 rfl (Nat.le_of_ble_eq_true rfl) dX10_unlike_8 ⟨Nat.zero_le _, Nat.zero_le _⟩ (fun r8 hr8 => ?_)
  obtain rfl := hr8
  refine zv_ifB_eq (tgt := 23) hx hb dX10_unlike_11 (by decide) (fun c11 => ?_) (fun c11 => ?_)
  · refine zv_iconst hx hb dX10_unlike_23 ?_
    exact zr_i hx hb hr hlocks dX10_unlike_24 (by unfold aUnlike; rw [zIf_f c11])
  · refine lv_aload_n hx hb dX10_unlike_14 rfl (lv_at hl 0 rfl) ?_
    refine zv_iconst hx hb dX10_unlike_15 ?_
    refine lv_iload_n hx hb dX10_unlike_16 rfl (lv_at hl 1 rfl) ?_
    refine zc_V (As := [.int (zI 0), .int (zI i)]) (rest := []) S hK (kX10_kinds l g y sa ta oa f gt od sv ik tp 0 w n (by omega) hs i (by omega)) (cwV 2 hts gX10_unlike_X10_kinds rfl rfl rfl (by decide +kernel) ⟨Nat.le_of_ble_eq_true rfl, Nat.le_of_ble_eq_true rfl⟩) (hpic) (hpic.recv hK) rfl hl.1 rfl (Nat.le_of_ble_eq_true rfl) dX10_unlike_17 ⟨Nat.zero_le _, Nat.zero_le _⟩ (fun r17 hr17 => ?_)
    obtain ⟨z17, rfl, hz17⟩ := hr17
    refine lv_goto (tgt := 24) hx hb dX10_unlike_20 (by decide) ?_
    exact zr_i hx hb hr hlocks dX10_unlike_24 (by unfold aUnlike; rw [zIf_t c11]; exact congrArg zI hz17.1)

theorem mX10_longestTwice_0 : ∀ w ∈ wsX100, w ∈ wsX10_longestTwice := by decide +kernel
theorem mX10_longestTwice_1 : (Cond.fieldLink RX10 7 "BorderRunsModel" "s" "[I") ∈ wsX10_longestTwice := by decide +kernel
set_option maxHeartbeats 4000000 in
set_option maxRecDepth 100000 in
/-- X10_longestTwice -/
theorem kX10_longestTwice (l : Launch) (g : zG) (y sa ta oa : Nat) (f gt od : Int → Int) (sv ik tp : Int) (w : Int → Int) (n : Int) (hs : SL f 0 w n)  : Met l yX10_longestTwice wsX10_longestTwice (zRm 2 45) (zP g [.ref y] (RM g y sa ta oa f gt od sv ik tp)) (vp_Si (fun v => ∃ z : Int, v = zI z ∧ z = zTw w n ∧ 0 ≤ z ∧ z ≤ 40)) 0 0 (fun _ => False) := by
  refine Met.ofZ (cc := cX10_longestTwice) (maxL := 5) (ret := (some .int)) (by decide) rfl (Nat.le_of_ble_eq_true rfl) ?_
  intro p e s m args below meth c ls hx hb hr hlocks S hin hK hpic hl
  have hown := S.2.2.2.1
  have hts := S.2.2.2.2
  have hl : lv_has ls 5 [(0, .ref y)] := hl
  obtain ⟨F, G, O, hP, hF, hG, hO, hdis, hrg⟩ := id hpic
  have hn := hs.2.1
  refine zv_iconst hx hb dX10_longestTwice_0 ?_
  refine lv_istore_n (lv' := [(1, .int (zI 0)), (0, .ref y)]) hx hb dX10_longestTwice_1 rfl hl (by decide) rfl (fun ls hl => ?_)
  refine zv_iconst hx hb dX10_longestTwice_2 ?_
  refine lv_istore_n (lv' := [(2, .int (zI 0)), (1, .int (zI 0)), (0, .ref y)]) hx hb dX10_longestTwice_3 rfl hl (by decide) rfl (fun ls hl => ?_)
  have lp4 : ∀ (z_f : Nat) (o : Int) (i : Int), (0 ≤ i ∧ i ≤ n ∧ 0 ≤ o ∧ o ≤ 40) → (o = zM (fun i => zM (zAF w n i) (i + 1) n) 0 i) → ((n - i).toNat) < z_f → ∀ (ls : Array Slot), lv_has ls 5 [(0, .ref y), (1, .int (zI o)), (2, .int (zI i))] → W p l e (zRm 2 45) s m args below meth c s.heap [] 0 0 (MQ below (vp_Si (fun v => ∃ z : Int, v = zI z ∧ z = zTw w n ∧ 0 ≤ z ∧ z ≤ 40)) args s 0 0 (fun _ => False)) (F0 m 4 ls []) := by
    intro z_f
    induction z_f with
    | zero => intro o i h0 h1 z_m; exact absurd z_m (Nat.not_lt_zero _)
    | succ z_f ih4 =>
      intro o i h0 h1 z_m4 ls hl
      refine lv_iload_n hx hb dX10_longestTwice_4 rfl (lv_at hl 2 rfl) ?_
      refine lv_aload_n hx hb dX10_longestTwice_5 rfl (lv_at hl 0 rfl) ?_
      refine va_get (D := g.1) (ci := 5) (v := .ref sa) (C := RX10) (T := TX10) (N := 6) hx hb hts mX10_longestTwice_0 hown hK hP 0 rfl rfl 0 (by decide) (hts _ mX10_longestTwice_1) (fun _ h9 => h9) rfl dX10_longestTwice_6 ?_
      refine zv_iconst hx hb dX10_longestTwice_9 ?_
      refine va_iald (D := g.1) hx hb hK hP 1 0 rfl rfl (zI_in (by omega) (by decide)) dX10_longestTwice_10 ?_
      rw [zI_cl (by omega)]
      rw [(hF 0 (by omega) (by omega)).1.trans (congrArg zI hs.1)]
      refine zv_icmp_ge (tgt := 61) hx hb dX10_longestTwice_11 (by decide) (by omega) (by omega) (fun c11 => ?_) (fun c11 => ?_)
      · have e9 : o = zTw w n := by rw [h1, show i = n by omega]; exact zTwR_eq w n
        refine lv_iload_n hx hb dX10_longestTwice_61 rfl (lv_at hl 1 rfl) ?_
        exact zr_i hx hb hr hlocks dX10_longestTwice_62 (⟨_, rfl, e9, by omega, by omega⟩)
      · refine lv_iload_n hx hb dX10_longestTwice_14 rfl (lv_at hl 2 rfl) ?_
        refine zv_iconst hx hb dX10_longestTwice_15 ?_
        refine zv_iadd hx hb dX10_longestTwice_16 ?_
        refine lv_istore_n (lv' := [(3, .int (zI (i + 1))), (0, .ref y), (1, .int (zI o)), (2, .int (zI i))]) hx hb dX10_longestTwice_17 rfl hl (by decide) rfl (fun ls hl => ?_)
        have lp18 : ∀ (z_f : Nat) (o2 : Int) (j : Int), (i + 1 ≤ j ∧ (j ≤ n ∨ j = i + 1) ∧ 0 ≤ o2 ∧ o2 ≤ 40) → (o2 = max (zM (fun i => zM (zAF w n i) (i + 1) n) 0 i) (zM (zAF w n i) (i + 1) j)) → ((n - j).toNat) < z_f → ∀ (ls : Array Slot), lv_has ls 5 [(0, .ref y), (1, .int (zI o2)), (2, .int (zI i)), (3, .int (zI j))] → W p l e (zRm 2 45) s m args below meth c s.heap [] 0 0 (MQ below (vp_Si (fun v => ∃ z : Int, v = zI z ∧ z = zTw w n ∧ 0 ≤ z ∧ z ≤ 40)) args s 0 0 (fun _ => False)) (F0 m 18 ls []) := by
          intro z_f
          induction z_f with
          | zero => intro o2 j k0 k1 z_m; exact absurd z_m (Nat.not_lt_zero _)
          | succ z_f ih18 =>
            intro o2 j k0 k1 z_m18 ls hl
            refine lv_iload_n hx hb dX10_longestTwice_18 rfl (lv_at hl 3 rfl) ?_
            refine lv_aload_n hx hb dX10_longestTwice_19 rfl (lv_at hl 0 rfl) ?_
            refine va_get (D := g.1) (ci := 5) (v := .ref sa) (C := RX10) (T := TX10) (N := 6) hx hb hts mX10_longestTwice_0 hown hK hP 0 rfl rfl 0 (by decide) (hts _ mX10_longestTwice_1) (fun _ h9 => h9) rfl dX10_longestTwice_20 ?_
            refine zv_iconst hx hb dX10_longestTwice_23 ?_
            refine va_iald (D := g.1) hx hb hK hP 1 0 rfl rfl (zI_in (by omega) (by decide)) dX10_longestTwice_24 ?_
            rw [zI_cl (by omega)]
            rw [(hF 0 (by omega) (by omega)).1.trans (congrArg zI hs.1)]
            refine zv_icmp_ge (tgt := 55) hx hb dX10_longestTwice_25 (by decide) (by omega) (by omega) (fun c25 => ?_) (fun c25 => ?_)
            · refine zv_iinc (lv' := [(2, .int (zI (i + 1))), (0, .ref y), (1, .int (zI o2)), (3, .int (zI j))]) hx hb dX10_longestTwice_55 hl (k := 2) rfl (by decide) rfl (fun ls hl => ?_)
              refine lv_goto (tgt := 4) hx hb dX10_longestTwice_58 (by decide) ?_
              exact ih4 o2 (i + 1) (by omega) ((by rw [zM_succ (fun i => zM (zAF w n i) (i + 1) n) (by omega)]; show _ = max (zM (fun i => zM (zAF w n i) (i + 1) n) 0 i) (zM (zAF w n i) (i + 1) n); rw [k1, show j = n by omega])) (by omega) _ (lv_sub hl [1, 2, 0] rfl)
            · refine lv_aload_n hx hb dX10_longestTwice_28 rfl (lv_at hl 0 rfl) ?_
              refine lv_iload_n hx hb dX10_longestTwice_29 rfl (lv_at hl 2 rfl) ?_
              refine lv_iload_n hx hb dX10_longestTwice_30 rfl (lv_at hl 3 rfl) ?_
              refine zc_V (As := [.int (zI i), .int (zI j)]) (rest := []) S hK (kX10_alikeFrom l g y sa ta oa f gt od sv ik tp w n hs i j (by omega) (by omega)) (cwV 2 hts gX10_longestTwice_X10_alikeFrom rfl rfl rfl (by decide +kernel) ⟨Nat.le_of_ble_eq_true rfl, Nat.le_of_ble_eq_true rfl⟩) (hpic) (hpic.recv hK) rfl hl.1 rfl (Nat.le_of_ble_eq_true rfl) dX10_longestTwice_31 ⟨Nat.zero_le _, Nat.zero_le _⟩ (fun r31 hr31 => ?_)
              obtain ⟨z31, rfl, hz31⟩ := hr31
              refine lv_istore (lv' := [(4, .int (zI z31)), (0, .ref y), (1, .int (zI o2)), (2, .int (zI i)), (3, .int (zI j))]) hx hb dX10_longestTwice_34 hl (by decide) rfl (fun ls hl => ?_)
              refine lv_iload hx hb dX10_longestTwice_36 (lv_at hl 0 rfl) ?_
              refine lv_iload_n hx hb dX10_longestTwice_38 rfl (lv_at hl 2 rfl) ?_
              refine zv_icmp_le (tgt := 47) hx hb dX10_longestTwice_39 (by decide) (by omega) (by omega) (fun c39 => ?_) (fun c39 => ?_)
              · refine lv_iload_n hx hb dX10_longestTwice_47 rfl (lv_at hl 2 rfl) ?_
                refine lv_istore_n (lv' := [(1, .int (zI o2)), (4, .int (zI z31)), (0, .ref y), (2, .int (zI i)), (3, .int (zI j))]) hx hb dX10_longestTwice_48 rfl hl (by decide) rfl (fun ls hl => ?_)
                refine zv_iinc (lv' := [(3, .int (zI (j + 1))), (1, .int (zI o2)), (4, .int (zI z31)), (0, .ref y), (2, .int (zI i))]) hx hb dX10_longestTwice_49 hl (k := 4) rfl (by decide) rfl (fun ls hl => ?_)
                refine lv_goto (tgt := 18) hx hb dX10_longestTwice_52 (by decide) ?_
                exact ih18 o2 (j + 1) (by omega) (by rw [zM_succ (zAF w n i) (by omega)]; omega) (by omega) _ (lv_sub hl [3, 1, 4, 0] rfl)
              · refine lv_iload hx hb dX10_longestTwice_42 (lv_at hl 0 rfl) ?_
                refine lv_goto (tgt := 48) hx hb dX10_longestTwice_44 (by decide) ?_
                refine lv_istore_n (lv' := [(1, .int (zI z31)), (4, .int (zI z31)), (0, .ref y), (2, .int (zI i)), (3, .int (zI j))]) hx hb dX10_longestTwice_48 rfl hl (by decide) rfl (fun ls hl => ?_)
                refine zv_iinc (lv' := [(3, .int (zI (j + 1))), (1, .int (zI z31)), (4, .int (zI z31)), (0, .ref y), (2, .int (zI i))]) hx hb dX10_longestTwice_49 hl (k := 4) rfl (by decide) rfl (fun ls hl => ?_)
                refine lv_goto (tgt := 18) hx hb dX10_longestTwice_52 (by decide) ?_
                exact ih18 z31 (j + 1) (by omega) (by rw [zM_succ (zAF w n i) (by omega)]; omega) (by omega) _ (lv_sub hl [3, 1, 4, 0] rfl)
        exact lp18 _ o (i + 1) (by omega) (by have := zM_nn (fun i => zM (zAF w n i) (i + 1) n) 0 i; rw [zM_nil (zAF w n i) (by omega)]; omega) (Nat.lt_succ_self _) _ (lv_sub hl [1, 2, 3, 0] rfl)
  exact lp4 _ 0 0 (by omega) ((zM_nil _ (by omega)).symm) (Nat.lt_succ_self _) _ (lv_sub hl [2, 1, 0] rfl)

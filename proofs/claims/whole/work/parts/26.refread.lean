set_option maxHeartbeats 4000000 in
set_option maxRecDepth 100000 in
/-- in(i, j, k) -/
theorem kX10_in (l : Launch) (g : zG) (i j k : Int) (hi : -2147483648 ≤ i ∧ i < 2147483648) (hj : -2147483648 ≤ j ∧ j < 2147483648) (hk0 : -2147483648 ≤ k ∧ k < 2147483648) : Met l yX10_in wsX10_in (zRm 0 0) (zP g [.int (zI i), .int (zI j), .int (zI k)] (fun _ => True)) (vp_Si (fun r => r = zI (zB (j ≤ i ∧ i ≤ k)))) 0 0 (fun _ => False) := by
  refine Met.ofZ (cc := cX10_in) (maxL := 3) (ret := (some .boolean)) (by decide) rfl (Nat.le_of_ble_eq_true rfl) ?_
  intro p e s m args below meth c ls hx hb hr hlocks S hin hK hpic hl
  have hown := S.2.2.2.1
  have hts := S.2.2.2.2
  have hl : lv_has ls 3 [(0, .int (zI i)), (1, .int (zI j)), (2, .int (zI k))] := hl
  refine lv_iload_n hx hb dX10_in_0 rfl (lv_at hl 0 rfl) ?_
  refine lv_iload_n hx hb dX10_in_1 rfl (lv_at hl 1 rfl) ?_
  refine zv_icmp_lt (tgt := 14) hx hb dX10_in_2 (by decide) (by omega) (by omega) (fun c2 => ?_) (fun c2 => ?_)
  · refine zv_iconst hx hb dX10_in_14 ?_
    exact zr_z hx hb hr hlocks dX10_in_15 rfl (by rw [zB_f (by omega)])
  · refine lv_iload_n hx hb dX10_in_5 rfl (lv_at hl 0 rfl) ?_
    refine lv_iload_n hx hb dX10_in_6 rfl (lv_at hl 2 rfl) ?_
    refine zv_icmp_gt (tgt := 14) hx hb dX10_in_7 (by decide) (by omega) (by omega) (fun c7 => ?_) (fun c7 => ?_)
    · refine zv_iconst hx hb dX10_in_14 ?_
      exact zr_z hx hb hr hlocks dX10_in_15 rfl (by rw [zB_f (by omega)])
    · refine zv_iconst hx hb dX10_in_10 ?_
      refine lv_goto (tgt := 15) hx hb dX10_in_11 (by decide) ?_
      exact zr_z hx hb hr hlocks dX10_in_15 rfl (by rw [zB_t (by omega)])

theorem mX10_isPlace_0 : ∀ w ∈ wsX100, w ∈ wsX10_isPlace := by decide +kernel
theorem mX10_isPlace_1 : (Cond.fieldLink RX10 7 "BorderRunsModel" "s" "[I") ∈ wsX10_isPlace := by decide +kernel
set_option maxHeartbeats 4000000 in
set_option maxRecDepth 100000 in
/-- X10_isPlace -/
theorem kX10_isPlace (l : Launch) (g : zG) (y sa ta oa : Nat) (f gt od : Int → Int) (sv ik tp : Int) (w : Int → Int) (n : Int) (hs : SL f 0 w n) (i : Int) (hi : -2147483648 ≤ i ∧ i < 2147483648) : Met l yX10_isPlace wsX10_isPlace (zRm 1 22) (zP g [.ref y, .int (zI i)] (RM g y sa ta oa f gt od sv ik tp)) (vp_Si (fun r => r = zI (zB (0 ≤ i ∧ i < n)))) 0 0 (fun _ => False) := by
  refine Met.ofZ (cc := cX10_isPlace) (maxL := 2) (ret := (some .boolean)) (by decide) rfl (Nat.le_of_ble_eq_true rfl) ?_
  intro p e s m args below meth c ls hx hb hr hlocks S hin hK hpic hl
  have hown := S.2.2.2.1
  have hts := S.2.2.2.2
  have hl : lv_has ls 2 [(0, .ref y), (1, .int (zI i))] := hl
  obtain ⟨F, G, O, hP, hF, hG, hO, hdis, hrg⟩ := id hpic
  have hn := hs.2.1
  refine lv_iload_n hx hb dX10_isPlace_0 rfl (lv_at hl 1 rfl) ?_
  refine zv_iconst hx hb dX10_isPlace_1 ?_
  refine lv_aload_n hx hb dX10_isPlace_2 rfl (lv_at hl 0 rfl) ?_
  refine va_get (D := g.1) (ci := 5) (v := .ref sa) (C := RX10) (T := TX10) (N := 6) hx hb hts mX10_isPlace_0 hown hK hP 0 rfl rfl 0 (by decide) (hts _ mX10_isPlace_1) (fun _ h9 => h9) rfl dX10_isPlace_3 ?_
  refine zv_iconst hx hb dX10_isPlace_6 ?_
  refine va_iald (D := g.1) hx hb hK hP 1 0 rfl rfl (zI_in (by omega) (by decide)) dX10_isPlace_7 ?_
  rw [zI_cl (by omega)]
  rw [(hF 0 (by omega) (by omega)).1.trans (congrArg zI hs.1)]
  refine zv_iconst hx hb dX10_isPlace_8 ?_
  refine zv_isub hx hb dX10_isPlace_9 ?_
  refine zc_S (As := [.int (zI i), .int (zI 0), .int (zI (n - 1))]) (rest := []) S hK (kX10_in l g i 0 (n - 1) (by omega) (by omega) (by omega)) (va_cwS 3 hts gX10_isPlace_X10_in rfl rfl rfl (by decide +kernel) ⟨Nat.le_of_ble_eq_true rfl, Nat.le_of_ble_eq_true rfl⟩) (trivial) rfl hl.1 rfl (Nat.le_of_ble_eq_true rfl) dX10_isPlace_10 ⟨Nat.zero_le _, Nat.zero_le _⟩ (fun r10 hr10 => ?_)
  obtain rfl := hr10
  exact zr_z hx hb hr hlocks dX10_isPlace_13 (zB_nar _) (congrArg zI (zB_eq (by omega)))

theorem mX10_isFactor_0 : ∀ w ∈ wsX100, w ∈ wsX10_isFactor := by decide +kernel
theorem mX10_isFactor_1 : (Cond.fieldLink RX10 7 "BorderRunsModel" "s" "[I") ∈ wsX10_isFactor := by decide +kernel
set_option maxHeartbeats 4000000 in
set_option maxRecDepth 100000 in
/-- X10_isFactor -/
theorem kX10_isFactor (l : Launch) (g : zG) (y sa ta oa : Nat) (f gt od : Int → Int) (sv ik tp : Int) (w : Int → Int) (n : Int) (hs : SL f 0 w n) (i j : Int) (hi : -2147483648 ≤ i ∧ i < 2147483648) (hj : -2147483648 ≤ j ∧ j < 2147483648) : Met l yX10_isFactor wsX10_isFactor (zRm 0 0) (zP g [.ref y, .int (zI i), .int (zI j)] (RM g y sa ta oa f gt od sv ik tp)) (vp_Si (fun r => r = zI (zB (0 ≤ i ∧ i < j ∧ j ≤ n)))) 0 0 (fun _ => False) := by
  refine Met.ofZ (cc := cX10_isFactor) (maxL := 3) (ret := (some .boolean)) (by decide) rfl (Nat.le_of_ble_eq_true rfl) ?_
  intro p e s m args below meth c ls hx hb hr hlocks S hin hK hpic hl
  have hown := S.2.2.2.1
  have hts := S.2.2.2.2
  have hl : lv_has ls 3 [(0, .ref y), (1, .int (zI i)), (2, .int (zI j))] := hl
  obtain ⟨F, G, O, hP, hF, hG, hO, hdis, hrg⟩ := id hpic
  have hn := hs.2.1
  refine lv_iload_n hx hb dX10_isFactor_0 rfl (lv_at hl 1 rfl) ?_
  refine zv_if_lt (tgt := 23) hx hb dX10_isFactor_1 (by decide) (by omega) (fun c1 => ?_) (fun c1 => ?_)
  · refine zv_iconst hx hb dX10_isFactor_23 ?_
    exact zr_z hx hb hr hlocks dX10_isFactor_24 rfl (by rw [zB_f (by omega)])
  · refine lv_iload_n hx hb dX10_isFactor_4 rfl (lv_at hl 1 rfl) ?_
    refine lv_iload_n hx hb dX10_isFactor_5 rfl (lv_at hl 2 rfl) ?_
    refine zv_icmp_ge (tgt := 23) hx hb dX10_isFactor_6 (by decide) (by omega) (by omega) (fun c6 => ?_) (fun c6 => ?_)
    · refine zv_iconst hx hb dX10_isFactor_23 ?_
      exact zr_z hx hb hr hlocks dX10_isFactor_24 rfl (by rw [zB_f (by omega)])
    · refine lv_iload_n hx hb dX10_isFactor_9 rfl (lv_at hl 2 rfl) ?_
      refine lv_aload_n hx hb dX10_isFactor_10 rfl (lv_at hl 0 rfl) ?_
      refine va_get (D := g.1) (ci := 5) (v := .ref sa) (C := RX10) (T := TX10) (N := 6) hx hb hts mX10_isFactor_0 hown hK hP 0 rfl rfl 0 (by decide) (hts _ mX10_isFactor_1) (fun _ h9 => h9) rfl dX10_isFactor_11 ?_
      refine zv_iconst hx hb dX10_isFactor_14 ?_
      refine va_iald (D := g.1) hx hb hK hP 1 0 rfl rfl (zI_in (by omega) (by decide)) dX10_isFactor_15 ?_
      rw [zI_cl (by omega)]
      rw [(hF 0 (by omega) (by omega)).1.trans (congrArg zI hs.1)]
      refine zv_icmp_gt (tgt := 23) hx hb dX10_isFactor_16 (by decide) (by omega) (by omega) (fun c16 => ?_) (fun c16 => ?_)
      · refine zv_iconst hx hb dX10_isFactor_23 ?_
        exact zr_z hx hb hr hlocks dX10_isFactor_24 rfl (by rw [zB_f (by omega)])
      · refine zv_iconst hx hb dX10_isFactor_19 ?_
        refine lv_goto (tgt := 24) hx hb dX10_isFactor_20 (by decide) ?_
        exact zr_z hx hb hr hlocks dX10_isFactor_24 rfl (by rw [zB_t (by omega)])

theorem mX10_letAt_0 : ∀ w ∈ wsX100, w ∈ wsX10_letAt := by decide +kernel
theorem mX10_letAt_1 : (Cond.fieldLink RX10 7 "BorderRunsModel" "s" "[I") ∈ wsX10_letAt := by decide +kernel
set_option maxHeartbeats 4000000 in
set_option maxRecDepth 100000 in
/-- X10_letAt -/
theorem kX10_letAt (l : Launch) (g : zG) (y sa ta oa : Nat) (f gt od : Int → Int) (sv ik tp : Int) (b : Int) (w : Int → Int) (n : Int) (hb0 : 0 ≤ b ∧ b ≤ 246) (hs : SL f b w n) (i : Int) (hi : 0 ≤ i ∧ i < n) : Met l yX10_letAt wsX10_letAt (zRm 0 0) (zP g [.ref y, .int (zI b), .int (zI i)] (RM g y sa ta oa f gt od sv ik tp)) (vp_Si (fun r => ∃ z : Int, r = zI z ∧ z = w i ∧ 0 ≤ z ∧ z ≤ 25)) 0 0 (fun _ => False) := by
  refine Met.ofZ (cc := cX10_letAt) (maxL := 3) (ret := (some .int)) (by decide) rfl (Nat.le_of_ble_eq_true rfl) ?_
  intro p e s m args below meth c ls hx hb hr hlocks S hin hK hpic hl
  have hown := S.2.2.2.1
  have hts := S.2.2.2.2
  have hl : lv_has ls 3 [(0, .ref y), (1, .int (zI b)), (2, .int (zI i))] := hl
  obtain ⟨F, G, O, hP, hF, hG, hO, hdis, hrg⟩ := id hpic
  have hn := hs.2.1
  have hv := hs.2.2 i (by omega) (by omega)
  refine lv_aload_n hx hb dX10_letAt_0 rfl (lv_at hl 0 rfl) ?_
  refine va_get (D := g.1) (ci := 5) (v := .ref sa) (C := RX10) (T := TX10) (N := 6) hx hb hts mX10_letAt_0 hown hK hP 0 rfl rfl 0 (by decide) (hts _ mX10_letAt_1) (fun _ h9 => h9) rfl dX10_letAt_1 ?_
  refine lv_iload_n hx hb dX10_letAt_4 rfl (lv_at hl 1 rfl) ?_
  refine zv_iconst hx hb dX10_letAt_5 ?_
  refine zv_iadd hx hb dX10_letAt_6 ?_
  refine lv_iload_n hx hb dX10_letAt_7 rfl (lv_at hl 2 rfl) ?_
  refine zv_iadd hx hb dX10_letAt_8 ?_
  refine va_iald (D := g.1) hx hb hK hP 1 0 rfl rfl (zI_in (by omega) (by decide)) dX10_letAt_9 ?_
  rw [zI_cl (by omega)]
  rw [(hF ((b + 1) + i) (by omega) (by omega)).1]
  exact zr_i hx hb hr hlocks dX10_letAt_10 (⟨_, rfl, hv.1, by omega, by omega⟩)

set_option maxHeartbeats 4000000 in
set_option maxRecDepth 100000 in
/-- X10_areSame -/
theorem kX10_areSame (l : Launch) (g : zG) (y sa ta oa : Nat) (f gt od : Int → Int) (sv ik tp : Int) (b : Int) (w : Int → Int) (n : Int) (hb0 : 0 ≤ b ∧ b ≤ 246) (hs : SL f b w n) (i j t : Int) (hi : 0 ≤ i ∧ 0 ≤ j ∧ 0 ≤ t ∧ i + t ≤ n ∧ j + t ≤ n) : Met l yX10_areSame wsX10_areSame (zRm 1 22) (zP g [.ref y, .int (zI b), .int (zI i), .int (zI j), .int (zI t)] (RM g y sa ta oa f gt od sv ik tp)) (vp_Si (fun r => r = zI (zB (zSm w i j t)))) 0 0 (fun _ => False) := by
  refine Met.ofZ (cc := cX10_areSame) (maxL := 6) (ret := (some .boolean)) (by decide) rfl (Nat.le_of_ble_eq_true rfl) ?_
  intro p e s m args below meth c ls hx hb hr hlocks S hin hK hpic hl
  have hown := S.2.2.2.1
  have hts := S.2.2.2.2
  have hl : lv_has ls 6 [(0, .ref y), (1, .int (zI b)), (2, .int (zI i)), (3, .int (zI j)), (4, .int (zI t))] := hl
  obtain ⟨F, G, O, hP, hF, hG, hO, hdis, hrg⟩ := id hpic
  have hn := hs.2.1
  refine zv_iconst hx hb dX10_areSame_0 ?_
  refine lv_istore (lv' := [(5, .int (zI 0)), (0, .ref y), (1, .int (zI b)), (2, .int (zI i)), (3, .int (zI j)), (4, .int (zI t))]) hx hb dX10_areSame_1 hl (by decide) rfl (fun ls hl => ?_)
  have lp3 : ∀ (z_f : Nat) (k : Int), (0 ≤ k ∧ k ≤ t) → (zSm w i j k) → ((t - k).toNat) < z_f → ∀ (ls : Array Slot), lv_has ls 6 [(0, .ref y), (1, .int (zI b)), (2, .int (zI i)), (3, .int (zI j)), (4, .int (zI t)), (5, .int (zI k))] → W p l e (zRm 1 22) s m args below meth c s.heap [] 0 0 (MQ below (vp_Si (fun r => r = zI (zB (zSm w i j t)))) args s 0 0 (fun _ => False)) (F0 m 3 ls []) := by
    intro z_f
    induction z_f with
    | zero => intro k h0 h1 z_m; exact absurd z_m (Nat.not_lt_zero _)
    | succ z_f ih3 =>
      intro k h0 h1 z_m3 ls hl
      refine lv_iload hx hb dX10_areSame_3 (lv_at hl 5 rfl) ?_
      refine lv_iload hx hb dX10_areSame_5 (lv_at hl 4 rfl) ?_
      refine zv_icmp_ge (tgt := 39) hx hb dX10_areSame_7 (by decide) (by omega) (by omega) (fun c7 => ?_) (fun c7 => ?_)
      · have e9 : zSm w i j t := by rw [← show k = t by omega]; exact h1
        refine zv_iconst hx hb dX10_areSame_39 ?_
        exact zr_z hx hb hr hlocks dX10_areSame_40 rfl (by rw [zB_t e9])
      · refine lv_aload_n hx hb dX10_areSame_10 rfl (lv_at hl 0 rfl) ?_
        refine lv_iload_n hx hb dX10_areSame_11 rfl (lv_at hl 1 rfl) ?_
        refine lv_iload_n hx hb dX10_areSame_12 rfl (lv_at hl 2 rfl) ?_
        refine lv_iload hx hb dX10_areSame_13 (lv_at hl 5 rfl) ?_
        refine zv_iadd hx hb dX10_areSame_15 ?_
        refine zc_V (As := [.int (zI b), .int (zI (i + k))]) (rest := []) S hK (kX10_letAt l g y sa ta oa f gt od sv ik tp b w n hb0 hs (i + k) (by omega)) (cwV 2 hts gX10_areSame_X10_letAt rfl rfl rfl (by decide +kernel) ⟨Nat.le_of_ble_eq_true rfl, Nat.le_of_ble_eq_true rfl⟩) (hpic) (hpic.recv hK) rfl hl.1 rfl (Nat.le_of_ble_eq_true rfl) dX10_areSame_16 ⟨Nat.zero_le _, Nat.zero_le _⟩ (fun r16 hr16 => ?_)
        obtain ⟨z16, rfl, hz16⟩ := hr16
        refine lv_aload_n hx hb dX10_areSame_19 rfl (lv_at hl 0 rfl) ?_
        refine lv_iload_n hx hb dX10_areSame_20 rfl (lv_at hl 1 rfl) ?_
        refine lv_iload_n hx hb dX10_areSame_21 rfl (lv_at hl 3 rfl) ?_
        refine lv_iload hx hb dX10_areSame_22 (lv_at hl 5 rfl) ?_
        refine zv_iadd hx hb dX10_areSame_24 ?_
        refine zc_V (As := [.int (zI b), .int (zI (j + k))]) (rest := [.int (zI z16)]) S hK (kX10_letAt l g y sa ta oa f gt od sv ik tp b w n hb0 hs (j + k) (by omega)) (cwV 2 hts gX10_areSame_X10_letAt rfl rfl rfl (by decide +kernel) ⟨Nat.le_of_ble_eq_true rfl, Nat.le_of_ble_eq_true rfl⟩) (hpic) (hpic.recv hK) rfl hl.1 rfl (Nat.le_of_ble_eq_true rfl) dX10_areSame_25 ⟨Nat.zero_le _, Nat.zero_le _⟩ (fun r25 hr25 => ?_)
        obtain ⟨z25, rfl, hz25⟩ := hr25
        refine zv_icmp_eq (tgt := 33) hx hb dX10_areSame_28 (by decide) (by omega) (by omega) (fun c28 => ?_) (fun c28 => ?_)
        · refine zv_iinc (lv' := [(5, .int (zI (k + 1))), (0, .ref y), (1, .int (zI b)), (2, .int (zI i)), (3, .int (zI j)), (4, .int (zI t))]) hx hb dX10_areSame_33 hl (k := 5) rfl (by decide) rfl (fun ls hl => ?_)
          refine lv_goto (tgt := 3) hx hb dX10_areSame_36 (by decide) ?_
          exact ih3 (k + 1) (by omega) (fun q h1q h2q => (show q < k ∨ q = k by omega).elim (fun h8 => h1 q h1q h8) (fun h8 => by subst h8; omega)) (by omega) _ (lv_sub hl [1, 2, 3, 4, 5, 0] rfl)
        · have e9 : ¬ zSm w i j t := fun q => by have := q k (by omega) (by omega); omega
          refine zv_iconst hx hb dX10_areSame_31 ?_
          exact zr_z hx hb hr hlocks dX10_areSame_32 rfl (by rw [zB_f e9])
  exact lp3 _ 0 (by omega) (zSm_0 w i j (Int.le_refl 0)) (Nat.lt_succ_self _) _ (lv_sub hl [1, 2, 3, 4, 5, 0] rfl)

set_option maxHeartbeats 4000000 in
set_option maxRecDepth 100000 in
/-- X10_edge -/
theorem kX10_edge (l : Launch) (g : zG) (y sa ta oa : Nat) (f gt od : Int → Int) (sv ik tp : Int) (b : Int) (w : Int → Int) (n : Int) (hb0 : 0 ≤ b ∧ b ≤ 246) (hs : SL f b w n) (i j x : Int) (hi : 0 ≤ i ∧ i ≤ j ∧ j ≤ n ∧ 0 ≤ x ∧ x ≤ j - i) : Met l yX10_edge wsX10_edge (zRm 2 47) (zP g [.ref y, .int (zI b), .int (zI i), .int (zI j), .int (zI x)] (RM g y sa ta oa f gt od sv ik tp)) (vp_Si (fun r => ∃ z : Int, r = zI z ∧ z = zEG w i j x ∧ 0 ≤ z ∧ (z < x ∨ z = 0))) 0 0 (fun _ => False) := by
  refine Met.ofZ (cc := cX10_edge) (maxL := 6) (ret := (some .int)) (by decide) rfl (Nat.le_of_ble_eq_true rfl) ?_
  intro p e s m args below meth c ls hx hb hr hlocks S hin hK hpic hl
  have hown := S.2.2.2.1
  have hts := S.2.2.2.2
  have hl : lv_has ls 6 [(0, .ref y), (1, .int (zI b)), (2, .int (zI i)), (3, .int (zI j)), (4, .int (zI x))] := hl
  obtain ⟨F, G, O, hP, hF, hG, hO, hdis, hrg⟩ := id hpic
  have hn := hs.2.1
  refine lv_iload hx hb dX10_edge_0 (lv_at hl 4 rfl) ?_
  refine zv_iconst hx hb dX10_edge_2 ?_
  refine zv_isub hx hb dX10_edge_3 ?_
  refine lv_istore (lv' := [(5, .int (zI (x - 1))), (0, .ref y), (1, .int (zI b)), (2, .int (zI i)), (3, .int (zI j)), (4, .int (zI x))]) hx hb dX10_edge_4 hl (by decide) rfl (fun ls hl => ?_)
  have lp6 : ∀ (z_f : Nat) (k : Int), (-1 ≤ k ∧ k ≤ x - 1) → (zEG w i j (k + 1) = zEG w i j x) → ((k + 1).toNat) < z_f → ∀ (ls : Array Slot), lv_has ls 6 [(0, .ref y), (1, .int (zI b)), (2, .int (zI i)), (3, .int (zI j)), (4, .int (zI x)), (5, .int (zI k))] → W p l e (zRm 2 47) s m args below meth c s.heap [] 0 0 (MQ below (vp_Si (fun r => ∃ z : Int, r = zI z ∧ z = zEG w i j x ∧ 0 ≤ z ∧ (z < x ∨ z = 0))) args s 0 0 (fun _ => False)) (F0 m 6 ls []) := by
    intro z_f
    induction z_f with
    | zero => intro k h0 h1 z_m; exact absurd z_m (Nat.not_lt_zero _)
    | succ z_f ih6 =>
      intro k h0 h1 z_m6 ls hl
      refine lv_iload hx hb dX10_edge_6 (lv_at hl 5 rfl) ?_
      refine zv_if_le (tgt := 35) hx hb dX10_edge_8 (by decide) (by omega) (fun c8 => ?_) (fun c8 => ?_)
      · have e9 : zEG w i j x = 0 := by
          rw [← h1]
          rcases (show k = 0 ∨ k = -1 by omega) with h8 | h8
          · subst h8; exact zEG_1 w i j
          · subst h8; exact zEG_0 w i j (by omega)
        refine zv_iconst hx hb dX10_edge_35 ?_
        exact zr_i hx hb hr hlocks dX10_edge_36 (⟨_, rfl, e9.symm, by omega, by omega⟩)
      · refine lv_aload_n hx hb dX10_edge_11 rfl (lv_at hl 0 rfl) ?_
        refine lv_iload_n hx hb dX10_edge_12 rfl (lv_at hl 1 rfl) ?_
        refine lv_iload_n hx hb dX10_edge_13 rfl (lv_at hl 2 rfl) ?_
        refine lv_iload_n hx hb dX10_edge_14 rfl (lv_at hl 3 rfl) ?_
        refine lv_iload hx hb dX10_edge_15 (lv_at hl 5 rfl) ?_
        refine zv_isub hx hb dX10_edge_17 ?_
        refine lv_iload hx hb dX10_edge_18 (lv_at hl 5 rfl) ?_
        refine zc_V (As := [.int (zI b), .int (zI i), .int (zI (j - k)), .int (zI k)]) (rest := []) S hK (kX10_areSame l g y sa ta oa f gt od sv ik tp b w n hb0 hs i (j - k) k (by omega)) (cwV 4 hts gX10_edge_X10_areSame rfl rfl rfl (by decide +kernel) ⟨Nat.le_of_ble_eq_true rfl, Nat.le_of_ble_eq_true rfl⟩) (hpic) (hpic.recv hK) rfl hl.1 rfl (Nat.le_of_ble_eq_true rfl) dX10_edge_20 ⟨Nat.zero_le _, Nat.zero_le _⟩ (fun r20 hr20 => ?_)
        obtain rfl := hr20
        refine zv_ifB_eq (tgt := 29) hx hb dX10_edge_23 (by decide) (fun c23 => ?_) (fun c23 => ?_)
        · refine zv_iinc (lv' := [(5, .int (zI (k + (-1)))), (0, .ref y), (1, .int (zI b)), (2, .int (zI i)), (3, .int (zI j)), (4, .int (zI x))]) hx hb dX10_edge_29 hl (k := 5) rfl (by decide) rfl (fun ls hl => ?_)
          refine lv_goto (tgt := 6) hx hb dX10_edge_32 (by decide) ?_
          exact ih6 (k + (-1)) (by omega) (by rw [← h1, zEG_miss (by omega) c23, show k + -1 + 1 = k by omega]) (by omega) _ (lv_sub hl [1, 2, 3, 4, 5, 0] rfl)
        · have e9 : zEG w i j x = k := by rw [← h1]; exact zEG_hit (by omega) c23
          refine lv_iload hx hb dX10_edge_26 (lv_at hl 5 rfl) ?_
          exact zr_i hx hb hr hlocks dX10_edge_28 (⟨_, rfl, e9.symm, by omega, by omega⟩)
  exact lp6 _ (x - 1) (by omega) (by rw [show x - 1 + 1 = x by omega]) (Nat.lt_succ_self _) _ (lv_sub hl [1, 2, 3, 4, 5, 0] rfl)

set_option maxHeartbeats 4000000 in
set_option maxRecDepth 100000 in
/-- X10_period -/
theorem kX10_period (l : Launch) (g : zG) (y sa ta oa : Nat) (f gt od : Int → Int) (sv ik tp : Int) (b : Int) (w : Int → Int) (n : Int) (hb0 : 0 ≤ b ∧ b ≤ 246) (hs : SL f b w n) (i j : Int) (hi : 0 ≤ i ∧ i ≤ j ∧ j ≤ n) : Met l yX10_period wsX10_period (zRm 3 72) (zP g [.ref y, .int (zI b), .int (zI i), .int (zI j)] (RM g y sa ta oa f gt od sv ik tp)) (vp_Si (fun r => ∃ z : Int, r = zI z ∧ z = zLP w i j ∧ 0 ≤ z ∧ z ≤ j - i ∧ (i < j → 1 ≤ z))) 0 0 (fun _ => False) := by
  refine Met.ofZ (cc := cX10_period) (maxL := 4) (ret := (some .int)) (by decide) rfl (Nat.le_of_ble_eq_true rfl) ?_
  intro p e s m args below meth c ls hx hb hr hlocks S hin hK hpic hl
  have hown := S.2.2.2.1
  have hts := S.2.2.2.2
  have hl : lv_has ls 4 [(0, .ref y), (1, .int (zI b)), (2, .int (zI i)), (3, .int (zI j))] := hl
  obtain ⟨F, G, O, hP, hF, hG, hO, hdis, hrg⟩ := id hpic
  have hn := hs.2.1
  refine lv_iload_n hx hb dX10_period_0 rfl (lv_at hl 3 rfl) ?_
  refine lv_iload_n hx hb dX10_period_1 rfl (lv_at hl 2 rfl) ?_
  refine zv_isub hx hb dX10_period_2 ?_
  refine lv_aload_n hx hb dX10_period_3 rfl (lv_at hl 0 rfl) ?_
  refine lv_iload_n hx hb dX10_period_4 rfl (lv_at hl 1 rfl) ?_
  refine lv_iload_n hx hb dX10_period_5 rfl (lv_at hl 2 rfl) ?_
  refine lv_iload_n hx hb dX10_period_6 rfl (lv_at hl 3 rfl) ?_
  refine lv_iload_n hx hb dX10_period_7 rfl (lv_at hl 3 rfl) ?_
  refine lv_iload_n hx hb dX10_period_8 rfl (lv_at hl 2 rfl) ?_
  refine zv_isub hx hb dX10_period_9 ?_
  refine zc_V (As := [.int (zI b), .int (zI i), .int (zI j), .int (zI (j - i))]) (rest := [.int (zI (j - i))]) S hK (kX10_edge l g y sa ta oa f gt od sv ik tp b w n hb0 hs i j (j - i) (by omega)) (cwV 4 hts gX10_period_X10_edge rfl rfl rfl (by decide +kernel) ⟨Nat.le_of_ble_eq_true rfl, Nat.le_of_ble_eq_true rfl⟩) (hpic) (hpic.recv hK) rfl hl.1 rfl (Nat.le_of_ble_eq_true rfl) dX10_period_10 ⟨Nat.zero_le _, Nat.zero_le _⟩ (fun r10 hr10 => ?_)
  obtain ⟨z10, rfl, hz10⟩ := hr10
  refine zv_isub hx hb dX10_period_13 ?_
  exact zr_i hx hb hr hlocks dX10_period_14 (by have e9 := zEG_LP w (i := i) (j := j) (by omega); have e8 := zEG_bd w i j (j - i); exact ⟨_, rfl, by omega, by omega, by omega, by omega⟩)

set_option maxHeartbeats 4000000 in
set_option maxRecDepth 100000 in
/-- X10_isFirst -/
theorem kX10_isFirst (l : Launch) (g : zG) (y sa ta oa : Nat) (f gt od : Int → Int) (sv ik tp : Int) (b : Int) (w : Int → Int) (n : Int) (hb0 : 0 ≤ b ∧ b ≤ 246) (hs : SL f b w n) (i j : Int) (hi : 0 ≤ i ∧ i ≤ j ∧ j ≤ n) : Met l yX10_isFirst wsX10_isFirst (zRm 2 47) (zP g [.ref y, .int (zI b), .int (zI i), .int (zI j)] (RM g y sa ta oa f gt od sv ik tp)) (vp_Si (fun r => r = zI (zB (zNew w i (j - i))))) 0 0 (fun _ => False) := by
  refine Met.ofZ (cc := cX10_isFirst) (maxL := 5) (ret := (some .boolean)) (by decide) rfl (Nat.le_of_ble_eq_true rfl) ?_
  intro p e s m args below meth c ls hx hb hr hlocks S hin hK hpic hl
  have hown := S.2.2.2.1
  have hts := S.2.2.2.2
  have hl : lv_has ls 5 [(0, .ref y), (1, .int (zI b)), (2, .int (zI i)), (3, .int (zI j))] := hl
  obtain ⟨F, G, O, hP, hF, hG, hO, hdis, hrg⟩ := id hpic
  have hn := hs.2.1
  refine zv_iconst hx hb dX10_isFirst_0 ?_
  refine lv_istore (lv' := [(4, .int (zI 0)), (0, .ref y), (1, .int (zI b)), (2, .int (zI i)), (3, .int (zI j))]) hx hb dX10_isFirst_1 hl (by decide) rfl (fun ls hl => ?_)
  have lp3 : ∀ (z_f : Nat) (k : Int), (0 ≤ k ∧ k ≤ i) → (∀ q, 0 ≤ q → q < k → ¬ zSm w q i (j - i)) → ((i - k).toNat) < z_f → ∀ (ls : Array Slot), lv_has ls 5 [(0, .ref y), (1, .int (zI b)), (2, .int (zI i)), (3, .int (zI j)), (4, .int (zI k))] → W p l e (zRm 2 47) s m args below meth c s.heap [] 0 0 (MQ below (vp_Si (fun r => r = zI (zB (zNew w i (j - i))))) args s 0 0 (fun _ => False)) (F0 m 3 ls []) := by
    intro z_f
    induction z_f with
    | zero => intro k h0 h1 z_m; exact absurd z_m (Nat.not_lt_zero _)
    | succ z_f ih3 =>
      intro k h0 h1 z_m3 ls hl
      refine lv_iload hx hb dX10_isFirst_3 (lv_at hl 4 rfl) ?_
      refine lv_iload_n hx hb dX10_isFirst_5 rfl (lv_at hl 2 rfl) ?_
      refine zv_icmp_ge (tgt := 31) hx hb dX10_isFirst_6 (by decide) (by omega) (by omega) (fun c6 => ?_) (fun c6 => ?_)
      · have e9 : zNew w i (j - i) := fun q h1q h2q => h1 q h1q (by omega)
        refine zv_iconst hx hb dX10_isFirst_31 ?_
        exact zr_z hx hb hr hlocks dX10_isFirst_32 rfl (by rw [zB_t e9])
      · refine lv_aload_n hx hb dX10_isFirst_9 rfl (lv_at hl 0 rfl) ?_
        refine lv_iload_n hx hb dX10_isFirst_10 rfl (lv_at hl 1 rfl) ?_
        refine lv_iload hx hb dX10_isFirst_11 (lv_at hl 4 rfl) ?_
        refine lv_iload_n hx hb dX10_isFirst_13 rfl (lv_at hl 2 rfl) ?_
        refine lv_iload_n hx hb dX10_isFirst_14 rfl (lv_at hl 3 rfl) ?_
        refine lv_iload_n hx hb dX10_isFirst_15 rfl (lv_at hl 2 rfl) ?_
        refine zv_isub hx hb dX10_isFirst_16 ?_
        refine zc_V (As := [.int (zI b), .int (zI k), .int (zI i), .int (zI (j - i))]) (rest := []) S hK (kX10_areSame l g y sa ta oa f gt od sv ik tp b w n hb0 hs k i (j - i) (by omega)) (cwV 4 hts gX10_isFirst_X10_areSame rfl rfl rfl (by decide +kernel) ⟨Nat.le_of_ble_eq_true rfl, Nat.le_of_ble_eq_true rfl⟩) (hpic) (hpic.recv hK) rfl hl.1 rfl (Nat.le_of_ble_eq_true rfl) dX10_isFirst_17 ⟨Nat.zero_le _, Nat.zero_le _⟩ (fun r17 hr17 => ?_)
        obtain rfl := hr17
        refine zv_ifB_eq (tgt := 25) hx hb dX10_isFirst_20 (by decide) (fun c20 => ?_) (fun c20 => ?_)
        · refine zv_iinc (lv' := [(4, .int (zI (k + 1))), (0, .ref y), (1, .int (zI b)), (2, .int (zI i)), (3, .int (zI j))]) hx hb dX10_isFirst_25 hl (k := 4) rfl (by decide) rfl (fun ls hl => ?_)
          refine lv_goto (tgt := 3) hx hb dX10_isFirst_28 (by decide) ?_
          exact ih3 (k + 1) (by omega) (fun q h1q h2q => (show q < k ∨ q = k by omega).elim (fun h8 => h1 q h1q h8) (fun h8 => by subst h8; exact c20)) (by omega) _ (lv_sub hl [1, 2, 3, 4, 0] rfl)
        · have e9 : ¬ zNew w i (j - i) := fun z => z k (by omega) (by omega) c20
          refine zv_iconst hx hb dX10_isFirst_23 ?_
          exact zr_z hx hb hr hlocks dX10_isFirst_24 rfl (by rw [zB_f e9])
  exact lp3 _ 0 (by omega) (fun q h1q h2q => absurd h2q (by omega)) (Nat.lt_succ_self _) _ (lv_sub hl [1, 2, 3, 4, 0] rfl)

set_option maxHeartbeats 4000000 in
set_option maxRecDepth 100000 in
/-- X10_kinds -/
theorem kX10_kinds (l : Launch) (g : zG) (y sa ta oa : Nat) (f gt od : Int → Int) (sv ik tp : Int) (b : Int) (w : Int → Int) (n : Int) (hb0 : 0 ≤ b ∧ b ≤ 246) (hs : SL f b w n) (x : Int) (hx0 : 0 ≤ x ∧ x ≤ n) : Met l yX10_kinds wsX10_kinds (zRm 3 71) (zP g [.ref y, .int (zI b), .int (zI x)] (RM g y sa ta oa f gt od sv ik tp)) (vp_Si (fun r => ∃ z : Int, r = zI z ∧ z = zUn w x ∧ 0 ≤ z ∧ z ≤ 1640)) 0 0 (fun _ => False) := by
  refine Met.ofZ (cc := cX10_kinds) (maxL := 6) (ret := (some .int)) (by decide) rfl (Nat.le_of_ble_eq_true rfl) ?_
  intro p e s m args below meth c ls hx hb hr hlocks S hin hK hpic hl
  have hown := S.2.2.2.1
  have hts := S.2.2.2.2
  have hl : lv_has ls 6 [(0, .ref y), (1, .int (zI b)), (2, .int (zI x))] := hl
  obtain ⟨F, G, O, hP, hF, hG, hO, hdis, hrg⟩ := id hpic
  have hn := hs.2.1
  refine zv_iconst hx hb dX10_kinds_0 ?_
  refine lv_istore_n (lv' := [(3, .int (zI 0)), (0, .ref y), (1, .int (zI b)), (2, .int (zI x))]) hx hb dX10_kinds_1 rfl hl (by decide) rfl (fun ls hl => ?_)
  refine zv_iconst hx hb dX10_kinds_2 ?_
  refine lv_istore (lv' := [(4, .int (zI 0)), (3, .int (zI 0)), (0, .ref y), (1, .int (zI b)), (2, .int (zI x))]) hx hb dX10_kinds_3 hl (by decide) rfl (fun ls hl => ?_)
  have lp5 : ∀ (z_f : Nat) (o : Int) (i : Int), (0 ≤ i ∧ i ≤ x ∧ 0 ≤ o ∧ o ≤ 40 * i) → (o = zKd w x i) → ((x - i).toNat) < z_f → ∀ (ls : Array Slot), lv_has ls 6 [(0, .ref y), (1, .int (zI b)), (2, .int (zI x)), (3, .int (zI o)), (4, .int (zI i))] → W p l e (zRm 3 71) s m args below meth c s.heap [] 0 0 (MQ below (vp_Si (fun r => ∃ z : Int, r = zI z ∧ z = zUn w x ∧ 0 ≤ z ∧ z ≤ 1640)) args s 0 0 (fun _ => False)) (F0 m 5 ls []) := by
    intro z_f
    induction z_f with
    | zero => intro o i h0 h1 z_m; exact absurd z_m (Nat.not_lt_zero _)
    | succ z_f ih5 =>
      intro o i h0 h1 z_m5 ls hl
      refine lv_iload hx hb dX10_kinds_5 (lv_at hl 4 rfl) ?_
      refine lv_iload_n hx hb dX10_kinds_7 rfl (lv_at hl 2 rfl) ?_
      refine zv_icmp_ge (tgt := 55) hx hb dX10_kinds_8 (by decide) (by omega) (by omega) (fun c8 => ?_) (fun c8 => ?_)
      · have e9 : o = zUn w x := by rw [h1, show i = x by omega]; exact zKd_un w (by omega)
        refine lv_iload_n hx hb dX10_kinds_55 rfl (lv_at hl 3 rfl) ?_
        exact zr_i hx hb hr hlocks dX10_kinds_56 (⟨_, rfl, e9, by omega, by omega⟩)
      · refine lv_iload hx hb dX10_kinds_11 (lv_at hl 4 rfl) ?_
        refine zv_iconst hx hb dX10_kinds_13 ?_
        refine zv_iadd hx hb dX10_kinds_14 ?_
        refine lv_istore (lv' := [(5, .int (zI (i + 1))), (0, .ref y), (1, .int (zI b)), (2, .int (zI x)), (3, .int (zI o)), (4, .int (zI i))]) hx hb dX10_kinds_15 hl (by decide) rfl (fun ls hl => ?_)
        have lp17 : ∀ (z_f : Nat) (o2 : Int) (t : Int), (i + 1 ≤ t ∧ t ≤ x + 1 ∧ 0 ≤ o2 ∧ o2 ≤ 40 * i + t) → (o2 = zKd w x i + zC (fun t => zNew w i (t - i)) (i + 1) t) → ((x + 1 - t).toNat) < z_f → ∀ (ls : Array Slot), lv_has ls 6 [(0, .ref y), (1, .int (zI b)), (2, .int (zI x)), (3, .int (zI o2)), (4, .int (zI i)), (5, .int (zI t))] → W p l e (zRm 3 71) s m args below meth c s.heap [] 0 0 (MQ below (vp_Si (fun r => ∃ z : Int, r = zI z ∧ z = zUn w x ∧ 0 ≤ z ∧ z ≤ 1640)) args s 0 0 (fun _ => False)) (F0 m 17 ls []) := by
          intro z_f
          induction z_f with
          | zero => intro o2 t k0 k1 z_m; exact absurd z_m (Nat.not_lt_zero _)
          | succ z_f ih17 =>
            intro o2 t k0 k1 z_m17 ls hl
            refine lv_iload hx hb dX10_kinds_17 (lv_at hl 5 rfl) ?_
            refine lv_iload_n hx hb dX10_kinds_19 rfl (lv_at hl 2 rfl) ?_
            refine zv_icmp_gt (tgt := 49) hx hb dX10_kinds_20 (by decide) (by omega) (by omega) (fun c20 => ?_) (fun c20 => ?_)
            · refine zv_iinc (lv' := [(4, .int (zI (i + 1))), (0, .ref y), (1, .int (zI b)), (2, .int (zI x)), (3, .int (zI o2)), (5, .int (zI t))]) hx hb dX10_kinds_49 hl (k := 4) rfl (by decide) rfl (fun ls hl => ?_)
              refine lv_goto (tgt := 5) hx hb dX10_kinds_52 (by decide) ?_
              exact ih5 o2 (i + 1) ((by have q9 := zKr_bd w (x := x) (i := i) (by omega); have q8 : zKr w x i = zC (fun t => zNew w i (t - i)) (i + 1) (x + 1) := rfl; rw [show t = x + 1 by omega] at k1; omega)) ((by show _ = zS (zKr w x) 0 (i + 1); rw [zS_succ _ (by omega), k1, show t = x + 1 by omega]; rfl)) (by omega) _ (lv_sub hl [1, 2, 3, 4, 0] rfl)
            · refine lv_iload_n hx hb dX10_kinds_23 rfl (lv_at hl 3 rfl) ?_
              refine lv_aload_n hx hb dX10_kinds_24 rfl (lv_at hl 0 rfl) ?_
              refine lv_iload_n hx hb dX10_kinds_25 rfl (lv_at hl 1 rfl) ?_
              refine lv_iload hx hb dX10_kinds_26 (lv_at hl 4 rfl) ?_
              refine lv_iload hx hb dX10_kinds_28 (lv_at hl 5 rfl) ?_
              refine zc_V (As := [.int (zI b), .int (zI i), .int (zI t)]) (rest := [.int (zI o2)]) S hK (kX10_isFirst l g y sa ta oa f gt od sv ik tp b w n hb0 hs i t (by omega)) (cwV 3 hts gX10_kinds_X10_isFirst rfl rfl rfl (by decide +kernel) ⟨Nat.le_of_ble_eq_true rfl, Nat.le_of_ble_eq_true rfl⟩) (hpic) (hpic.recv hK) rfl hl.1 rfl (Nat.le_of_ble_eq_true rfl) dX10_kinds_30 ⟨Nat.zero_le _, Nat.zero_le _⟩ (fun r30 hr30 => ?_)
              obtain rfl := hr30
              refine zv_ifB_eq (tgt := 40) hx hb dX10_kinds_33 (by decide) (fun c33 => ?_) (fun c33 => ?_)
              · refine zv_iconst hx hb dX10_kinds_40 ?_
                refine zv_iadd hx hb dX10_kinds_41 ?_
                refine lv_istore_n (lv' := [(3, .int (zI (o2 + 0))), (0, .ref y), (1, .int (zI b)), (2, .int (zI x)), (4, .int (zI i)), (5, .int (zI t))]) hx hb dX10_kinds_42 rfl hl (by decide) rfl (fun ls hl => ?_)
                refine zv_iinc (lv' := [(5, .int (zI (t + 1))), (3, .int (zI (o2 + 0))), (0, .ref y), (1, .int (zI b)), (2, .int (zI x)), (4, .int (zI i))]) hx hb dX10_kinds_43 hl (k := 5) rfl (by decide) rfl (fun ls hl => ?_)
                refine lv_goto (tgt := 17) hx hb dX10_kinds_46 (by decide) ?_
                exact ih17 (o2 + 0) (t + 1) (by omega) (by rw [zC_f (P := fun t => zNew w i (t - i)) (b := t) (by omega) c33]; omega) (by omega) _ (lv_sub hl [2, 3, 4, 1, 5, 0] rfl)
              · refine zv_iconst hx hb dX10_kinds_36 ?_
                refine lv_goto (tgt := 41) hx hb dX10_kinds_37 (by decide) ?_
                refine zv_iadd hx hb dX10_kinds_41 ?_
                refine lv_istore_n (lv' := [(3, .int (zI (o2 + 1))), (0, .ref y), (1, .int (zI b)), (2, .int (zI x)), (4, .int (zI i)), (5, .int (zI t))]) hx hb dX10_kinds_42 rfl hl (by decide) rfl (fun ls hl => ?_)
                refine zv_iinc (lv' := [(5, .int (zI (t + 1))), (3, .int (zI (o2 + 1))), (0, .ref y), (1, .int (zI b)), (2, .int (zI x)), (4, .int (zI i))]) hx hb dX10_kinds_43 hl (k := 5) rfl (by decide) rfl (fun ls hl => ?_)
                refine lv_goto (tgt := 17) hx hb dX10_kinds_46 (by decide) ?_
                exact ih17 (o2 + 1) (t + 1) (by omega) (by rw [zC_t (P := fun t => zNew w i (t - i)) (b := t) (by omega) c33]; omega) (by omega) _ (lv_sub hl [2, 3, 4, 1, 5, 0] rfl)
        exact lp17 _ o (i + 1) (by omega) (by rw [zC_nil _ (by omega)]; omega) (Nat.lt_succ_self _) _ (lv_sub hl [1, 2, 3, 4, 5, 0] rfl)
  exact lp5 _ 0 0 (by omega) ((zS_nil _ (by omega)).symm) (Nat.lt_succ_self _) _ (lv_sub hl [2, 3, 4, 1, 0] rfl)

theorem mX10_isSquare_0 : ∀ w ∈ wsX100, w ∈ wsX10_isSquare := by decide +kernel
theorem mX10_isSquare_1 : (Cond.fieldLink RX10 7 "BorderRunsModel" "s" "[I") ∈ wsX10_isSquare := by decide +kernel
set_option maxHeartbeats 4000000 in
set_option maxRecDepth 100000 in
/-- X10_isSquare -/
theorem kX10_isSquare (l : Launch) (g : zG) (y sa ta oa : Nat) (f gt od : Int → Int) (sv ik tp : Int) (b : Int) (w : Int → Int) (n : Int) (hb0 : 0 ≤ b ∧ b ≤ 246) (hs : SL f b w n) (i d : Int) (hi : 0 ≤ i ∧ i ≤ 40 ∧ 1 ≤ d ∧ d ≤ 40) : Met l yX10_isSquare wsX10_isSquare (zRm 2 47) (zP g [.ref y, .int (zI b), .int (zI i), .int (zI d)] (RM g y sa ta oa f gt od sv ik tp)) (vp_Si (fun r => r = zI (zB (i + 2 * d ≤ n ∧ zSqP w i d)))) 0 0 (fun _ => False) := by
  refine Met.ofZ (cc := cX10_isSquare) (maxL := 4) (ret := (some .boolean)) (by decide) rfl (Nat.le_of_ble_eq_true rfl) ?_
  intro p e s m args below meth c ls hx hb hr hlocks S hin hK hpic hl
  have hown := S.2.2.2.1
  have hts := S.2.2.2.2
  have hl : lv_has ls 4 [(0, .ref y), (1, .int (zI b)), (2, .int (zI i)), (3, .int (zI d))] := hl
  obtain ⟨F, G, O, hP, hF, hG, hO, hdis, hrg⟩ := id hpic
  have hn := hs.2.1
  refine lv_iload_n hx hb dX10_isSquare_0 rfl (lv_at hl 2 rfl) ?_
  refine zv_iconst hx hb dX10_isSquare_1 ?_
  refine lv_iload_n hx hb dX10_isSquare_2 rfl (lv_at hl 3 rfl) ?_
  refine zv_imul hx hb dX10_isSquare_3 ?_
  refine zv_iadd hx hb dX10_isSquare_4 ?_
  refine lv_aload_n hx hb dX10_isSquare_5 rfl (lv_at hl 0 rfl) ?_
  refine va_get (D := g.1) (ci := 5) (v := .ref sa) (C := RX10) (T := TX10) (N := 6) hx hb hts mX10_isSquare_0 hown hK hP 0 rfl rfl 0 (by decide) (hts _ mX10_isSquare_1) (fun _ h9 => h9) rfl dX10_isSquare_6 ?_
  refine lv_iload_n hx hb dX10_isSquare_9 rfl (lv_at hl 1 rfl) ?_
  refine va_iald (D := g.1) hx hb hK hP 1 0 rfl rfl (zI_in (by omega) (by decide)) dX10_isSquare_10 ?_
  rw [zI_cl (by omega)]
  rw [(hF b (by omega) (by omega)).1.trans (congrArg zI hs.1)]
  refine zv_icmp_gt (tgt := 31) hx hb dX10_isSquare_11 (by decide) (by omega) (by omega) (fun c11 => ?_) (fun c11 => ?_)
  · have e9 : ¬ (i + 2 * d ≤ n ∧ zSqP w i d) := fun q => by have := q.1; omega
    refine zv_iconst hx hb dX10_isSquare_31 ?_
    exact zr_z hx hb hr hlocks dX10_isSquare_32 rfl (by rw [zB_f e9])
  · refine lv_aload_n hx hb dX10_isSquare_14 rfl (lv_at hl 0 rfl) ?_
    refine lv_iload_n hx hb dX10_isSquare_15 rfl (lv_at hl 1 rfl) ?_
    refine lv_iload_n hx hb dX10_isSquare_16 rfl (lv_at hl 2 rfl) ?_
    refine lv_iload_n hx hb dX10_isSquare_17 rfl (lv_at hl 2 rfl) ?_
    refine lv_iload_n hx hb dX10_isSquare_18 rfl (lv_at hl 3 rfl) ?_
    refine zv_iadd hx hb dX10_isSquare_19 ?_
    refine lv_iload_n hx hb dX10_isSquare_20 rfl (lv_at hl 3 rfl) ?_
    refine zc_V (As := [.int (zI b), .int (zI i), .int (zI (i + d)), .int (zI d)]) (rest := []) S hK (kX10_areSame l g y sa ta oa f gt od sv ik tp b w n hb0 hs i (i + d) d (by omega)) (cwV 4 hts gX10_isSquare_X10_areSame rfl rfl rfl (by decide +kernel) ⟨Nat.le_of_ble_eq_true rfl, Nat.le_of_ble_eq_true rfl⟩) (hpic) (hpic.recv hK) rfl hl.1 rfl (Nat.le_of_ble_eq_true rfl) dX10_isSquare_21 ⟨Nat.zero_le _, Nat.zero_le _⟩ (fun r21 hr21 => ?_)
    obtain rfl := hr21
    refine zv_ifB_eq (tgt := 31) hx hb dX10_isSquare_24 (by decide) (fun c24 => ?_) (fun c24 => ?_)
    · have e9 : ¬ (i + 2 * d ≤ n ∧ zSqP w i d) := fun q => c24 q.2
      refine zv_iconst hx hb dX10_isSquare_31 ?_
      exact zr_z hx hb hr hlocks dX10_isSquare_32 rfl (by rw [zB_f e9])
    · have e9 : i + 2 * d ≤ n ∧ zSqP w i d := ⟨by omega, c24⟩
      refine zv_iconst hx hb dX10_isSquare_27 ?_
      refine lv_goto (tgt := 32) hx hb dX10_isSquare_28 (by decide) ?_
      exact zr_z hx hb hr hlocks dX10_isSquare_32 rfl (by rw [zB_t e9])

theorem mX10_squares_0 : ∀ w ∈ wsX100, w ∈ wsX10_squares := by decide +kernel
theorem mX10_squares_1 : (Cond.fieldLink RX10 7 "BorderRunsModel" "s" "[I") ∈ wsX10_squares := by decide +kernel
set_option maxHeartbeats 4000000 in
set_option maxRecDepth 100000 in
/-- X10_squares -/
theorem kX10_squares (l : Launch) (g : zG) (y sa ta oa : Nat) (f gt od : Int → Int) (sv ik tp : Int) (b : Int) (w : Int → Int) (n : Int) (hb0 : 0 ≤ b ∧ b ≤ 246) (hs : SL f b w n) (x : Int) (hx0 : -1 ≤ x ∧ x ≤ 41) : Met l yX10_squares wsX10_squares (zRm 3 70) (zP g [.ref y, .int (zI b), .int (zI x)] (RM g y sa ta oa f gt od sv ik tp)) (vp_Si (fun r => ∃ z : Int, r = zI z ∧ z = zCC (zSsP w x) n n ∧ 0 ≤ z ∧ z ≤ 1640)) 0 0 (fun _ => False) := by
  refine Met.ofZ (cc := cX10_squares) (maxL := 6) (ret := (some .int)) (by decide) rfl (Nat.le_of_ble_eq_true rfl) ?_
  intro p e s m args below meth c ls hx hb hr hlocks S hin hK hpic hl
  have hown := S.2.2.2.1
  have hts := S.2.2.2.2
  have hl : lv_has ls 6 [(0, .ref y), (1, .int (zI b)), (2, .int (zI x))] := hl
  obtain ⟨F, G, O, hP, hF, hG, hO, hdis, hrg⟩ := id hpic
  have hn := hs.2.1
  refine zv_iconst hx hb dX10_squares_0 ?_
  refine lv_istore_n (lv' := [(3, .int (zI 0)), (0, .ref y), (1, .int (zI b)), (2, .int (zI x))]) hx hb dX10_squares_1 rfl hl (by decide) rfl (fun ls hl => ?_)
  refine zv_iconst hx hb dX10_squares_2 ?_
  refine lv_istore (lv' := [(4, .int (zI 0)), (3, .int (zI 0)), (0, .ref y), (1, .int (zI b)), (2, .int (zI x))]) hx hb dX10_squares_3 hl (by decide) rfl (fun ls hl => ?_)
  have lp5 : ∀ (z_f : Nat) (o : Int) (i : Int), (0 ≤ i ∧ i ≤ n ∧ 0 ≤ o ∧ o ≤ 40 * i) → (o = zCC (zSsP w x) n i) → ((n - i).toNat) < z_f → ∀ (ls : Array Slot), lv_has ls 6 [(0, .ref y), (1, .int (zI b)), (2, .int (zI x)), (3, .int (zI o)), (4, .int (zI i))] → W p l e (zRm 3 70) s m args below meth c s.heap [] 0 0 (MQ below (vp_Si (fun r => ∃ z : Int, r = zI z ∧ z = zCC (zSsP w x) n n ∧ 0 ≤ z ∧ z ≤ 1640)) args s 0 0 (fun _ => False)) (F0 m 5 ls []) := by
    intro z_f
    induction z_f with
    | zero => intro o i h0 h1 z_m; exact absurd z_m (Nat.not_lt_zero _)
    | succ z_f ih5 =>
      intro o i h0 h1 z_m5 ls hl
      refine lv_iload hx hb dX10_squares_5 (lv_at hl 4 rfl) ?_
      refine lv_aload_n hx hb dX10_squares_7 rfl (lv_at hl 0 rfl) ?_
      refine va_get (D := g.1) (ci := 5) (v := .ref sa) (C := RX10) (T := TX10) (N := 6) hx hb hts mX10_squares_0 hown hK hP 0 rfl rfl 0 (by decide) (hts _ mX10_squares_1) (fun _ h9 => h9) rfl dX10_squares_8 ?_
      refine lv_iload_n hx hb dX10_squares_11 rfl (lv_at hl 1 rfl) ?_
      refine va_iald (D := g.1) hx hb hK hP 1 0 rfl rfl (zI_in (by omega) (by decide)) dX10_squares_12 ?_
      rw [zI_cl (by omega)]
      rw [(hF b (by omega) (by omega)).1.trans (congrArg zI hs.1)]
      refine zv_icmp_ge (tgt := 82) hx hb dX10_squares_13 (by decide) (by omega) (by omega) (fun c13 => ?_) (fun c13 => ?_)
      · have e9 : o = zCC (zSsP w x) n n := by rw [h1, show i = n by omega]
        refine lv_iload_n hx hb dX10_squares_82 rfl (lv_at hl 3 rfl) ?_
        exact zr_i hx hb hr hlocks dX10_squares_83 (⟨_, rfl, e9, by omega, by omega⟩)
      · refine zv_iconst hx hb dX10_squares_16 ?_
        refine lv_istore (lv' := [(5, .int (zI 1)), (0, .ref y), (1, .int (zI b)), (2, .int (zI x)), (3, .int (zI o)), (4, .int (zI i))]) hx hb dX10_squares_17 hl (by decide) rfl (fun ls hl => ?_)
        have lp19 : ∀ (z_f : Nat) (o2 : Int) (d : Int), (1 ≤ d ∧ d ≤ (n - i) / 2 + 1 ∧ 0 ≤ o2 ∧ o2 ≤ 40 * i + d) → (o2 = zCC (zSsP w x) n i + zC ((zSsP w x) i) 1 d) → ((n + 1 - d).toNat) < z_f → ∀ (ls : Array Slot), lv_has ls 6 [(0, .ref y), (1, .int (zI b)), (2, .int (zI x)), (3, .int (zI o2)), (4, .int (zI i)), (5, .int (zI d))] → W p l e (zRm 3 70) s m args below meth c s.heap [] 0 0 (MQ below (vp_Si (fun r => ∃ z : Int, r = zI z ∧ z = zCC (zSsP w x) n n ∧ 0 ≤ z ∧ z ≤ 1640)) args s 0 0 (fun _ => False)) (F0 m 19 ls []) := by
          intro z_f
          induction z_f with
          | zero => intro o2 d k0 k1 z_m; exact absurd z_m (Nat.not_lt_zero _)
          | succ z_f ih19 =>
            intro o2 d k0 k1 z_m19 ls hl
            refine lv_iload hx hb dX10_squares_19 (lv_at hl 4 rfl) ?_
            refine zv_iconst hx hb dX10_squares_21 ?_
            refine lv_iload hx hb dX10_squares_22 (lv_at hl 5 rfl) ?_
            refine zv_imul hx hb dX10_squares_24 ?_
            refine zv_iadd hx hb dX10_squares_25 ?_
            refine lv_aload_n hx hb dX10_squares_26 rfl (lv_at hl 0 rfl) ?_
            refine va_get (D := g.1) (ci := 5) (v := .ref sa) (C := RX10) (T := TX10) (N := 6) hx hb hts mX10_squares_0 hown hK hP 0 rfl rfl 0 (by decide) (hts _ mX10_squares_1) (fun _ h9 => h9) rfl dX10_squares_27 ?_
            refine lv_iload_n hx hb dX10_squares_30 rfl (lv_at hl 1 rfl) ?_
            refine va_iald (D := g.1) hx hb hK hP 1 0 rfl rfl (zI_in (by omega) (by decide)) dX10_squares_31 ?_
            rw [zI_cl (by omega)]
            rw [(hF b (by omega) (by omega)).1.trans (congrArg zI hs.1)]
            refine zv_icmp_gt (tgt := 76) hx hb dX10_squares_32 (by decide) (by omega) (by omega) (fun c32 => ?_) (fun c32 => ?_)
            · refine zv_iinc (lv' := [(4, .int (zI (i + 1))), (0, .ref y), (1, .int (zI b)), (2, .int (zI x)), (3, .int (zI o2)), (5, .int (zI d))]) hx hb dX10_squares_76 hl (k := 4) rfl (by decide) rfl (fun ls hl => ?_)
              refine lv_goto (tgt := 5) hx hb dX10_squares_79 (by decide) ?_
              exact ih5 o2 (i + 1) ((by have q9 := zRow_bd (zSsP w x) (n := n) (i := i) (by omega); have q8 : zRow (zSsP w x) n i = zC ((zSsP w x) i) 1 ((n - i) / 2 + 1) := rfl; omega)) ((by rw [zCC_succ _ (by omega), k1, show d = (n - i) / 2 + 1 by omega]; rfl)) (by omega) _ (lv_sub hl [1, 2, 3, 4, 0] rfl)
            · refine lv_iload_n hx hb dX10_squares_35 rfl (lv_at hl 3 rfl) ?_
              refine lv_iload_n hx hb dX10_squares_36 rfl (lv_at hl 2 rfl) ?_
              refine zv_if_lt (tgt := 51) hx hb dX10_squares_37 (by decide) (by omega) (fun c37 => ?_) (fun c37 => ?_)
              · refine lv_aload_n hx hb dX10_squares_51 rfl (lv_at hl 0 rfl) ?_
                refine lv_iload_n hx hb dX10_squares_52 rfl (lv_at hl 1 rfl) ?_
                refine lv_iload hx hb dX10_squares_53 (lv_at hl 4 rfl) ?_
                refine lv_iload hx hb dX10_squares_55 (lv_at hl 5 rfl) ?_
                refine zc_V (As := [.int (zI b), .int (zI i), .int (zI d)]) (rest := [.int (zI o2)]) S hK (kX10_isSquare l g y sa ta oa f gt od sv ik tp b w n hb0 hs i d (by omega)) (cwV 3 hts gX10_squares_X10_isSquare rfl rfl rfl (by decide +kernel) ⟨Nat.le_of_ble_eq_true rfl, Nat.le_of_ble_eq_true rfl⟩) (hpic) (hpic.recv hK) rfl hl.1 rfl (Nat.le_of_ble_eq_true rfl) dX10_squares_57 ⟨Nat.zero_le _, Nat.zero_le _⟩ (fun r57 hr57 => ?_)
                obtain rfl := hr57
                refine zv_ifB_eq (tgt := 67) hx hb dX10_squares_60 (by decide) (fun c60 => ?_) (fun c60 => ?_)
                · refine zv_iconst hx hb dX10_squares_67 ?_
                  refine zv_iadd hx hb dX10_squares_68 ?_
                  refine lv_istore_n (lv' := [(3, .int (zI (o2 + 0))), (0, .ref y), (1, .int (zI b)), (2, .int (zI x)), (4, .int (zI i)), (5, .int (zI d))]) hx hb dX10_squares_69 rfl hl (by decide) rfl (fun ls hl => ?_)
                  refine zv_iinc (lv' := [(5, .int (zI (d + 1))), (3, .int (zI (o2 + 0))), (0, .ref y), (1, .int (zI b)), (2, .int (zI x)), (4, .int (zI i))]) hx hb dX10_squares_70 hl (k := 5) rfl (by decide) rfl (fun ls hl => ?_)
                  refine lv_goto (tgt := 19) hx hb dX10_squares_73 (by decide) ?_
                  exact ih19 (o2 + 0) (d + 1) (by omega) (by rw [zC_f (P := (zSsP w x) i) (b := d) (by omega) (fun q => by first | exact absurd q.1 (by omega) | exact c60 ⟨by omega, q.2⟩)]; omega) (by omega) _ (lv_sub hl [2, 3, 4, 1, 5, 0] rfl)
                · refine zv_iconst hx hb dX10_squares_63 ?_
                  refine lv_goto (tgt := 68) hx hb dX10_squares_64 (by decide) ?_
                  refine zv_iadd hx hb dX10_squares_68 ?_
                  refine lv_istore_n (lv' := [(3, .int (zI (o2 + 1))), (0, .ref y), (1, .int (zI b)), (2, .int (zI x)), (4, .int (zI i)), (5, .int (zI d))]) hx hb dX10_squares_69 rfl hl (by decide) rfl (fun ls hl => ?_)
                  refine zv_iinc (lv' := [(5, .int (zI (d + 1))), (3, .int (zI (o2 + 1))), (0, .ref y), (1, .int (zI b)), (2, .int (zI x)), (4, .int (zI i))]) hx hb dX10_squares_70 hl (k := 5) rfl (by decide) rfl (fun ls hl => ?_)
                  refine lv_goto (tgt := 19) hx hb dX10_squares_73 (by decide) ?_
                  exact ih19 (o2 + 1) (d + 1) (by omega) (by rw [zC_t (P := (zSsP w x) i) (b := d) (by omega) (⟨by omega, c60.2⟩)]; omega) (by omega) _ (lv_sub hl [2, 3, 4, 1, 5, 0] rfl)
              · refine lv_iload hx hb dX10_squares_40 (lv_at hl 4 rfl) ?_
                refine zv_iconst hx hb dX10_squares_42 ?_
                refine lv_iload hx hb dX10_squares_43 (lv_at hl 5 rfl) ?_
                refine zv_imul hx hb dX10_squares_45 ?_
                refine zv_iadd hx hb dX10_squares_46 ?_
                refine lv_iload_n hx hb dX10_squares_47 rfl (lv_at hl 2 rfl) ?_
                refine zv_icmp_ne (tgt := 67) hx hb dX10_squares_48 (by decide) (by omega) (by omega) (fun c48 => ?_) (fun c48 => ?_)
                · refine zv_iconst hx hb dX10_squares_67 ?_
                  refine zv_iadd hx hb dX10_squares_68 ?_
                  refine lv_istore_n (lv' := [(3, .int (zI (o2 + 0))), (0, .ref y), (1, .int (zI b)), (2, .int (zI x)), (4, .int (zI i)), (5, .int (zI d))]) hx hb dX10_squares_69 rfl hl (by decide) rfl (fun ls hl => ?_)
                  refine zv_iinc (lv' := [(5, .int (zI (d + 1))), (3, .int (zI (o2 + 0))), (0, .ref y), (1, .int (zI b)), (2, .int (zI x)), (4, .int (zI i))]) hx hb dX10_squares_70 hl (k := 5) rfl (by decide) rfl (fun ls hl => ?_)
                  refine lv_goto (tgt := 19) hx hb dX10_squares_73 (by decide) ?_
                  exact ih19 (o2 + 0) (d + 1) (by omega) (by rw [zC_f (P := (zSsP w x) i) (b := d) (by omega) (fun q => by first | exact absurd q.1 (by omega) | exact c60 ⟨by omega, q.2⟩)]; omega) (by omega) _ (lv_sub hl [2, 3, 4, 1, 5, 0] rfl)
                · refine lv_aload_n hx hb dX10_squares_51 rfl (lv_at hl 0 rfl) ?_
                  refine lv_iload_n hx hb dX10_squares_52 rfl (lv_at hl 1 rfl) ?_
                  refine lv_iload hx hb dX10_squares_53 (lv_at hl 4 rfl) ?_
                  refine lv_iload hx hb dX10_squares_55 (lv_at hl 5 rfl) ?_
                  refine zc_V (As := [.int (zI b), .int (zI i), .int (zI d)]) (rest := [.int (zI o2)]) S hK (kX10_isSquare l g y sa ta oa f gt od sv ik tp b w n hb0 hs i d (by omega)) (cwV 3 hts gX10_squares_X10_isSquare rfl rfl rfl (by decide +kernel) ⟨Nat.le_of_ble_eq_true rfl, Nat.le_of_ble_eq_true rfl⟩) (hpic) (hpic.recv hK) rfl hl.1 rfl (Nat.le_of_ble_eq_true rfl) dX10_squares_57 ⟨Nat.zero_le _, Nat.zero_le _⟩ (fun r57 hr57 => ?_)
                  obtain rfl := hr57
                  refine zv_ifB_eq (tgt := 67) hx hb dX10_squares_60 (by decide) (fun c60 => ?_) (fun c60 => ?_)
                  · refine zv_iconst hx hb dX10_squares_67 ?_
                    refine zv_iadd hx hb dX10_squares_68 ?_
                    refine lv_istore_n (lv' := [(3, .int (zI (o2 + 0))), (0, .ref y), (1, .int (zI b)), (2, .int (zI x)), (4, .int (zI i)), (5, .int (zI d))]) hx hb dX10_squares_69 rfl hl (by decide) rfl (fun ls hl => ?_)
                    refine zv_iinc (lv' := [(5, .int (zI (d + 1))), (3, .int (zI (o2 + 0))), (0, .ref y), (1, .int (zI b)), (2, .int (zI x)), (4, .int (zI i))]) hx hb dX10_squares_70 hl (k := 5) rfl (by decide) rfl (fun ls hl => ?_)
                    refine lv_goto (tgt := 19) hx hb dX10_squares_73 (by decide) ?_
                    exact ih19 (o2 + 0) (d + 1) (by omega) (by rw [zC_f (P := (zSsP w x) i) (b := d) (by omega) (fun q => by first | exact absurd q.1 (by omega) | exact c60 ⟨by omega, q.2⟩)]; omega) (by omega) _ (lv_sub hl [2, 3, 4, 1, 5, 0] rfl)
                  · refine zv_iconst hx hb dX10_squares_63 ?_
                    refine lv_goto (tgt := 68) hx hb dX10_squares_64 (by decide) ?_
                    refine zv_iadd hx hb dX10_squares_68 ?_
                    refine lv_istore_n (lv' := [(3, .int (zI (o2 + 1))), (0, .ref y), (1, .int (zI b)), (2, .int (zI x)), (4, .int (zI i)), (5, .int (zI d))]) hx hb dX10_squares_69 rfl hl (by decide) rfl (fun ls hl => ?_)
                    refine zv_iinc (lv' := [(5, .int (zI (d + 1))), (3, .int (zI (o2 + 1))), (0, .ref y), (1, .int (zI b)), (2, .int (zI x)), (4, .int (zI i))]) hx hb dX10_squares_70 hl (k := 5) rfl (by decide) rfl (fun ls hl => ?_)
                    refine lv_goto (tgt := 19) hx hb dX10_squares_73 (by decide) ?_
                    exact ih19 (o2 + 1) (d + 1) (by omega) (by rw [zC_t (P := (zSsP w x) i) (b := d) (by omega) (⟨by omega, c60.2⟩)]; omega) (by omega) _ (lv_sub hl [2, 3, 4, 1, 5, 0] rfl)
        exact lp19 _ o 1 (by omega) (by rw [zC_nil _ (by omega)]; omega) (Nat.lt_succ_self _) _ (lv_sub hl [1, 2, 3, 4, 5, 0] rfl)
  exact lp5 _ 0 0 (by omega) ((zCC_0 _ n).symm) (Nat.lt_succ_self _) _ (lv_sub hl [2, 3, 4, 1, 0] rfl)

theorem mX10_unlikeSquares_0 : ∀ w ∈ wsX100, w ∈ wsX10_unlikeSquares := by decide +kernel
theorem mX10_unlikeSquares_1 : (Cond.fieldLink RX10 7 "BorderRunsModel" "s" "[I") ∈ wsX10_unlikeSquares := by decide +kernel
set_option maxHeartbeats 4000000 in
set_option maxRecDepth 100000 in
/-- X10_unlikeSquares -/
theorem kX10_unlikeSquares (l : Launch) (g : zG) (y sa ta oa : Nat) (f gt od : Int → Int) (sv ik tp : Int) (w : Int → Int) (n : Int) (hs : SL f 0 w n)  : Met l yX10_unlikeSquares wsX10_unlikeSquares (zRm 3 71) (zP g [.ref y] (RM g y sa ta oa f gt od sv ik tp)) (vp_Si (fun r => ∃ z : Int, r = zI z ∧ z = zCC (zUsP w) n n ∧ 0 ≤ z ∧ z ≤ 1640)) 0 0 (fun _ => False) := by
  refine Met.ofZ (cc := cX10_unlikeSquares) (maxL := 4) (ret := (some .int)) (by decide) rfl (Nat.le_of_ble_eq_true rfl) ?_
  intro p e s m args below meth c ls hx hb hr hlocks S hin hK hpic hl
  have hown := S.2.2.2.1
  have hts := S.2.2.2.2
  have hl : lv_has ls 4 [(0, .ref y)] := hl
  obtain ⟨F, G, O, hP, hF, hG, hO, hdis, hrg⟩ := id hpic
  have hn := hs.2.1
  refine zv_iconst hx hb dX10_unlikeSquares_0 ?_
  refine lv_istore_n (lv' := [(1, .int (zI 0)), (0, .ref y)]) hx hb dX10_unlikeSquares_1 rfl hl (by decide) rfl (fun ls hl => ?_)
  refine zv_iconst hx hb dX10_unlikeSquares_2 ?_
  refine lv_istore_n (lv' := [(2, .int (zI 0)), (1, .int (zI 0)), (0, .ref y)]) hx hb dX10_unlikeSquares_3 rfl hl (by decide) rfl (fun ls hl => ?_)
  have lp4 : ∀ (z_f : Nat) (o : Int) (i : Int), (0 ≤ i ∧ i ≤ n ∧ 0 ≤ o ∧ o ≤ 40 * i) → (o = zCC (zUsP w) n i) → ((n - i).toNat) < z_f → ∀ (ls : Array Slot), lv_has ls 4 [(0, .ref y), (1, .int (zI o)), (2, .int (zI i))] → W p l e (zRm 3 71) s m args below meth c s.heap [] 0 0 (MQ below (vp_Si (fun r => ∃ z : Int, r = zI z ∧ z = zCC (zUsP w) n n ∧ 0 ≤ z ∧ z ≤ 1640)) args s 0 0 (fun _ => False)) (F0 m 4 ls []) := by
    intro z_f
    induction z_f with
    | zero => intro o i h0 h1 z_m; exact absurd z_m (Nat.not_lt_zero _)
    | succ z_f ih4 =>
      intro o i h0 h1 z_m4 ls hl
      refine lv_iload_n hx hb dX10_unlikeSquares_4 rfl (lv_at hl 2 rfl) ?_
      refine lv_aload_n hx hb dX10_unlikeSquares_5 rfl (lv_at hl 0 rfl) ?_
      refine va_get (D := g.1) (ci := 5) (v := .ref sa) (C := RX10) (T := TX10) (N := 6) hx hb hts mX10_unlikeSquares_0 hown hK hP 0 rfl rfl 0 (by decide) (hts _ mX10_unlikeSquares_1) (fun _ h9 => h9) rfl dX10_unlikeSquares_6 ?_
      refine zv_iconst hx hb dX10_unlikeSquares_9 ?_
      refine va_iald (D := g.1) hx hb hK hP 1 0 rfl rfl (zI_in (by omega) (by decide)) dX10_unlikeSquares_10 ?_
      rw [zI_cl (by omega)]
      rw [(hF 0 (by omega) (by omega)).1.trans (congrArg zI hs.1)]
      refine zv_icmp_ge (tgt := 74) hx hb dX10_unlikeSquares_11 (by decide) (by omega) (by omega) (fun c11 => ?_) (fun c11 => ?_)
      · have e9 : o = zCC (zUsP w) n n := by rw [h1, show i = n by omega]
        refine lv_iload_n hx hb dX10_unlikeSquares_74 rfl (lv_at hl 1 rfl) ?_
        exact zr_i hx hb hr hlocks dX10_unlikeSquares_75 (⟨_, rfl, e9, by omega, by omega⟩)
      · refine zv_iconst hx hb dX10_unlikeSquares_14 ?_
        refine lv_istore_n (lv' := [(3, .int (zI 1)), (0, .ref y), (1, .int (zI o)), (2, .int (zI i))]) hx hb dX10_unlikeSquares_15 rfl hl (by decide) rfl (fun ls hl => ?_)
        have lp16 : ∀ (z_f : Nat) (o2 : Int) (d : Int), (1 ≤ d ∧ d ≤ (n - i) / 2 + 1 ∧ 0 ≤ o2 ∧ o2 ≤ 40 * i + d) → (o2 = zCC (zUsP w) n i + zC ((zUsP w) i) 1 d) → ((n + 1 - d).toNat) < z_f → ∀ (ls : Array Slot), lv_has ls 4 [(0, .ref y), (1, .int (zI o2)), (2, .int (zI i)), (3, .int (zI d))] → W p l e (zRm 3 71) s m args below meth c s.heap [] 0 0 (MQ below (vp_Si (fun r => ∃ z : Int, r = zI z ∧ z = zCC (zUsP w) n n ∧ 0 ≤ z ∧ z ≤ 1640)) args s 0 0 (fun _ => False)) (F0 m 16 ls []) := by
          intro z_f
          induction z_f with
          | zero => intro o2 d k0 k1 z_m; exact absurd z_m (Nat.not_lt_zero _)
          | succ z_f ih16 =>
            intro o2 d k0 k1 z_m16 ls hl
            refine lv_iload_n hx hb dX10_unlikeSquares_16 rfl (lv_at hl 2 rfl) ?_
            refine zv_iconst hx hb dX10_unlikeSquares_17 ?_
            refine lv_iload_n hx hb dX10_unlikeSquares_18 rfl (lv_at hl 3 rfl) ?_
            refine zv_imul hx hb dX10_unlikeSquares_19 ?_
            refine zv_iadd hx hb dX10_unlikeSquares_20 ?_
            refine lv_aload_n hx hb dX10_unlikeSquares_21 rfl (lv_at hl 0 rfl) ?_
            refine va_get (D := g.1) (ci := 5) (v := .ref sa) (C := RX10) (T := TX10) (N := 6) hx hb hts mX10_unlikeSquares_0 hown hK hP 0 rfl rfl 0 (by decide) (hts _ mX10_unlikeSquares_1) (fun _ h9 => h9) rfl dX10_unlikeSquares_22 ?_
            refine zv_iconst hx hb dX10_unlikeSquares_25 ?_
            refine va_iald (D := g.1) hx hb hK hP 1 0 rfl rfl (zI_in (by omega) (by decide)) dX10_unlikeSquares_26 ?_
            rw [zI_cl (by omega)]
            rw [(hF 0 (by omega) (by omega)).1.trans (congrArg zI hs.1)]
            refine zv_icmp_gt (tgt := 68) hx hb dX10_unlikeSquares_27 (by decide) (by omega) (by omega) (fun c27 => ?_) (fun c27 => ?_)
            · refine zv_iinc (lv' := [(2, .int (zI (i + 1))), (0, .ref y), (1, .int (zI o2)), (3, .int (zI d))]) hx hb dX10_unlikeSquares_68 hl (k := 2) rfl (by decide) rfl (fun ls hl => ?_)
              refine lv_goto (tgt := 4) hx hb dX10_unlikeSquares_71 (by decide) ?_
              exact ih4 o2 (i + 1) ((by have q9 := zRow_bd (zUsP w) (n := n) (i := i) (by omega); have q8 : zRow (zUsP w) n i = zC ((zUsP w) i) 1 ((n - i) / 2 + 1) := rfl; omega)) ((by rw [zCC_succ _ (by omega), k1, show d = (n - i) / 2 + 1 by omega]; rfl)) (by omega) _ (lv_sub hl [1, 2, 0] rfl)
            · refine lv_iload_n hx hb dX10_unlikeSquares_30 rfl (lv_at hl 1 rfl) ?_
              refine lv_aload_n hx hb dX10_unlikeSquares_31 rfl (lv_at hl 0 rfl) ?_
              refine zv_iconst hx hb dX10_unlikeSquares_32 ?_
              refine lv_iload_n hx hb dX10_unlikeSquares_33 rfl (lv_at hl 2 rfl) ?_
              refine lv_iload_n hx hb dX10_unlikeSquares_34 rfl (lv_at hl 3 rfl) ?_
              refine zc_V (As := [.int (zI 0), .int (zI i), .int (zI d)]) (rest := [.int (zI o2)]) S hK (kX10_isSquare l g y sa ta oa f gt od sv ik tp 0 w n (by omega) hs i d (by omega)) (cwV 3 hts gX10_unlikeSquares_X10_isSquare rfl rfl rfl (by decide +kernel) ⟨Nat.le_of_ble_eq_true rfl, Nat.le_of_ble_eq_true rfl⟩) (hpic) (hpic.recv hK) rfl hl.1 rfl (Nat.le_of_ble_eq_true rfl) dX10_unlikeSquares_35 ⟨Nat.zero_le _, Nat.zero_le _⟩ (fun r35 hr35 => ?_)
              obtain rfl := hr35
              refine zv_ifB_eq (tgt := 59) hx hb dX10_unlikeSquares_38 (by decide) (fun c38 => ?_) (fun c38 => ?_)
              · refine zv_iconst hx hb dX10_unlikeSquares_59 ?_
                refine zv_iadd hx hb dX10_unlikeSquares_60 ?_
                refine lv_istore_n (lv' := [(1, .int (zI (o2 + 0))), (0, .ref y), (2, .int (zI i)), (3, .int (zI d))]) hx hb dX10_unlikeSquares_61 rfl hl (by decide) rfl (fun ls hl => ?_)
                refine zv_iinc (lv' := [(3, .int (zI (d + 1))), (1, .int (zI (o2 + 0))), (0, .ref y), (2, .int (zI i))]) hx hb dX10_unlikeSquares_62 hl (k := 3) rfl (by decide) rfl (fun ls hl => ?_)
                refine lv_goto (tgt := 16) hx hb dX10_unlikeSquares_65 (by decide) ?_
                exact ih16 (o2 + 0) (d + 1) (by omega) (by rw [zC_f (P := (zUsP w) i) (b := d) (by omega) (fun q => by first | exact c38 ⟨by omega, q.1⟩ | exact c52 (by rw [show i + 2 * d - i = 2 * d by omega]; exact q.2))]; omega) (by omega) _ (lv_sub hl [2, 1, 3, 0] rfl)
              · refine lv_aload_n hx hb dX10_unlikeSquares_41 rfl (lv_at hl 0 rfl) ?_
                refine zv_iconst hx hb dX10_unlikeSquares_42 ?_
                refine lv_iload_n hx hb dX10_unlikeSquares_43 rfl (lv_at hl 2 rfl) ?_
                refine lv_iload_n hx hb dX10_unlikeSquares_44 rfl (lv_at hl 2 rfl) ?_
                refine zv_iconst hx hb dX10_unlikeSquares_45 ?_
                refine lv_iload_n hx hb dX10_unlikeSquares_46 rfl (lv_at hl 3 rfl) ?_
                refine zv_imul hx hb dX10_unlikeSquares_47 ?_
                refine zv_iadd hx hb dX10_unlikeSquares_48 ?_
                refine zc_V (As := [.int (zI 0), .int (zI i), .int (zI (i + (2 * d)))]) (rest := [.int (zI o2)]) S hK (kX10_isFirst l g y sa ta oa f gt od sv ik tp 0 w n (by omega) hs i (i + (2 * d)) (by omega)) (cwV 3 hts gX10_unlikeSquares_X10_isFirst rfl rfl rfl (by decide +kernel) ⟨Nat.le_of_ble_eq_true rfl, Nat.le_of_ble_eq_true rfl⟩) (hpic) (hpic.recv hK) rfl hl.1 rfl (Nat.le_of_ble_eq_true rfl) dX10_unlikeSquares_49 ⟨Nat.zero_le _, Nat.zero_le _⟩ (fun r49 hr49 => ?_)
                obtain rfl := hr49
                refine zv_ifB_eq (tgt := 59) hx hb dX10_unlikeSquares_52 (by decide) (fun c52 => ?_) (fun c52 => ?_)
                · refine zv_iconst hx hb dX10_unlikeSquares_59 ?_
                  refine zv_iadd hx hb dX10_unlikeSquares_60 ?_
                  refine lv_istore_n (lv' := [(1, .int (zI (o2 + 0))), (0, .ref y), (2, .int (zI i)), (3, .int (zI d))]) hx hb dX10_unlikeSquares_61 rfl hl (by decide) rfl (fun ls hl => ?_)
                  refine zv_iinc (lv' := [(3, .int (zI (d + 1))), (1, .int (zI (o2 + 0))), (0, .ref y), (2, .int (zI i))]) hx hb dX10_unlikeSquares_62 hl (k := 3) rfl (by decide) rfl (fun ls hl => ?_)
                  refine lv_goto (tgt := 16) hx hb dX10_unlikeSquares_65 (by decide) ?_
                  exact ih16 (o2 + 0) (d + 1) (by omega) (by rw [zC_f (P := (zUsP w) i) (b := d) (by omega) (fun q => by first | exact c38 ⟨by omega, q.1⟩ | exact c52 (by rw [show i + 2 * d - i = 2 * d by omega]; exact q.2))]; omega) (by omega) _ (lv_sub hl [2, 1, 3, 0] rfl)
                · refine zv_iconst hx hb dX10_unlikeSquares_55 ?_
                  refine lv_goto (tgt := 60) hx hb dX10_unlikeSquares_56 (by decide) ?_
                  refine zv_iadd hx hb dX10_unlikeSquares_60 ?_
                  refine lv_istore_n (lv' := [(1, .int (zI (o2 + 1))), (0, .ref y), (2, .int (zI i)), (3, .int (zI d))]) hx hb dX10_unlikeSquares_61 rfl hl (by decide) rfl (fun ls hl => ?_)
                  refine zv_iinc (lv' := [(3, .int (zI (d + 1))), (1, .int (zI (o2 + 1))), (0, .ref y), (2, .int (zI i))]) hx hb dX10_unlikeSquares_62 hl (k := 3) rfl (by decide) rfl (fun ls hl => ?_)
                  refine lv_goto (tgt := 16) hx hb dX10_unlikeSquares_65 (by decide) ?_
                  exact ih16 (o2 + 1) (d + 1) (by omega) (by rw [zC_t (P := (zUsP w) i) (b := d) (by omega) (⟨c38.2, by rw [show 2 * d = i + 2 * d - i by omega]; exact c52⟩)]; omega) (by omega) _ (lv_sub hl [2, 1, 3, 0] rfl)
        exact lp16 _ o 1 (by omega) (by rw [zC_nil _ (by omega)]; omega) (Nat.lt_succ_self _) _ (lv_sub hl [1, 2, 3, 0] rfl)
  exact lp4 _ 0 0 (by omega) ((zCC_0 _ n).symm) (Nat.lt_succ_self _) _ (lv_sub hl [2, 1, 0] rfl)

theorem mX10_runEnd_0 : ∀ w ∈ wsX100, w ∈ wsX10_runEnd := by decide +kernel
theorem mX10_runEnd_1 : (Cond.fieldLink RX10 7 "BorderRunsModel" "s" "[I") ∈ wsX10_runEnd := by decide +kernel
set_option maxHeartbeats 4000000 in
set_option maxRecDepth 100000 in
/-- X10_runEnd -/
theorem kX10_runEnd (l : Launch) (g : zG) (y sa ta oa : Nat) (f gt od : Int → Int) (sv ik tp : Int) (b : Int) (w : Int → Int) (n : Int) (hb0 : 0 ≤ b ∧ b ≤ 246) (hs : SL f b w n) (i d : Int) (hi : 0 ≤ i ∧ 1 ≤ d ∧ i + 2 * d ≤ n) : Met l yX10_runEnd wsX10_runEnd (zRm 4 95) (zP g [.ref y, .int (zI b), .int (zI i), .int (zI d)] (RM g y sa ta oa f gt od sv ik tp)) (vp_Si (fun r => ∃ z : Int, r = zI z ∧ ((zRun w n i d ∧ z = zRT w n i d ∧ i + 2 * d ≤ z ∧ z ≤ n) ∨ (¬ zRun w n i d ∧ z = 0)))) 0 0 (fun _ => False) := by
  refine Met.ofZ (cc := cX10_runEnd) (maxL := 5) (ret := (some .int)) (by decide) rfl (Nat.le_of_ble_eq_true rfl) ?_
  intro p e s m args below meth c ls hx hb hr hlocks S hin hK hpic hl
  have hown := S.2.2.2.1
  have hts := S.2.2.2.2
  have hl : lv_has ls 5 [(0, .ref y), (1, .int (zI b)), (2, .int (zI i)), (3, .int (zI d))] := hl
  obtain ⟨F, G, O, hP, hF, hG, hO, hdis, hrg⟩ := id hpic
  have hn := hs.2.1
  refine lv_iload_n hx hb dX10_runEnd_0 rfl (lv_at hl 2 rfl) ?_
  refine zv_if_le (tgt := 41) hx hb dX10_runEnd_1 (by decide) (by omega) (fun c1 => ?_) (fun c1 => ?_)
  · have q1 : ¬ (0 < i ∧ w (i - 1) = w (i - 1 + d)) := fun q => by omega
    refine lv_iload_n hx hb dX10_runEnd_41 rfl (lv_at hl 2 rfl) ?_
    refine lv_iload_n hx hb dX10_runEnd_42 rfl (lv_at hl 3 rfl) ?_
    refine zv_iadd hx hb dX10_runEnd_43 ?_
    refine lv_istore (lv' := [(4, .int (zI (i + d))), (0, .ref y), (1, .int (zI b)), (2, .int (zI i)), (3, .int (zI d))]) hx hb dX10_runEnd_44 hl (by decide) rfl (fun ls hl => ?_)
    have lp46 : ∀ (z_f : Nat) (k : Int), (i + d ≤ k ∧ k ≤ n) → (∀ q, i + d ≤ q → q < k → w q = w (q - d)) → ((n - k).toNat) < z_f → ∀ (ls : Array Slot), lv_has ls 5 [(0, .ref y), (1, .int (zI b)), (2, .int (zI i)), (3, .int (zI d)), (4, .int (zI k))] → W p l e (zRm 4 95) s m args below meth c s.heap [] 0 0 (MQ below (vp_Si (fun r => ∃ z : Int, r = zI z ∧ ((zRun w n i d ∧ z = zRT w n i d ∧ i + 2 * d ≤ z ∧ z ≤ n) ∨ (¬ zRun w n i d ∧ z = 0)))) args s 0 0 (fun _ => False)) (F0 m 46 ls []) := by
      intro z_f
      induction z_f with
      | zero => intro k h0 h1 z_m; exact absurd z_m (Nat.not_lt_zero _)
      | succ z_f ih46 =>
        intro k h0 h1 z_m46 ls hl
        refine lv_iload hx hb dX10_runEnd_46 (lv_at hl 4 rfl) ?_
        refine lv_aload_n hx hb dX10_runEnd_48 rfl (lv_at hl 0 rfl) ?_
        refine va_get (D := g.1) (ci := 5) (v := .ref sa) (C := RX10) (T := TX10) (N := 6) hx hb hts mX10_runEnd_0 hown hK hP 0 rfl rfl 0 (by decide) (hts _ mX10_runEnd_1) (fun _ h9 => h9) rfl dX10_runEnd_49 ?_
        refine lv_iload_n hx hb dX10_runEnd_52 rfl (lv_at hl 1 rfl) ?_
        refine va_iald (D := g.1) hx hb hK hP 1 0 rfl rfl (zI_in (by omega) (by decide)) dX10_runEnd_53 ?_
        rw [zI_cl (by omega)]
        rw [(hF b (by omega) (by omega)).1.trans (congrArg zI hs.1)]
        refine zv_icmp_ge (tgt := 82) hx hb dX10_runEnd_54 (by decide) (by omega) (by omega) (fun c54 => ?_) (fun c54 => ?_)
        · have e7 : zAF w n i (i + d) = k - (i + d) := zAF_un (by omega) (by omega) (by omega) (fun q h1q h2q => by have := h1 (i + d + q) (by omega) (by omega); rw [show i + d + q - d = i + q by omega] at this; exact this.symm) (fun _ q => by omega)
          have e8 : k = zRT w n i d := by unfold zRT; omega
          refine lv_iload hx hb dX10_runEnd_82 (lv_at hl 4 rfl) ?_
          refine lv_aload_n hx hb dX10_runEnd_84 rfl (lv_at hl 0 rfl) ?_
          refine va_get (D := g.1) (ci := 5) (v := .ref sa) (C := RX10) (T := TX10) (N := 6) hx hb hts mX10_runEnd_0 hown hK hP 0 rfl rfl 0 (by decide) (hts _ mX10_runEnd_1) (fun _ h9 => h9) rfl dX10_runEnd_85 ?_
          refine lv_iload_n hx hb dX10_runEnd_88 rfl (lv_at hl 1 rfl) ?_
          refine va_iald (D := g.1) hx hb hK hP 1 0 rfl rfl (zI_in (by omega) (by decide)) dX10_runEnd_89 ?_
          rw [zI_cl (by omega)]
          rw [(hF b (by omega) (by omega)).1.trans (congrArg zI hs.1)]
          refine zv_icmp_gt (tgt := 120) hx hb dX10_runEnd_90 (by decide) (by omega) (by omega) (fun c90 => ?_) (fun c90 => ?_)
          · exfalso; omega
          · refine lv_iload hx hb dX10_runEnd_93 (lv_at hl 4 rfl) ?_
            refine lv_iload_n hx hb dX10_runEnd_95 rfl (lv_at hl 2 rfl) ?_
            refine zv_iconst hx hb dX10_runEnd_96 ?_
            refine lv_iload_n hx hb dX10_runEnd_97 rfl (lv_at hl 3 rfl) ?_
            refine zv_imul hx hb dX10_runEnd_98 ?_
            refine zv_iadd hx hb dX10_runEnd_99 ?_
            refine zv_icmp_lt (tgt := 120) hx hb dX10_runEnd_100 (by decide) (by omega) (by omega) (fun c100 => ?_) (fun c100 => ?_)
            · have e9 : ¬ zRun w n i d := fun q => by have := q.2.1; omega
              refine zv_iconst hx hb dX10_runEnd_120 ?_
              exact zr_i hx hb hr hlocks dX10_runEnd_121 (⟨_, rfl, Or.inr ⟨e9, rfl⟩⟩)
            · refine lv_aload_n hx hb dX10_runEnd_103 rfl (lv_at hl 0 rfl) ?_
              refine lv_iload_n hx hb dX10_runEnd_104 rfl (lv_at hl 1 rfl) ?_
              refine lv_iload_n hx hb dX10_runEnd_105 rfl (lv_at hl 2 rfl) ?_
              refine lv_iload hx hb dX10_runEnd_106 (lv_at hl 4 rfl) ?_
              refine zc_V (As := [.int (zI b), .int (zI i), .int (zI k)]) (rest := []) S hK (kX10_period l g y sa ta oa f gt od sv ik tp b w n hb0 hs i k (by omega)) (cwV 3 hts gX10_runEnd_X10_period rfl rfl rfl (by decide +kernel) ⟨Nat.le_of_ble_eq_true rfl, Nat.le_of_ble_eq_true rfl⟩) (hpic) (hpic.recv hK) rfl hl.1 rfl (Nat.le_of_ble_eq_true rfl) dX10_runEnd_108 ⟨Nat.zero_le _, Nat.zero_le _⟩ (fun r108 hr108 => ?_)
              obtain ⟨z108, rfl, hz108⟩ := hr108
              refine lv_iload_n hx hb dX10_runEnd_111 rfl (lv_at hl 3 rfl) ?_
              refine zv_icmp_ne (tgt := 120) hx hb dX10_runEnd_112 (by decide) (by omega) (by omega) (fun c112 => ?_) (fun c112 => ?_)
              · have e9 : ¬ zRun w n i d := fun q => by have := q.2.2; rw [← e8] at this; omega
                refine zv_iconst hx hb dX10_runEnd_120 ?_
                exact zr_i hx hb hr hlocks dX10_runEnd_121 (⟨_, rfl, Or.inr ⟨e9, rfl⟩⟩)
              · have e9 : zRun w n i d := ⟨q1, by omega, by rw [← e8]; omega⟩
                refine lv_iload hx hb dX10_runEnd_115 (lv_at hl 4 rfl) ?_
                refine lv_goto (tgt := 121) hx hb dX10_runEnd_117 (by decide) ?_
                exact zr_i hx hb hr hlocks dX10_runEnd_121 (⟨_, rfl, Or.inl ⟨e9, e8, by omega, by omega⟩⟩)
        · refine lv_aload_n hx hb dX10_runEnd_57 rfl (lv_at hl 0 rfl) ?_
          refine lv_iload_n hx hb dX10_runEnd_58 rfl (lv_at hl 1 rfl) ?_
          refine lv_iload hx hb dX10_runEnd_59 (lv_at hl 4 rfl) ?_
          refine zc_V (As := [.int (zI b), .int (zI k)]) (rest := []) S hK (kX10_letAt l g y sa ta oa f gt od sv ik tp b w n hb0 hs k (by omega)) (cwV 2 hts gX10_runEnd_X10_letAt rfl rfl rfl (by decide +kernel) ⟨Nat.le_of_ble_eq_true rfl, Nat.le_of_ble_eq_true rfl⟩) (hpic) (hpic.recv hK) rfl hl.1 rfl (Nat.le_of_ble_eq_true rfl) dX10_runEnd_61 ⟨Nat.zero_le _, Nat.zero_le _⟩ (fun r61 hr61 => ?_)
          obtain ⟨z61, rfl, hz61⟩ := hr61
          refine lv_aload_n hx hb dX10_runEnd_64 rfl (lv_at hl 0 rfl) ?_
          refine lv_iload_n hx hb dX10_runEnd_65 rfl (lv_at hl 1 rfl) ?_
          refine lv_iload hx hb dX10_runEnd_66 (lv_at hl 4 rfl) ?_
          refine lv_iload_n hx hb dX10_runEnd_68 rfl (lv_at hl 3 rfl) ?_
          refine zv_isub hx hb dX10_runEnd_69 ?_
          refine zc_V (As := [.int (zI b), .int (zI (k - d))]) (rest := [.int (zI z61)]) S hK (kX10_letAt l g y sa ta oa f gt od sv ik tp b w n hb0 hs (k - d) (by omega)) (cwV 2 hts gX10_runEnd_X10_letAt rfl rfl rfl (by decide +kernel) ⟨Nat.le_of_ble_eq_true rfl, Nat.le_of_ble_eq_true rfl⟩) (hpic) (hpic.recv hK) rfl hl.1 rfl (Nat.le_of_ble_eq_true rfl) dX10_runEnd_70 ⟨Nat.zero_le _, Nat.zero_le _⟩ (fun r70 hr70 => ?_)
          obtain ⟨z70, rfl, hz70⟩ := hr70
          refine zv_icmp_ne (tgt := 82) hx hb dX10_runEnd_73 (by decide) (by omega) (by omega) (fun c73 => ?_) (fun c73 => ?_)
          · have e7 : zAF w n i (i + d) = k - (i + d) := zAF_un (by omega) (by omega) (by omega) (fun q h1q h2q => by have := h1 (i + d + q) (by omega) (by omega); rw [show i + d + q - d = i + q by omega] at this; exact this.symm) (fun _ _ => by rw [show i + (k - (i + d)) = k - d by omega, show i + d + (k - (i + d)) = k by omega]; omega)
            have e8 : k = zRT w n i d := by unfold zRT; omega
            refine lv_iload hx hb dX10_runEnd_82 (lv_at hl 4 rfl) ?_
            refine lv_aload_n hx hb dX10_runEnd_84 rfl (lv_at hl 0 rfl) ?_
            refine va_get (D := g.1) (ci := 5) (v := .ref sa) (C := RX10) (T := TX10) (N := 6) hx hb hts mX10_runEnd_0 hown hK hP 0 rfl rfl 0 (by decide) (hts _ mX10_runEnd_1) (fun _ h9 => h9) rfl dX10_runEnd_85 ?_
            refine lv_iload_n hx hb dX10_runEnd_88 rfl (lv_at hl 1 rfl) ?_
            refine va_iald (D := g.1) hx hb hK hP 1 0 rfl rfl (zI_in (by omega) (by decide)) dX10_runEnd_89 ?_
            rw [zI_cl (by omega)]
            rw [(hF b (by omega) (by omega)).1.trans (congrArg zI hs.1)]
            refine zv_icmp_gt (tgt := 120) hx hb dX10_runEnd_90 (by decide) (by omega) (by omega) (fun c90 => ?_) (fun c90 => ?_)
            · exfalso; omega
            · refine lv_iload hx hb dX10_runEnd_93 (lv_at hl 4 rfl) ?_
              refine lv_iload_n hx hb dX10_runEnd_95 rfl (lv_at hl 2 rfl) ?_
              refine zv_iconst hx hb dX10_runEnd_96 ?_
              refine lv_iload_n hx hb dX10_runEnd_97 rfl (lv_at hl 3 rfl) ?_
              refine zv_imul hx hb dX10_runEnd_98 ?_
              refine zv_iadd hx hb dX10_runEnd_99 ?_
              refine zv_icmp_lt (tgt := 120) hx hb dX10_runEnd_100 (by decide) (by omega) (by omega) (fun c100 => ?_) (fun c100 => ?_)
              · have e9 : ¬ zRun w n i d := fun q => by have := q.2.1; omega
                refine zv_iconst hx hb dX10_runEnd_120 ?_
                exact zr_i hx hb hr hlocks dX10_runEnd_121 (⟨_, rfl, Or.inr ⟨e9, rfl⟩⟩)
              · refine lv_aload_n hx hb dX10_runEnd_103 rfl (lv_at hl 0 rfl) ?_
                refine lv_iload_n hx hb dX10_runEnd_104 rfl (lv_at hl 1 rfl) ?_
                refine lv_iload_n hx hb dX10_runEnd_105 rfl (lv_at hl 2 rfl) ?_
                refine lv_iload hx hb dX10_runEnd_106 (lv_at hl 4 rfl) ?_
                refine zc_V (As := [.int (zI b), .int (zI i), .int (zI k)]) (rest := []) S hK (kX10_period l g y sa ta oa f gt od sv ik tp b w n hb0 hs i k (by omega)) (cwV 3 hts gX10_runEnd_X10_period rfl rfl rfl (by decide +kernel) ⟨Nat.le_of_ble_eq_true rfl, Nat.le_of_ble_eq_true rfl⟩) (hpic) (hpic.recv hK) rfl hl.1 rfl (Nat.le_of_ble_eq_true rfl) dX10_runEnd_108 ⟨Nat.zero_le _, Nat.zero_le _⟩ (fun r108 hr108 => ?_)
                obtain ⟨z108, rfl, hz108⟩ := hr108
                refine lv_iload_n hx hb dX10_runEnd_111 rfl (lv_at hl 3 rfl) ?_
                refine zv_icmp_ne (tgt := 120) hx hb dX10_runEnd_112 (by decide) (by omega) (by omega) (fun c112 => ?_) (fun c112 => ?_)
                · have e9 : ¬ zRun w n i d := fun q => by have := q.2.2; rw [← e8] at this; omega
                  refine zv_iconst hx hb dX10_runEnd_120 ?_
                  exact zr_i hx hb hr hlocks dX10_runEnd_121 (⟨_, rfl, Or.inr ⟨e9, rfl⟩⟩)
                · have e9 : zRun w n i d := ⟨q1, by omega, by rw [← e8]; omega⟩
                  refine lv_iload hx hb dX10_runEnd_115 (lv_at hl 4 rfl) ?_
                  refine lv_goto (tgt := 121) hx hb dX10_runEnd_117 (by decide) ?_
                  exact zr_i hx hb hr hlocks dX10_runEnd_121 (⟨_, rfl, Or.inl ⟨e9, e8, by omega, by omega⟩⟩)
          · refine zv_iinc (lv' := [(4, .int (zI (k + 1))), (0, .ref y), (1, .int (zI b)), (2, .int (zI i)), (3, .int (zI d))]) hx hb dX10_runEnd_76 hl (k := 4) rfl (by decide) rfl (fun ls hl => ?_)
            refine lv_goto (tgt := 46) hx hb dX10_runEnd_79 (by decide) ?_
            exact ih46 (k + 1) (by omega) (fun q h1q h2q => (show q < k ∨ q = k by omega).elim (fun h8 => h1 q h1q h8) (fun h8 => by subst h8; omega)) (by omega) _ (lv_sub hl [1, 2, 3, 4, 0] rfl)
    exact lp46 _ (i + d) (by omega) (fun q h1q h2q => absurd h2q (by omega)) (Nat.lt_succ_self _) _ (lv_sub hl [1, 2, 3, 4, 0] rfl)
  · refine lv_iload_n hx hb dX10_runEnd_4 rfl (lv_at hl 2 rfl) ?_
    refine zv_iconst hx hb dX10_runEnd_5 ?_
    refine zv_isub hx hb dX10_runEnd_6 ?_
    refine lv_iload_n hx hb dX10_runEnd_7 rfl (lv_at hl 3 rfl) ?_
    refine zv_iadd hx hb dX10_runEnd_8 ?_
    refine lv_aload_n hx hb dX10_runEnd_9 rfl (lv_at hl 0 rfl) ?_
    refine va_get (D := g.1) (ci := 5) (v := .ref sa) (C := RX10) (T := TX10) (N := 6) hx hb hts mX10_runEnd_0 hown hK hP 0 rfl rfl 0 (by decide) (hts _ mX10_runEnd_1) (fun _ h9 => h9) rfl dX10_runEnd_10 ?_
    refine lv_iload_n hx hb dX10_runEnd_13 rfl (lv_at hl 1 rfl) ?_
    refine va_iald (D := g.1) hx hb hK hP 1 0 rfl rfl (zI_in (by omega) (by decide)) dX10_runEnd_14 ?_
    rw [zI_cl (by omega)]
    rw [(hF b (by omega) (by omega)).1.trans (congrArg zI hs.1)]
    refine zv_icmp_ge (tgt := 41) hx hb dX10_runEnd_15 (by decide) (by omega) (by omega) (fun c15 => ?_) (fun c15 => ?_)
    · exfalso; omega
    · refine lv_aload_n hx hb dX10_runEnd_18 rfl (lv_at hl 0 rfl) ?_
      refine lv_iload_n hx hb dX10_runEnd_19 rfl (lv_at hl 1 rfl) ?_
      refine lv_iload_n hx hb dX10_runEnd_20 rfl (lv_at hl 2 rfl) ?_
      refine zv_iconst hx hb dX10_runEnd_21 ?_
      refine zv_isub hx hb dX10_runEnd_22 ?_
      refine zc_V (As := [.int (zI b), .int (zI (i - 1))]) (rest := []) S hK (kX10_letAt l g y sa ta oa f gt od sv ik tp b w n hb0 hs (i - 1) (by omega)) (cwV 2 hts gX10_runEnd_X10_letAt rfl rfl rfl (by decide +kernel) ⟨Nat.le_of_ble_eq_true rfl, Nat.le_of_ble_eq_true rfl⟩) (hpic) (hpic.recv hK) rfl hl.1 rfl (Nat.le_of_ble_eq_true rfl) dX10_runEnd_23 ⟨Nat.zero_le _, Nat.zero_le _⟩ (fun r23 hr23 => ?_)
      obtain ⟨z23, rfl, hz23⟩ := hr23
      refine lv_aload_n hx hb dX10_runEnd_26 rfl (lv_at hl 0 rfl) ?_
      refine lv_iload_n hx hb dX10_runEnd_27 rfl (lv_at hl 1 rfl) ?_
      refine lv_iload_n hx hb dX10_runEnd_28 rfl (lv_at hl 2 rfl) ?_
      refine zv_iconst hx hb dX10_runEnd_29 ?_
      refine zv_isub hx hb dX10_runEnd_30 ?_
      refine lv_iload_n hx hb dX10_runEnd_31 rfl (lv_at hl 3 rfl) ?_
      refine zv_iadd hx hb dX10_runEnd_32 ?_
      refine zc_V (As := [.int (zI b), .int (zI ((i - 1) + d))]) (rest := [.int (zI z23)]) S hK (kX10_letAt l g y sa ta oa f gt od sv ik tp b w n hb0 hs ((i - 1) + d) (by omega)) (cwV 2 hts gX10_runEnd_X10_letAt rfl rfl rfl (by decide +kernel) ⟨Nat.le_of_ble_eq_true rfl, Nat.le_of_ble_eq_true rfl⟩) (hpic) (hpic.recv hK) rfl hl.1 rfl (Nat.le_of_ble_eq_true rfl) dX10_runEnd_33 ⟨Nat.zero_le _, Nat.zero_le _⟩ (fun r33 hr33 => ?_)
      obtain ⟨z33, rfl, hz33⟩ := hr33
      refine zv_icmp_ne (tgt := 41) hx hb dX10_runEnd_36 (by decide) (by omega) (by omega) (fun c36 => ?_) (fun c36 => ?_)
      · have q1 : ¬ (0 < i ∧ w (i - 1) = w (i - 1 + d)) := fun q => by omega
        refine lv_iload_n hx hb dX10_runEnd_41 rfl (lv_at hl 2 rfl) ?_
        refine lv_iload_n hx hb dX10_runEnd_42 rfl (lv_at hl 3 rfl) ?_
        refine zv_iadd hx hb dX10_runEnd_43 ?_
        refine lv_istore (lv' := [(4, .int (zI (i + d))), (0, .ref y), (1, .int (zI b)), (2, .int (zI i)), (3, .int (zI d))]) hx hb dX10_runEnd_44 hl (by decide) rfl (fun ls hl => ?_)
        have lp46 : ∀ (z_f : Nat) (k : Int), (i + d ≤ k ∧ k ≤ n) → (∀ q, i + d ≤ q → q < k → w q = w (q - d)) → ((n - k).toNat) < z_f → ∀ (ls : Array Slot), lv_has ls 5 [(0, .ref y), (1, .int (zI b)), (2, .int (zI i)), (3, .int (zI d)), (4, .int (zI k))] → W p l e (zRm 4 95) s m args below meth c s.heap [] 0 0 (MQ below (vp_Si (fun r => ∃ z : Int, r = zI z ∧ ((zRun w n i d ∧ z = zRT w n i d ∧ i + 2 * d ≤ z ∧ z ≤ n) ∨ (¬ zRun w n i d ∧ z = 0)))) args s 0 0 (fun _ => False)) (F0 m 46 ls []) := by
          intro z_f
          induction z_f with
          | zero => intro k h0 h1 z_m; exact absurd z_m (Nat.not_lt_zero _)
          | succ z_f ih46 =>
            intro k h0 h1 z_m46 ls hl
            refine lv_iload hx hb dX10_runEnd_46 (lv_at hl 4 rfl) ?_
            refine lv_aload_n hx hb dX10_runEnd_48 rfl (lv_at hl 0 rfl) ?_
            refine va_get (D := g.1) (ci := 5) (v := .ref sa) (C := RX10) (T := TX10) (N := 6) hx hb hts mX10_runEnd_0 hown hK hP 0 rfl rfl 0 (by decide) (hts _ mX10_runEnd_1) (fun _ h9 => h9) rfl dX10_runEnd_49 ?_
            refine lv_iload_n hx hb dX10_runEnd_52 rfl (lv_at hl 1 rfl) ?_
            refine va_iald (D := g.1) hx hb hK hP 1 0 rfl rfl (zI_in (by omega) (by decide)) dX10_runEnd_53 ?_
            rw [zI_cl (by omega)]
            rw [(hF b (by omega) (by omega)).1.trans (congrArg zI hs.1)]
            refine zv_icmp_ge (tgt := 82) hx hb dX10_runEnd_54 (by decide) (by omega) (by omega) (fun c54 => ?_) (fun c54 => ?_)
            · have e7 : zAF w n i (i + d) = k - (i + d) := zAF_un (by omega) (by omega) (by omega) (fun q h1q h2q => by have := h1 (i + d + q) (by omega) (by omega); rw [show i + d + q - d = i + q by omega] at this; exact this.symm) (fun _ q => by omega)
              have e8 : k = zRT w n i d := by unfold zRT; omega
              refine lv_iload hx hb dX10_runEnd_82 (lv_at hl 4 rfl) ?_
              refine lv_aload_n hx hb dX10_runEnd_84 rfl (lv_at hl 0 rfl) ?_
              refine va_get (D := g.1) (ci := 5) (v := .ref sa) (C := RX10) (T := TX10) (N := 6) hx hb hts mX10_runEnd_0 hown hK hP 0 rfl rfl 0 (by decide) (hts _ mX10_runEnd_1) (fun _ h9 => h9) rfl dX10_runEnd_85 ?_
              refine lv_iload_n hx hb dX10_runEnd_88 rfl (lv_at hl 1 rfl) ?_
              refine va_iald (D := g.1) hx hb hK hP 1 0 rfl rfl (zI_in (by omega) (by decide)) dX10_runEnd_89 ?_
              rw [zI_cl (by omega)]
              rw [(hF b (by omega) (by omega)).1.trans (congrArg zI hs.1)]
              refine zv_icmp_gt (tgt := 120) hx hb dX10_runEnd_90 (by decide) (by omega) (by omega) (fun c90 => ?_) (fun c90 => ?_)
              · exfalso; omega
              · refine lv_iload hx hb dX10_runEnd_93 (lv_at hl 4 rfl) ?_
                refine lv_iload_n hx hb dX10_runEnd_95 rfl (lv_at hl 2 rfl) ?_
                refine zv_iconst hx hb dX10_runEnd_96 ?_
                refine lv_iload_n hx hb dX10_runEnd_97 rfl (lv_at hl 3 rfl) ?_
                refine zv_imul hx hb dX10_runEnd_98 ?_
                refine zv_iadd hx hb dX10_runEnd_99 ?_
                refine zv_icmp_lt (tgt := 120) hx hb dX10_runEnd_100 (by decide) (by omega) (by omega) (fun c100 => ?_) (fun c100 => ?_)
                · have e9 : ¬ zRun w n i d := fun q => by have := q.2.1; omega
                  refine zv_iconst hx hb dX10_runEnd_120 ?_
                  exact zr_i hx hb hr hlocks dX10_runEnd_121 (⟨_, rfl, Or.inr ⟨e9, rfl⟩⟩)
                · refine lv_aload_n hx hb dX10_runEnd_103 rfl (lv_at hl 0 rfl) ?_
                  refine lv_iload_n hx hb dX10_runEnd_104 rfl (lv_at hl 1 rfl) ?_
                  refine lv_iload_n hx hb dX10_runEnd_105 rfl (lv_at hl 2 rfl) ?_
                  refine lv_iload hx hb dX10_runEnd_106 (lv_at hl 4 rfl) ?_
                  refine zc_V (As := [.int (zI b), .int (zI i), .int (zI k)]) (rest := []) S hK (kX10_period l g y sa ta oa f gt od sv ik tp b w n hb0 hs i k (by omega)) (cwV 3 hts gX10_runEnd_X10_period rfl rfl rfl (by decide +kernel) ⟨Nat.le_of_ble_eq_true rfl, Nat.le_of_ble_eq_true rfl⟩) (hpic) (hpic.recv hK) rfl hl.1 rfl (Nat.le_of_ble_eq_true rfl) dX10_runEnd_108 ⟨Nat.zero_le _, Nat.zero_le _⟩ (fun r108 hr108 => ?_)
                  obtain ⟨z108, rfl, hz108⟩ := hr108
                  refine lv_iload_n hx hb dX10_runEnd_111 rfl (lv_at hl 3 rfl) ?_
                  refine zv_icmp_ne (tgt := 120) hx hb dX10_runEnd_112 (by decide) (by omega) (by omega) (fun c112 => ?_) (fun c112 => ?_)
                  · have e9 : ¬ zRun w n i d := fun q => by have := q.2.2; rw [← e8] at this; omega
                    refine zv_iconst hx hb dX10_runEnd_120 ?_
                    exact zr_i hx hb hr hlocks dX10_runEnd_121 (⟨_, rfl, Or.inr ⟨e9, rfl⟩⟩)
                  · have e9 : zRun w n i d := ⟨q1, by omega, by rw [← e8]; omega⟩
                    refine lv_iload hx hb dX10_runEnd_115 (lv_at hl 4 rfl) ?_
                    refine lv_goto (tgt := 121) hx hb dX10_runEnd_117 (by decide) ?_
                    exact zr_i hx hb hr hlocks dX10_runEnd_121 (⟨_, rfl, Or.inl ⟨e9, e8, by omega, by omega⟩⟩)
            · refine lv_aload_n hx hb dX10_runEnd_57 rfl (lv_at hl 0 rfl) ?_
              refine lv_iload_n hx hb dX10_runEnd_58 rfl (lv_at hl 1 rfl) ?_
              refine lv_iload hx hb dX10_runEnd_59 (lv_at hl 4 rfl) ?_
              refine zc_V (As := [.int (zI b), .int (zI k)]) (rest := []) S hK (kX10_letAt l g y sa ta oa f gt od sv ik tp b w n hb0 hs k (by omega)) (cwV 2 hts gX10_runEnd_X10_letAt rfl rfl rfl (by decide +kernel) ⟨Nat.le_of_ble_eq_true rfl, Nat.le_of_ble_eq_true rfl⟩) (hpic) (hpic.recv hK) rfl hl.1 rfl (Nat.le_of_ble_eq_true rfl) dX10_runEnd_61 ⟨Nat.zero_le _, Nat.zero_le _⟩ (fun r61 hr61 => ?_)
              obtain ⟨z61, rfl, hz61⟩ := hr61
              refine lv_aload_n hx hb dX10_runEnd_64 rfl (lv_at hl 0 rfl) ?_
              refine lv_iload_n hx hb dX10_runEnd_65 rfl (lv_at hl 1 rfl) ?_
              refine lv_iload hx hb dX10_runEnd_66 (lv_at hl 4 rfl) ?_
              refine lv_iload_n hx hb dX10_runEnd_68 rfl (lv_at hl 3 rfl) ?_
              refine zv_isub hx hb dX10_runEnd_69 ?_
              refine zc_V (As := [.int (zI b), .int (zI (k - d))]) (rest := [.int (zI z61)]) S hK (kX10_letAt l g y sa ta oa f gt od sv ik tp b w n hb0 hs (k - d) (by omega)) (cwV 2 hts gX10_runEnd_X10_letAt rfl rfl rfl (by decide +kernel) ⟨Nat.le_of_ble_eq_true rfl, Nat.le_of_ble_eq_true rfl⟩) (hpic) (hpic.recv hK) rfl hl.1 rfl (Nat.le_of_ble_eq_true rfl) dX10_runEnd_70 ⟨Nat.zero_le _, Nat.zero_le _⟩ (fun r70 hr70 => ?_)
              obtain ⟨z70, rfl, hz70⟩ := hr70
              refine zv_icmp_ne (tgt := 82) hx hb dX10_runEnd_73 (by decide) (by omega) (by omega) (fun c73 => ?_) (fun c73 => ?_)
              · have e7 : zAF w n i (i + d) = k - (i + d) := zAF_un (by omega) (by omega) (by omega) (fun q h1q h2q => by have := h1 (i + d + q) (by omega) (by omega); rw [show i + d + q - d = i + q by omega] at this; exact this.symm) (fun _ _ => by rw [show i + (k - (i + d)) = k - d by omega, show i + d + (k - (i + d)) = k by omega]; omega)
                have e8 : k = zRT w n i d := by unfold zRT; omega
                refine lv_iload hx hb dX10_runEnd_82 (lv_at hl 4 rfl) ?_
                refine lv_aload_n hx hb dX10_runEnd_84 rfl (lv_at hl 0 rfl) ?_
                refine va_get (D := g.1) (ci := 5) (v := .ref sa) (C := RX10) (T := TX10) (N := 6) hx hb hts mX10_runEnd_0 hown hK hP 0 rfl rfl 0 (by decide) (hts _ mX10_runEnd_1) (fun _ h9 => h9) rfl dX10_runEnd_85 ?_
                refine lv_iload_n hx hb dX10_runEnd_88 rfl (lv_at hl 1 rfl) ?_
                refine va_iald (D := g.1) hx hb hK hP 1 0 rfl rfl (zI_in (by omega) (by decide)) dX10_runEnd_89 ?_
                rw [zI_cl (by omega)]
                rw [(hF b (by omega) (by omega)).1.trans (congrArg zI hs.1)]
                refine zv_icmp_gt (tgt := 120) hx hb dX10_runEnd_90 (by decide) (by omega) (by omega) (fun c90 => ?_) (fun c90 => ?_)
                · exfalso; omega
                · refine lv_iload hx hb dX10_runEnd_93 (lv_at hl 4 rfl) ?_
                  refine lv_iload_n hx hb dX10_runEnd_95 rfl (lv_at hl 2 rfl) ?_
                  refine zv_iconst hx hb dX10_runEnd_96 ?_
                  refine lv_iload_n hx hb dX10_runEnd_97 rfl (lv_at hl 3 rfl) ?_
                  refine zv_imul hx hb dX10_runEnd_98 ?_
                  refine zv_iadd hx hb dX10_runEnd_99 ?_
                  refine zv_icmp_lt (tgt := 120) hx hb dX10_runEnd_100 (by decide) (by omega) (by omega) (fun c100 => ?_) (fun c100 => ?_)
                  · have e9 : ¬ zRun w n i d := fun q => by have := q.2.1; omega
                    refine zv_iconst hx hb dX10_runEnd_120 ?_
                    exact zr_i hx hb hr hlocks dX10_runEnd_121 (⟨_, rfl, Or.inr ⟨e9, rfl⟩⟩)
                  · refine lv_aload_n hx hb dX10_runEnd_103 rfl (lv_at hl 0 rfl) ?_
                    refine lv_iload_n hx hb dX10_runEnd_104 rfl (lv_at hl 1 rfl) ?_
                    refine lv_iload_n hx hb dX10_runEnd_105 rfl (lv_at hl 2 rfl) ?_
                    refine lv_iload hx hb dX10_runEnd_106 (lv_at hl 4 rfl) ?_
                    refine zc_V (As := [.int (zI b), .int (zI i), .int (zI k)]) (rest := []) S hK (kX10_period l g y sa ta oa f gt od sv ik tp b w n hb0 hs i k (by omega)) (cwV 3 hts gX10_runEnd_X10_period rfl rfl rfl (by decide +kernel) ⟨Nat.le_of_ble_eq_true rfl, Nat.le_of_ble_eq_true rfl⟩) (hpic) (hpic.recv hK) rfl hl.1 rfl (Nat.le_of_ble_eq_true rfl) dX10_runEnd_108 ⟨Nat.zero_le _, Nat.zero_le _⟩ (fun r108 hr108 => ?_)
                    obtain ⟨z108, rfl, hz108⟩ := hr108
                    refine lv_iload_n hx hb dX10_runEnd_111 rfl (lv_at hl 3 rfl) ?_
                    refine zv_icmp_ne (tgt := 120) hx hb dX10_runEnd_112 (by decide) (by omega) (by omega) (fun c112 => ?_) (fun c112 => ?_)
                    · have e9 : ¬ zRun w n i d := fun q => by have := q.2.2; rw [← e8] at this; omega
                      refine zv_iconst hx hb dX10_runEnd_120 ?_
                      exact zr_i hx hb hr hlocks dX10_runEnd_121 (⟨_, rfl, Or.inr ⟨e9, rfl⟩⟩)
                    · have e9 : zRun w n i d := ⟨q1, by omega, by rw [← e8]; omega⟩
                      refine lv_iload hx hb dX10_runEnd_115 (lv_at hl 4 rfl) ?_
                      refine lv_goto (tgt := 121) hx hb dX10_runEnd_117 (by decide) ?_
                      exact zr_i hx hb hr hlocks dX10_runEnd_121 (⟨_, rfl, Or.inl ⟨e9, e8, by omega, by omega⟩⟩)
              · refine zv_iinc (lv' := [(4, .int (zI (k + 1))), (0, .ref y), (1, .int (zI b)), (2, .int (zI i)), (3, .int (zI d))]) hx hb dX10_runEnd_76 hl (k := 4) rfl (by decide) rfl (fun ls hl => ?_)
                refine lv_goto (tgt := 46) hx hb dX10_runEnd_79 (by decide) ?_
                exact ih46 (k + 1) (by omega) (fun q h1q h2q => (show q < k ∨ q = k by omega).elim (fun h8 => h1 q h1q h8) (fun h8 => by subst h8; omega)) (by omega) _ (lv_sub hl [1, 2, 3, 4, 0] rfl)
        exact lp46 _ (i + d) (by omega) (fun q h1q h2q => absurd h2q (by omega)) (Nat.lt_succ_self _) _ (lv_sub hl [1, 2, 3, 4, 0] rfl)
      · have e9 : ¬ zRun w n i d := fun q => q.1 ⟨by omega, by omega⟩
        refine zv_iconst hx hb dX10_runEnd_39 ?_
        exact zr_i hx hb hr hlocks dX10_runEnd_40 (⟨_, rfl, Or.inr ⟨e9, rfl⟩⟩)

theorem mX10_runs_0 : ∀ w ∈ wsX100, w ∈ wsX10_runs := by decide +kernel
theorem mX10_runs_1 : (Cond.fieldLink RX10 7 "BorderRunsModel" "s" "[I") ∈ wsX10_runs := by decide +kernel
set_option maxHeartbeats 4000000 in
set_option maxRecDepth 100000 in
/-- X10_runs -/
theorem kX10_runs (l : Launch) (g : zG) (y sa ta oa : Nat) (f gt od : Int → Int) (sv ik tp : Int) (b : Int) (w : Int → Int) (n : Int) (hb0 : 0 ≤ b ∧ b ≤ 246) (hs : SL f b w n)  : Met l yX10_runs wsX10_runs (zRm 5 119) (zP g [.ref y, .int (zI b)] (RM g y sa ta oa f gt od sv ik tp)) (vp_Si (fun r => ∃ z : Int, r = zI z ∧ z = zCC (zRun w n) n n ∧ 0 ≤ z ∧ z ≤ 1640)) 0 0 (fun _ => False) := by
  refine Met.ofZ (cc := cX10_runs) (maxL := 5) (ret := (some .int)) (by decide) rfl (Nat.le_of_ble_eq_true rfl) ?_
  intro p e s m args below meth c ls hx hb hr hlocks S hin hK hpic hl
  have hown := S.2.2.2.1
  have hts := S.2.2.2.2
  have hl : lv_has ls 5 [(0, .ref y), (1, .int (zI b))] := hl
  obtain ⟨F, G, O, hP, hF, hG, hO, hdis, hrg⟩ := id hpic
  have hn := hs.2.1
  refine zv_iconst hx hb dX10_runs_0 ?_
  refine lv_istore_n (lv' := [(2, .int (zI 0)), (0, .ref y), (1, .int (zI b))]) hx hb dX10_runs_1 rfl hl (by decide) rfl (fun ls hl => ?_)
  refine zv_iconst hx hb dX10_runs_2 ?_
  refine lv_istore_n (lv' := [(3, .int (zI 0)), (2, .int (zI 0)), (0, .ref y), (1, .int (zI b))]) hx hb dX10_runs_3 rfl hl (by decide) rfl (fun ls hl => ?_)
  have lp4 : ∀ (z_f : Nat) (o : Int) (i : Int), (0 ≤ i ∧ i ≤ n ∧ 0 ≤ o ∧ o ≤ 40 * i) → (o = zCC (zRun w n) n i) → ((n - i).toNat) < z_f → ∀ (ls : Array Slot), lv_has ls 5 [(0, .ref y), (1, .int (zI b)), (2, .int (zI o)), (3, .int (zI i))] → W p l e (zRm 5 119) s m args below meth c s.heap [] 0 0 (MQ below (vp_Si (fun r => ∃ z : Int, r = zI z ∧ z = zCC (zRun w n) n n ∧ 0 ≤ z ∧ z ≤ 1640)) args s 0 0 (fun _ => False)) (F0 m 4 ls []) := by
    intro z_f
    induction z_f with
    | zero => intro o i h0 h1 z_m; exact absurd z_m (Nat.not_lt_zero _)
    | succ z_f ih4 =>
      intro o i h0 h1 z_m4 ls hl
      refine lv_iload_n hx hb dX10_runs_4 rfl (lv_at hl 3 rfl) ?_
      refine lv_aload_n hx hb dX10_runs_5 rfl (lv_at hl 0 rfl) ?_
      refine va_get (D := g.1) (ci := 5) (v := .ref sa) (C := RX10) (T := TX10) (N := 6) hx hb hts mX10_runs_0 hown hK hP 0 rfl rfl 0 (by decide) (hts _ mX10_runs_1) (fun _ h9 => h9) rfl dX10_runs_6 ?_
      refine lv_iload_n hx hb dX10_runs_9 rfl (lv_at hl 1 rfl) ?_
      refine va_iald (D := g.1) hx hb hK hP 1 0 rfl rfl (zI_in (by omega) (by decide)) dX10_runs_10 ?_
      rw [zI_cl (by omega)]
      rw [(hF b (by omega) (by omega)).1.trans (congrArg zI hs.1)]
      refine zv_icmp_ge (tgt := 63) hx hb dX10_runs_11 (by decide) (by omega) (by omega) (fun c11 => ?_) (fun c11 => ?_)
      · have e9 : o = zCC (zRun w n) n n := by rw [h1, show i = n by omega]
        refine lv_iload_n hx hb dX10_runs_63 rfl (lv_at hl 2 rfl) ?_
        exact zr_i hx hb hr hlocks dX10_runs_64 (⟨_, rfl, e9, by omega, by omega⟩)
      · refine zv_iconst hx hb dX10_runs_14 ?_
        refine lv_istore (lv' := [(4, .int (zI 1)), (0, .ref y), (1, .int (zI b)), (2, .int (zI o)), (3, .int (zI i))]) hx hb dX10_runs_15 hl (by decide) rfl (fun ls hl => ?_)
        have lp17 : ∀ (z_f : Nat) (o2 : Int) (d : Int), (1 ≤ d ∧ d ≤ (n - i) / 2 + 1 ∧ 0 ≤ o2 ∧ o2 ≤ 40 * i + d) → (o2 = zCC (zRun w n) n i + zC ((zRun w n) i) 1 d) → ((n + 1 - d).toNat) < z_f → ∀ (ls : Array Slot), lv_has ls 5 [(0, .ref y), (1, .int (zI b)), (2, .int (zI o2)), (3, .int (zI i)), (4, .int (zI d))] → W p l e (zRm 5 119) s m args below meth c s.heap [] 0 0 (MQ below (vp_Si (fun r => ∃ z : Int, r = zI z ∧ z = zCC (zRun w n) n n ∧ 0 ≤ z ∧ z ≤ 1640)) args s 0 0 (fun _ => False)) (F0 m 17 ls []) := by
          intro z_f
          induction z_f with
          | zero => intro o2 d k0 k1 z_m; exact absurd z_m (Nat.not_lt_zero _)
          | succ z_f ih17 =>
            intro o2 d k0 k1 z_m17 ls hl
            refine lv_iload_n hx hb dX10_runs_17 rfl (lv_at hl 3 rfl) ?_
            refine zv_iconst hx hb dX10_runs_18 ?_
            refine lv_iload hx hb dX10_runs_19 (lv_at hl 4 rfl) ?_
            refine zv_imul hx hb dX10_runs_21 ?_
            refine zv_iadd hx hb dX10_runs_22 ?_
            refine lv_aload_n hx hb dX10_runs_23 rfl (lv_at hl 0 rfl) ?_
            refine va_get (D := g.1) (ci := 5) (v := .ref sa) (C := RX10) (T := TX10) (N := 6) hx hb hts mX10_runs_0 hown hK hP 0 rfl rfl 0 (by decide) (hts _ mX10_runs_1) (fun _ h9 => h9) rfl dX10_runs_24 ?_
            refine lv_iload_n hx hb dX10_runs_27 rfl (lv_at hl 1 rfl) ?_
            refine va_iald (D := g.1) hx hb hK hP 1 0 rfl rfl (zI_in (by omega) (by decide)) dX10_runs_28 ?_
            rw [zI_cl (by omega)]
            rw [(hF b (by omega) (by omega)).1.trans (congrArg zI hs.1)]
            refine zv_icmp_gt (tgt := 57) hx hb dX10_runs_29 (by decide) (by omega) (by omega) (fun c29 => ?_) (fun c29 => ?_)
            · refine zv_iinc (lv' := [(3, .int (zI (i + 1))), (0, .ref y), (1, .int (zI b)), (2, .int (zI o2)), (4, .int (zI d))]) hx hb dX10_runs_57 hl (k := 3) rfl (by decide) rfl (fun ls hl => ?_)
              refine lv_goto (tgt := 4) hx hb dX10_runs_60 (by decide) ?_
              exact ih4 o2 (i + 1) ((by have q9 := zRow_bd (zRun w n) (n := n) (i := i) (by omega); have q8 : zRow (zRun w n) n i = zC ((zRun w n) i) 1 ((n - i) / 2 + 1) := rfl; omega)) ((by rw [zCC_succ _ (by omega), k1, show d = (n - i) / 2 + 1 by omega]; rfl)) (by omega) _ (lv_sub hl [1, 2, 3, 0] rfl)
            · refine lv_iload_n hx hb dX10_runs_32 rfl (lv_at hl 2 rfl) ?_
              refine lv_aload_n hx hb dX10_runs_33 rfl (lv_at hl 0 rfl) ?_
              refine lv_iload_n hx hb dX10_runs_34 rfl (lv_at hl 1 rfl) ?_
              refine lv_iload_n hx hb dX10_runs_35 rfl (lv_at hl 3 rfl) ?_
              refine lv_iload hx hb dX10_runs_36 (lv_at hl 4 rfl) ?_
              refine zc_V (As := [.int (zI b), .int (zI i), .int (zI d)]) (rest := [.int (zI o2)]) S hK (kX10_runEnd l g y sa ta oa f gt od sv ik tp b w n hb0 hs i d (by omega)) (cwV 3 hts gX10_runs_X10_runEnd rfl rfl rfl (by decide +kernel) ⟨Nat.le_of_ble_eq_true rfl, Nat.le_of_ble_eq_true rfl⟩) (hpic) (hpic.recv hK) rfl hl.1 rfl (Nat.le_of_ble_eq_true rfl) dX10_runs_38 ⟨Nat.zero_le _, Nat.zero_le _⟩ (fun r38 hr38 => ?_)
              obtain ⟨z38, rfl, hz38⟩ := hr38
              refine zv_if_le (tgt := 48) hx hb dX10_runs_41 (by decide) (hz38.elim (fun q => by omega) (fun q => by omega)) (fun c41 => ?_) (fun c41 => ?_)
              · have q33 : ¬ zRun w n i d := hz38.elim (fun q => by omega) (fun q => q.1)
                refine zv_iconst hx hb dX10_runs_48 ?_
                refine zv_iadd hx hb dX10_runs_49 ?_
                refine lv_istore_n (lv' := [(2, .int (zI (o2 + 0))), (0, .ref y), (1, .int (zI b)), (3, .int (zI i)), (4, .int (zI d))]) hx hb dX10_runs_50 rfl hl (by decide) rfl (fun ls hl => ?_)
                refine zv_iinc (lv' := [(4, .int (zI (d + 1))), (2, .int (zI (o2 + 0))), (0, .ref y), (1, .int (zI b)), (3, .int (zI i))]) hx hb dX10_runs_51 hl (k := 4) rfl (by decide) rfl (fun ls hl => ?_)
                refine lv_goto (tgt := 17) hx hb dX10_runs_54 (by decide) ?_
                exact ih17 (o2 + 0) (d + 1) (by omega) (by rw [zC_f (P := (zRun w n) i) (b := d) (by omega) (q33)]; omega) (by omega) _ (lv_sub hl [2, 3, 1, 4, 0] rfl)
              · have q33 := hz38.resolve_right (fun q => by omega)
                refine zv_iconst hx hb dX10_runs_44 ?_
                refine lv_goto (tgt := 49) hx hb dX10_runs_45 (by decide) ?_
                refine zv_iadd hx hb dX10_runs_49 ?_
                refine lv_istore_n (lv' := [(2, .int (zI (o2 + 1))), (0, .ref y), (1, .int (zI b)), (3, .int (zI i)), (4, .int (zI d))]) hx hb dX10_runs_50 rfl hl (by decide) rfl (fun ls hl => ?_)
                refine zv_iinc (lv' := [(4, .int (zI (d + 1))), (2, .int (zI (o2 + 1))), (0, .ref y), (1, .int (zI b)), (3, .int (zI i))]) hx hb dX10_runs_51 hl (k := 4) rfl (by decide) rfl (fun ls hl => ?_)
                refine lv_goto (tgt := 17) hx hb dX10_runs_54 (by decide) ?_
                exact ih17 (o2 + 1) (d + 1) (by omega) (by rw [zC_t (P := (zRun w n) i) (b := d) (by omega) (q33.1)]; omega) (by omega) _ (lv_sub hl [2, 3, 1, 4, 0] rfl)
        exact lp17 _ o 1 (by omega) (by rw [zC_nil _ (by omega)]; omega) (Nat.lt_succ_self _) _ (lv_sub hl [1, 2, 3, 4, 0] rfl)
  exact lp4 _ 0 0 (by omega) ((zCC_0 _ n).symm) (Nat.lt_succ_self _) _ (lv_sub hl [2, 3, 1, 0] rfl)

theorem mX10_runsOver_0 : ∀ w ∈ wsX100, w ∈ wsX10_runsOver := by decide +kernel
theorem mX10_runsOver_1 : (Cond.fieldLink RX10 7 "BorderRunsModel" "s" "[I") ∈ wsX10_runsOver := by decide +kernel
set_option maxHeartbeats 4000000 in
set_option maxRecDepth 100000 in
/-- X10_runsOver -/
theorem kX10_runsOver (l : Launch) (g : zG) (y sa ta oa : Nat) (f gt od : Int → Int) (sv ik tp : Int) (w : Int → Int) (n : Int) (hs : SL f 0 w n) (x : Int) (hx0 : 0 ≤ x ∧ x < n) : Met l yX10_runsOver wsX10_runsOver (zRm 5 119) (zP g [.ref y, .int (zI x)] (RM g y sa ta oa f gt od sv ik tp)) (vp_Si (fun r => ∃ z : Int, r = zI z ∧ z = zCC (zOvP w n x) n (x + 1) ∧ 0 ≤ z ∧ z ≤ 1640)) 0 0 (fun _ => False) := by
  refine Met.ofZ (cc := cX10_runsOver) (maxL := 5) (ret := (some .int)) (by decide) rfl (Nat.le_of_ble_eq_true rfl) ?_
  intro p e s m args below meth c ls hx hb hr hlocks S hin hK hpic hl
  have hown := S.2.2.2.1
  have hts := S.2.2.2.2
  have hl : lv_has ls 5 [(0, .ref y), (1, .int (zI x))] := hl
  obtain ⟨F, G, O, hP, hF, hG, hO, hdis, hrg⟩ := id hpic
  have hn := hs.2.1
  refine zv_iconst hx hb dX10_runsOver_0 ?_
  refine lv_istore_n (lv' := [(2, .int (zI 0)), (0, .ref y), (1, .int (zI x))]) hx hb dX10_runsOver_1 rfl hl (by decide) rfl (fun ls hl => ?_)
  refine zv_iconst hx hb dX10_runsOver_2 ?_
  refine lv_istore_n (lv' := [(3, .int (zI 0)), (2, .int (zI 0)), (0, .ref y), (1, .int (zI x))]) hx hb dX10_runsOver_3 rfl hl (by decide) rfl (fun ls hl => ?_)
  have lp4 : ∀ (z_f : Nat) (o : Int) (i : Int), (0 ≤ i ∧ i ≤ (x + 1) ∧ 0 ≤ o ∧ o ≤ 40 * i) → (o = zCC (zOvP w n x) n i) → (((x + 1) - i).toNat) < z_f → ∀ (ls : Array Slot), lv_has ls 5 [(0, .ref y), (1, .int (zI x)), (2, .int (zI o)), (3, .int (zI i))] → W p l e (zRm 5 119) s m args below meth c s.heap [] 0 0 (MQ below (vp_Si (fun r => ∃ z : Int, r = zI z ∧ z = zCC (zOvP w n x) n (x + 1) ∧ 0 ≤ z ∧ z ≤ 1640)) args s 0 0 (fun _ => False)) (F0 m 4 ls []) := by
    intro z_f
    induction z_f with
    | zero => intro o i h0 h1 z_m; exact absurd z_m (Nat.not_lt_zero _)
    | succ z_f ih4 =>
      intro o i h0 h1 z_m4 ls hl
      refine lv_iload_n hx hb dX10_runsOver_4 rfl (lv_at hl 3 rfl) ?_
      refine lv_iload_n hx hb dX10_runsOver_5 rfl (lv_at hl 1 rfl) ?_
      refine zv_icmp_gt (tgt := 59) hx hb dX10_runsOver_6 (by decide) (by omega) (by omega) (fun c6 => ?_) (fun c6 => ?_)
      · have e9 : o = zCC (zOvP w n x) n (x + 1) := by rw [h1, show i = x + 1 by omega]
        refine lv_iload_n hx hb dX10_runsOver_59 rfl (lv_at hl 2 rfl) ?_
        exact zr_i hx hb hr hlocks dX10_runsOver_60 (⟨_, rfl, e9, by omega, by omega⟩)
      · refine zv_iconst hx hb dX10_runsOver_9 ?_
        refine lv_istore (lv' := [(4, .int (zI 1)), (0, .ref y), (1, .int (zI x)), (2, .int (zI o)), (3, .int (zI i))]) hx hb dX10_runsOver_10 hl (by decide) rfl (fun ls hl => ?_)
        have lp12 : ∀ (z_f : Nat) (o2 : Int) (d : Int), (1 ≤ d ∧ d ≤ (n - i) / 2 + 1 ∧ 0 ≤ o2 ∧ o2 ≤ 40 * i + d) → (o2 = zCC (zOvP w n x) n i + zC ((zOvP w n x) i) 1 d) → ((n + 1 - d).toNat) < z_f → ∀ (ls : Array Slot), lv_has ls 5 [(0, .ref y), (1, .int (zI x)), (2, .int (zI o2)), (3, .int (zI i)), (4, .int (zI d))] → W p l e (zRm 5 119) s m args below meth c s.heap [] 0 0 (MQ below (vp_Si (fun r => ∃ z : Int, r = zI z ∧ z = zCC (zOvP w n x) n (x + 1) ∧ 0 ≤ z ∧ z ≤ 1640)) args s 0 0 (fun _ => False)) (F0 m 12 ls []) := by
          intro z_f
          induction z_f with
          | zero => intro o2 d k0 k1 z_m; exact absurd z_m (Nat.not_lt_zero _)
          | succ z_f ih12 =>
            intro o2 d k0 k1 z_m12 ls hl
            refine lv_iload_n hx hb dX10_runsOver_12 rfl (lv_at hl 3 rfl) ?_
            refine zv_iconst hx hb dX10_runsOver_13 ?_
            refine lv_iload hx hb dX10_runsOver_14 (lv_at hl 4 rfl) ?_
            refine zv_imul hx hb dX10_runsOver_16 ?_
            refine zv_iadd hx hb dX10_runsOver_17 ?_
            refine lv_aload_n hx hb dX10_runsOver_18 rfl (lv_at hl 0 rfl) ?_
            refine va_get (D := g.1) (ci := 5) (v := .ref sa) (C := RX10) (T := TX10) (N := 6) hx hb hts mX10_runsOver_0 hown hK hP 0 rfl rfl 0 (by decide) (hts _ mX10_runsOver_1) (fun _ h9 => h9) rfl dX10_runsOver_19 ?_
            refine zv_iconst hx hb dX10_runsOver_22 ?_
            refine va_iald (D := g.1) hx hb hK hP 1 0 rfl rfl (zI_in (by omega) (by decide)) dX10_runsOver_23 ?_
            rw [zI_cl (by omega)]
            rw [(hF 0 (by omega) (by omega)).1.trans (congrArg zI hs.1)]
            refine zv_icmp_gt (tgt := 53) hx hb dX10_runsOver_24 (by decide) (by omega) (by omega) (fun c24 => ?_) (fun c24 => ?_)
            · refine zv_iinc (lv' := [(3, .int (zI (i + 1))), (0, .ref y), (1, .int (zI x)), (2, .int (zI o2)), (4, .int (zI d))]) hx hb dX10_runsOver_53 hl (k := 3) rfl (by decide) rfl (fun ls hl => ?_)
              refine lv_goto (tgt := 4) hx hb dX10_runsOver_56 (by decide) ?_
              exact ih4 o2 (i + 1) ((by have q9 := zRow_bd (zOvP w n x) (n := n) (i := i) (by omega); have q8 : zRow (zOvP w n x) n i = zC ((zOvP w n x) i) 1 ((n - i) / 2 + 1) := rfl; omega)) ((by rw [zCC_succ _ (by omega), k1, show d = (n - i) / 2 + 1 by omega]; rfl)) (by omega) _ (lv_sub hl [1, 2, 3, 0] rfl)
            · refine lv_iload_n hx hb dX10_runsOver_27 rfl (lv_at hl 2 rfl) ?_
              refine lv_aload_n hx hb dX10_runsOver_28 rfl (lv_at hl 0 rfl) ?_
              refine zv_iconst hx hb dX10_runsOver_29 ?_
              refine lv_iload_n hx hb dX10_runsOver_30 rfl (lv_at hl 3 rfl) ?_
              refine lv_iload hx hb dX10_runsOver_31 (lv_at hl 4 rfl) ?_
              refine zc_V (As := [.int (zI 0), .int (zI i), .int (zI d)]) (rest := [.int (zI o2)]) S hK (kX10_runEnd l g y sa ta oa f gt od sv ik tp 0 w n (by omega) hs i d (by omega)) (cwV 3 hts gX10_runsOver_X10_runEnd rfl rfl rfl (by decide +kernel) ⟨Nat.le_of_ble_eq_true rfl, Nat.le_of_ble_eq_true rfl⟩) (hpic) (hpic.recv hK) rfl hl.1 rfl (Nat.le_of_ble_eq_true rfl) dX10_runsOver_33 ⟨Nat.zero_le _, Nat.zero_le _⟩ (fun r33 hr33 => ?_)
              obtain ⟨z33, rfl, hz33⟩ := hr33
              refine lv_iload_n hx hb dX10_runsOver_36 rfl (lv_at hl 1 rfl) ?_
              refine zv_icmp_le (tgt := 44) hx hb dX10_runsOver_37 (by decide) (hz33.elim (fun q => by omega) (fun q => by omega)) (by omega) (fun c37 => ?_) (fun c37 => ?_)
              · have q33 : ¬ zOvP w n x i d := fun z => hz33.elim (fun q => by have := z.2; omega) (fun q => q.1 z.1)
                refine zv_iconst hx hb dX10_runsOver_44 ?_
                refine zv_iadd hx hb dX10_runsOver_45 ?_
                refine lv_istore_n (lv' := [(2, .int (zI (o2 + 0))), (0, .ref y), (1, .int (zI x)), (3, .int (zI i)), (4, .int (zI d))]) hx hb dX10_runsOver_46 rfl hl (by decide) rfl (fun ls hl => ?_)
                refine zv_iinc (lv' := [(4, .int (zI (d + 1))), (2, .int (zI (o2 + 0))), (0, .ref y), (1, .int (zI x)), (3, .int (zI i))]) hx hb dX10_runsOver_47 hl (k := 4) rfl (by decide) rfl (fun ls hl => ?_)
                refine lv_goto (tgt := 12) hx hb dX10_runsOver_50 (by decide) ?_
                exact ih12 (o2 + 0) (d + 1) (by omega) (by rw [zC_f (P := (zOvP w n x) i) (b := d) (by omega) (q33)]; omega) (by omega) _ (lv_sub hl [2, 3, 1, 4, 0] rfl)
              · have q33 : zOvP w n x i d := hz33.elim (fun q => ⟨q.1, by omega⟩) (fun q => by omega)
                refine zv_iconst hx hb dX10_runsOver_40 ?_
                refine lv_goto (tgt := 45) hx hb dX10_runsOver_41 (by decide) ?_
                refine zv_iadd hx hb dX10_runsOver_45 ?_
                refine lv_istore_n (lv' := [(2, .int (zI (o2 + 1))), (0, .ref y), (1, .int (zI x)), (3, .int (zI i)), (4, .int (zI d))]) hx hb dX10_runsOver_46 rfl hl (by decide) rfl (fun ls hl => ?_)
                refine zv_iinc (lv' := [(4, .int (zI (d + 1))), (2, .int (zI (o2 + 1))), (0, .ref y), (1, .int (zI x)), (3, .int (zI i))]) hx hb dX10_runsOver_47 hl (k := 4) rfl (by decide) rfl (fun ls hl => ?_)
                refine lv_goto (tgt := 12) hx hb dX10_runsOver_50 (by decide) ?_
                exact ih12 (o2 + 1) (d + 1) (by omega) (by rw [zC_t (P := (zOvP w n x) i) (b := d) (by omega) (q33)]; omega) (by omega) _ (lv_sub hl [2, 3, 1, 4, 0] rfl)
        exact lp12 _ o 1 (by omega) (by rw [zC_nil _ (by omega)]; omega) (Nat.lt_succ_self _) _ (lv_sub hl [1, 2, 3, 4, 0] rfl)
  exact lp4 _ 0 0 (by omega) ((zCC_0 _ n).symm) (Nat.lt_succ_self _) _ (lv_sub hl [2, 3, 1, 0] rfl)

theorem mX10_alikeFrom_0 : ∀ w ∈ wsX100, w ∈ wsX10_alikeFrom := by decide +kernel
theorem mX10_alikeFrom_1 : (Cond.fieldLink RX10 7 "BorderRunsModel" "s" "[I") ∈ wsX10_alikeFrom := by decide +kernel
set_option maxHeartbeats 4000000 in
set_option maxRecDepth 100000 in
/-- X10_alikeFrom -/
theorem kX10_alikeFrom (l : Launch) (g : zG) (y sa ta oa : Nat) (f gt od : Int → Int) (sv ik tp : Int) (w : Int → Int) (n : Int) (hs : SL f 0 w n) (i j : Int) (hi : 0 ≤ i ∧ i ≤ n) (hj : 0 ≤ j ∧ j ≤ n) : Met l yX10_alikeFrom wsX10_alikeFrom (zRm 1 22) (zP g [.ref y, .int (zI i), .int (zI j)] (RM g y sa ta oa f gt od sv ik tp)) (vp_Si (fun r => ∃ z : Int, r = zI z ∧ z = zAF w n i j ∧ 0 ≤ z ∧ z ≤ n - i ∧ z ≤ n - j)) 0 0 (fun _ => False) := by
  refine Met.ofZ (cc := cX10_alikeFrom) (maxL := 4) (ret := (some .int)) (by decide) rfl (Nat.le_of_ble_eq_true rfl) ?_
  intro p e s m args below meth c ls hx hb hr hlocks S hin hK hpic hl
  have hown := S.2.2.2.1
  have hts := S.2.2.2.2
  have hl : lv_has ls 4 [(0, .ref y), (1, .int (zI i)), (2, .int (zI j))] := hl
  obtain ⟨F, G, O, hP, hF, hG, hO, hdis, hrg⟩ := id hpic
  have hn := hs.2.1
  refine zv_iconst hx hb dX10_alikeFrom_0 ?_
  refine lv_istore_n (lv' := [(3, .int (zI 0)), (0, .ref y), (1, .int (zI i)), (2, .int (zI j))]) hx hb dX10_alikeFrom_1 rfl hl (by decide) rfl (fun ls hl => ?_)
  have lp2 : ∀ (z_f : Nat) (k : Int), (0 ≤ k ∧ k ≤ n - i ∧ k ≤ n - j) → (zSm w i j k) → ((n - i - k).toNat) < z_f → ∀ (ls : Array Slot), lv_has ls 4 [(0, .ref y), (1, .int (zI i)), (2, .int (zI j)), (3, .int (zI k))] → W p l e (zRm 1 22) s m args below meth c s.heap [] 0 0 (MQ below (vp_Si (fun r => ∃ z : Int, r = zI z ∧ z = zAF w n i j ∧ 0 ≤ z ∧ z ≤ n - i ∧ z ≤ n - j)) args s 0 0 (fun _ => False)) (F0 m 2 ls []) := by
    intro z_f
    induction z_f with
    | zero => intro k h0 h1 z_m; exact absurd z_m (Nat.not_lt_zero _)
    | succ z_f ih2 =>
      intro k h0 h1 z_m2 ls hl
      refine lv_iload_n hx hb dX10_alikeFrom_2 rfl (lv_at hl 1 rfl) ?_
      refine lv_iload_n hx hb dX10_alikeFrom_3 rfl (lv_at hl 3 rfl) ?_
      refine zv_iadd hx hb dX10_alikeFrom_4 ?_
      refine lv_aload_n hx hb dX10_alikeFrom_5 rfl (lv_at hl 0 rfl) ?_
      refine va_get (D := g.1) (ci := 5) (v := .ref sa) (C := RX10) (T := TX10) (N := 6) hx hb hts mX10_alikeFrom_0 hown hK hP 0 rfl rfl 0 (by decide) (hts _ mX10_alikeFrom_1) (fun _ h9 => h9) rfl dX10_alikeFrom_6 ?_
      refine zv_iconst hx hb dX10_alikeFrom_9 ?_
      refine va_iald (D := g.1) hx hb hK hP 1 0 rfl rfl (zI_in (by omega) (by decide)) dX10_alikeFrom_10 ?_
      rw [zI_cl (by omega)]
      rw [(hF 0 (by omega) (by omega)).1.trans (congrArg zI hs.1)]
      refine zv_icmp_ge (tgt := 51) hx hb dX10_alikeFrom_11 (by decide) (by omega) (by omega) (fun c11 => ?_) (fun c11 => ?_)
      · have e9 : zAF w n i j = k := zAF_un h0.1 (by omega) (by omega) h1 (by omega)
        refine lv_iload_n hx hb dX10_alikeFrom_51 rfl (lv_at hl 3 rfl) ?_
        exact zr_i hx hb hr hlocks dX10_alikeFrom_52 (⟨k, rfl, e9.symm, by omega, by omega, by omega⟩)
      · refine lv_iload_n hx hb dX10_alikeFrom_14 rfl (lv_at hl 2 rfl) ?_
        refine lv_iload_n hx hb dX10_alikeFrom_15 rfl (lv_at hl 3 rfl) ?_
        refine zv_iadd hx hb dX10_alikeFrom_16 ?_
        refine lv_aload_n hx hb dX10_alikeFrom_17 rfl (lv_at hl 0 rfl) ?_
        refine va_get (D := g.1) (ci := 5) (v := .ref sa) (C := RX10) (T := TX10) (N := 6) hx hb hts mX10_alikeFrom_0 hown hK hP 0 rfl rfl 0 (by decide) (hts _ mX10_alikeFrom_1) (fun _ h9 => h9) rfl dX10_alikeFrom_18 ?_
        refine zv_iconst hx hb dX10_alikeFrom_21 ?_
        refine va_iald (D := g.1) hx hb hK hP 1 0 rfl rfl (zI_in (by omega) (by decide)) dX10_alikeFrom_22 ?_
        rw [zI_cl (by omega)]
        rw [(hF 0 (by omega) (by omega)).1.trans (congrArg zI hs.1)]
        refine zv_icmp_ge (tgt := 51) hx hb dX10_alikeFrom_23 (by decide) (by omega) (by omega) (fun c23 => ?_) (fun c23 => ?_)
        · have e9 : zAF w n i j = k := zAF_un h0.1 (by omega) (by omega) h1 (by omega)
          refine lv_iload_n hx hb dX10_alikeFrom_51 rfl (lv_at hl 3 rfl) ?_
          exact zr_i hx hb hr hlocks dX10_alikeFrom_52 (⟨k, rfl, e9.symm, by omega, by omega, by omega⟩)
        · refine lv_aload_n hx hb dX10_alikeFrom_26 rfl (lv_at hl 0 rfl) ?_
          refine zv_iconst hx hb dX10_alikeFrom_27 ?_
          refine lv_iload_n hx hb dX10_alikeFrom_28 rfl (lv_at hl 1 rfl) ?_
          refine lv_iload_n hx hb dX10_alikeFrom_29 rfl (lv_at hl 3 rfl) ?_
          refine zv_iadd hx hb dX10_alikeFrom_30 ?_
          refine zc_V (As := [.int (zI 0), .int (zI (i + k))]) (rest := []) S hK (kX10_letAt l g y sa ta oa f gt od sv ik tp 0 w n (by omega) hs (i + k) (by omega)) (cwV 2 hts gX10_alikeFrom_X10_letAt rfl rfl rfl (by decide +kernel) ⟨Nat.le_of_ble_eq_true rfl, Nat.le_of_ble_eq_true rfl⟩) (hpic) (hpic.recv hK) rfl hl.1 rfl (Nat.le_of_ble_eq_true rfl) dX10_alikeFrom_31 ⟨Nat.zero_le _, Nat.zero_le _⟩ (fun r31 hr31 => ?_)
          obtain ⟨z31, rfl, hz31⟩ := hr31
          refine lv_aload_n hx hb dX10_alikeFrom_34 rfl (lv_at hl 0 rfl) ?_
          refine zv_iconst hx hb dX10_alikeFrom_35 ?_
          refine lv_iload_n hx hb dX10_alikeFrom_36 rfl (lv_at hl 2 rfl) ?_
          refine lv_iload_n hx hb dX10_alikeFrom_37 rfl (lv_at hl 3 rfl) ?_
          refine zv_iadd hx hb dX10_alikeFrom_38 ?_
          refine zc_V (As := [.int (zI 0), .int (zI (j + k))]) (rest := [.int (zI z31)]) S hK (kX10_letAt l g y sa ta oa f gt od sv ik tp 0 w n (by omega) hs (j + k) (by omega)) (cwV 2 hts gX10_alikeFrom_X10_letAt rfl rfl rfl (by decide +kernel) ⟨Nat.le_of_ble_eq_true rfl, Nat.le_of_ble_eq_true rfl⟩) (hpic) (hpic.recv hK) rfl hl.1 rfl (Nat.le_of_ble_eq_true rfl) dX10_alikeFrom_39 ⟨Nat.zero_le _, Nat.zero_le _⟩ (fun r39 hr39 => ?_)
          obtain ⟨z39, rfl, hz39⟩ := hr39
          refine zv_icmp_ne (tgt := 51) hx hb dX10_alikeFrom_42 (by decide) (by omega) (by omega) (fun c42 => ?_) (fun c42 => ?_)
          · have e9 : zAF w n i j = k := zAF_un h0.1 (by omega) (by omega) h1 (fun _ _ => by omega)
            refine lv_iload_n hx hb dX10_alikeFrom_51 rfl (lv_at hl 3 rfl) ?_
            exact zr_i hx hb hr hlocks dX10_alikeFrom_52 (⟨k, rfl, e9.symm, by omega, by omega, by omega⟩)
          · refine zv_iinc (lv' := [(3, .int (zI (k + 1))), (0, .ref y), (1, .int (zI i)), (2, .int (zI j))]) hx hb dX10_alikeFrom_45 hl (k := 3) rfl (by decide) rfl (fun ls hl => ?_)
            refine lv_goto (tgt := 2) hx hb dX10_alikeFrom_48 (by decide) ?_
            exact ih2 (k + 1) (by omega) (fun q h1q h2q => (show q < k ∨ q = k by omega).elim (fun h8 => h1 q h1q h8) (fun h8 => by subst h8; omega)) (by omega) _ (lv_sub hl [1, 2, 3, 0] rfl)
  exact lp2 _ 0 (by omega) (zSm_0 w i j (Int.le_refl 0)) (Nat.lt_succ_self _) _ (lv_sub hl [1, 2, 3, 0] rfl)

theorem mX10_isAhead_0 : ∀ w ∈ wsX100, w ∈ wsX10_isAhead := by decide +kernel
theorem mX10_isAhead_1 : (Cond.fieldLink RX10 7 "BorderRunsModel" "s" "[I") ∈ wsX10_isAhead := by decide +kernel
set_option maxHeartbeats 4000000 in
set_option maxRecDepth 100000 in
/-- X10_isAhead -/
theorem kX10_isAhead (l : Launch) (g : zG) (y sa ta oa : Nat) (f gt od : Int → Int) (sv ik tp : Int) (w : Int → Int) (n : Int) (hs : SL f 0 w n) (i j : Int) (hi : 0 ≤ i ∧ i < n) (hj : 0 ≤ j ∧ j < n) : Met l yX10_isAhead wsX10_isAhead (zRm 2 45) (zP g [.ref y, .int (zI i), .int (zI j)] (RM g y sa ta oa f gt od sv ik tp)) (vp_Si (fun r => r = zI (zB (zAh w n i j)))) 0 0 (fun _ => False) := by
  refine Met.ofZ (cc := cX10_isAhead) (maxL := 4) (ret := (some .boolean)) (by decide) rfl (Nat.le_of_ble_eq_true rfl) ?_
  intro p e s m args below meth c ls hx hb hr hlocks S hin hK hpic hl
  have hown := S.2.2.2.1
  have hts := S.2.2.2.2
  have hl : lv_has ls 4 [(0, .ref y), (1, .int (zI i)), (2, .int (zI j))] := hl
  obtain ⟨F, G, O, hP, hF, hG, hO, hdis, hrg⟩ := id hpic
  have hn := hs.2.1
  refine lv_aload_n hx hb dX10_isAhead_0 rfl (lv_at hl 0 rfl) ?_
  refine lv_iload_n hx hb dX10_isAhead_1 rfl (lv_at hl 1 rfl) ?_
  refine lv_iload_n hx hb dX10_isAhead_2 rfl (lv_at hl 2 rfl) ?_
  refine zc_V (As := [.int (zI i), .int (zI j)]) (rest := []) S hK (kX10_alikeFrom l g y sa ta oa f gt od sv ik tp w n hs i j (by omega) (by omega)) (cwV 2 hts gX10_isAhead_X10_alikeFrom rfl rfl rfl (by decide +kernel) ⟨Nat.le_of_ble_eq_true rfl, Nat.le_of_ble_eq_true rfl⟩) (hpic) (hpic.recv hK) rfl hl.1 rfl (Nat.le_of_ble_eq_true rfl) dX10_isAhead_3 ⟨Nat.zero_le _, Nat.zero_le _⟩ (fun r3 hr3 => ?_)
  obtain ⟨z3, rfl, hz3⟩ := hr3
  refine lv_istore_n (lv' := [(3, .int (zI z3)), (0, .ref y), (1, .int (zI i)), (2, .int (zI j))]) hx hb dX10_isAhead_6 rfl hl (by decide) rfl (fun ls hl => ?_)
  have b7 := hz3.1
  refine lv_iload_n hx hb dX10_isAhead_7 rfl (lv_at hl 2 rfl) ?_
  refine lv_iload_n hx hb dX10_isAhead_8 rfl (lv_at hl 0 rfl) ?_
  refine zv_iadd hx hb dX10_isAhead_9 ?_
  refine lv_aload_n hx hb dX10_isAhead_10 rfl (lv_at hl 1 rfl) ?_
  refine va_get (D := g.1) (ci := 5) (v := .ref sa) (C := RX10) (T := TX10) (N := 6) hx hb hts mX10_isAhead_0 hown hK hP 0 rfl rfl 0 (by decide) (hts _ mX10_isAhead_1) (fun _ h9 => h9) rfl dX10_isAhead_11 ?_
  refine zv_iconst hx hb dX10_isAhead_14 ?_
  refine va_iald (D := g.1) hx hb hK hP 1 0 rfl rfl (zI_in (by omega) (by decide)) dX10_isAhead_15 ?_
  rw [zI_cl (by omega)]
  rw [(hF 0 (by omega) (by omega)).1.trans (congrArg zI hs.1)]
  refine zv_icmp_ne (tgt := 32) hx hb dX10_isAhead_16 (by decide) (by omega) (by omega) (fun c16 => ?_) (fun c16 => ?_)
  · refine lv_iload_n hx hb dX10_isAhead_32 rfl (lv_at hl 3 rfl) ?_
    refine lv_iload_n hx hb dX10_isAhead_33 rfl (lv_at hl 0 rfl) ?_
    refine zv_iadd hx hb dX10_isAhead_34 ?_
    refine lv_aload_n hx hb dX10_isAhead_35 rfl (lv_at hl 1 rfl) ?_
    refine va_get (D := g.1) (ci := 5) (v := .ref sa) (C := RX10) (T := TX10) (N := 6) hx hb hts mX10_isAhead_0 hown hK hP 0 rfl rfl 0 (by decide) (hts _ mX10_isAhead_1) (fun _ h9 => h9) rfl dX10_isAhead_36 ?_
    refine zv_iconst hx hb dX10_isAhead_39 ?_
    refine va_iald (D := g.1) hx hb hK hP 1 0 rfl rfl (zI_in (by omega) (by decide)) dX10_isAhead_40 ?_
    rw [zI_cl (by omega)]
    rw [(hF 0 (by omega) (by omega)).1.trans (congrArg zI hs.1)]
    refine zv_icmp_ge (tgt := 67) hx hb dX10_isAhead_41 (by decide) (by omega) (by omega) (fun c41 => ?_) (fun c41 => ?_)
    · have e9 : ¬ zAh w n i j := fun q => by unfold zAh at q; rw [← b7] at q; omega
      refine zv_iconst hx hb dX10_isAhead_67 ?_
      exact zr_z hx hb hr hlocks dX10_isAhead_68 rfl (by rw [zB_f e9])
    · refine lv_aload_n hx hb dX10_isAhead_44 rfl (lv_at hl 1 rfl) ?_
      refine zv_iconst hx hb dX10_isAhead_45 ?_
      refine lv_iload_n hx hb dX10_isAhead_46 rfl (lv_at hl 2 rfl) ?_
      refine lv_iload_n hx hb dX10_isAhead_47 rfl (lv_at hl 0 rfl) ?_
      refine zv_iadd hx hb dX10_isAhead_48 ?_
      refine zc_V (As := [.int (zI 0), .int (zI (i + z3))]) (rest := []) S hK (kX10_letAt l g y sa ta oa f gt od sv ik tp 0 w n (by omega) hs (i + z3) (by omega)) (cwV 2 hts gX10_isAhead_X10_letAt rfl rfl rfl (by decide +kernel) ⟨Nat.le_of_ble_eq_true rfl, Nat.le_of_ble_eq_true rfl⟩) (hpic) (hpic.recv hK) rfl hl.1 rfl (Nat.le_of_ble_eq_true rfl) dX10_isAhead_49 ⟨Nat.zero_le _, Nat.zero_le _⟩ (fun r49 hr49 => ?_)
      obtain ⟨z49, rfl, hz49⟩ := hr49
      refine lv_aload_n hx hb dX10_isAhead_52 rfl (lv_at hl 1 rfl) ?_
      refine zv_iconst hx hb dX10_isAhead_53 ?_
      refine lv_iload_n hx hb dX10_isAhead_54 rfl (lv_at hl 3 rfl) ?_
      refine lv_iload_n hx hb dX10_isAhead_55 rfl (lv_at hl 0 rfl) ?_
      refine zv_iadd hx hb dX10_isAhead_56 ?_
      refine zc_V (As := [.int (zI 0), .int (zI (j + z3))]) (rest := [.int (zI z49)]) S hK (kX10_letAt l g y sa ta oa f gt od sv ik tp 0 w n (by omega) hs (j + z3) (by omega)) (cwV 2 hts gX10_isAhead_X10_letAt rfl rfl rfl (by decide +kernel) ⟨Nat.le_of_ble_eq_true rfl, Nat.le_of_ble_eq_true rfl⟩) (hpic) (hpic.recv hK) rfl hl.1 rfl (Nat.le_of_ble_eq_true rfl) dX10_isAhead_57 ⟨Nat.zero_le _, Nat.zero_le _⟩ (fun r57 hr57 => ?_)
      obtain ⟨z57, rfl, hz57⟩ := hr57
      refine zv_icmp_ge (tgt := 67) hx hb dX10_isAhead_60 (by decide) (by omega) (by omega) (fun c60 => ?_) (fun c60 => ?_)
      · have e9 : ¬ zAh w n i j := fun q => by unfold zAh at q; rw [← b7] at q; omega
        refine zv_iconst hx hb dX10_isAhead_67 ?_
        exact zr_z hx hb hr hlocks dX10_isAhead_68 rfl (by rw [zB_f e9])
      · have e9 : zAh w n i j := by unfold zAh; rw [← b7]; omega
        refine zv_iconst hx hb dX10_isAhead_63 ?_
        refine lv_goto (tgt := 68) hx hb dX10_isAhead_64 (by decide) ?_
        exact zr_z hx hb hr hlocks dX10_isAhead_68 rfl (by rw [zB_t e9])
  · refine lv_iload_n hx hb dX10_isAhead_19 rfl (lv_at hl 2 rfl) ?_
    refine lv_iload_n hx hb dX10_isAhead_20 rfl (lv_at hl 3 rfl) ?_
    refine zv_icmp_le (tgt := 28) hx hb dX10_isAhead_21 (by decide) (by omega) (by omega) (fun c21 => ?_) (fun c21 => ?_)
    · have e9 : ¬ zAh w n i j := fun q => by unfold zAh at q; rw [← b7] at q; omega
      refine zv_iconst hx hb dX10_isAhead_28 ?_
      refine lv_goto (tgt := 68) hx hb dX10_isAhead_29 (by decide) ?_
      exact zr_z hx hb hr hlocks dX10_isAhead_68 rfl (by rw [zB_f e9])
    · have e9 : zAh w n i j := by unfold zAh; rw [← b7]; omega
      refine zv_iconst hx hb dX10_isAhead_24 ?_
      refine lv_goto (tgt := 68) hx hb dX10_isAhead_25 (by decide) ?_
      exact zr_z hx hb hr hlocks dX10_isAhead_68 rfl (by rw [zB_t e9])

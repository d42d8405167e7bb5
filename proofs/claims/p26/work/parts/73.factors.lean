set_option maxHeartbeats 4000000 in
set_option maxRecDepth 100000 in
/-- factors -/
theorem kL_factors (l : Launch) (g : zG) (ad : Nat → Nat) (w : Int → Int) (n : Int) (ee : Nat → Int → Int) (en : Nat → Int) (hc : Int) (u : Int → Int) (un hs : Int) (tc : Int → Int) (tn : Int) (y : Int) (hy : 0 ≤ y ∧ y < 2147483648) : Met l yL_factors wsL_factors (zRm 7 164) (zP g [.ref (ad 16), .int (zI y)] (AX g ad w n ee en hc u un hs tc tn)) (vp_Si (fun r => r = zI 1)) 0 0 (fun _ => False) := by
  refine Met.ofZ (cc := cL_factors) (maxL := 15) (ret := (some .boolean)) (by decide) rfl (Nat.le_of_ble_eq_true rfl) ?_
  intro p e s m args below meth c ls hx hb hr hlocks S hin hK hpic hl
  have hown := S.2.2.2.1
  have hts := S.2.2.2.2
  have hl : lv_has ls 15 [(0, .ref (ad 16)), (1, .int (zI y))] := hl
  obtain ⟨d, dn, u9, un9, hf, hn, v, vn, nx, pf, ig, bp, hX, hsn, hrg⟩ := id hpic
  have hg := hX.grg
  have hn0 := hX.gw.1
  have hd0 := hX.gd.1
  have hu0 := hX.gu.1
  have hv0 := hX.gv.1
  have ht0 := hX.gt.1
  have hw := hX.gw.2.1
  have hn1 := hn0
  refine lv_aload_n hx hb dL_factors_0 rfl (lv_at hl 0 rfl) ?_
  refine zv_iconst hx hb dL_factors_1 ?_
  refine zc_V (As := [.int (zI 0)]) (rest := []) S hK (kX9_count l g ad w n ee en hc u un hs tc tn 0 (by omega)) (cwV 1 hts gL_factors_X9_count rfl rfl rfl (by decide +kernel) ⟨Nat.le_of_ble_eq_true rfl, Nat.le_of_ble_eq_true rfl⟩) (hpic) (hX.recvx hK) rfl hl.1 rfl (Nat.le_of_ble_eq_true rfl) dL_factors_2 ⟨Nat.zero_le _, Nat.zero_le _⟩ (fun r2 hr2 => ?_)
  obtain rfl := hr2
  rw [zCnt_0]
  refine lv_istore_n (lv' := [(2, .int (zI n)), (0, .ref (ad 16)), (1, .int (zI y))]) hx hb dL_factors_5 rfl hl (by decide) rfl (fun ls hl => ?_)
  refine lv_aload_n hx hb dL_factors_6 rfl (lv_at hl 1 rfl) ?_
  refine zv_iconst hx hb dL_factors_7 ?_
  refine lv_iload_n hx hb dL_factors_8 rfl (lv_at hl 0 rfl) ?_
  refine zv_iconst hx hb dL_factors_9 ?_
  refine zv_iadd hx hb dL_factors_10 ?_
  refine zv_iconst hx hb dL_factors_11 ?_
  refine zc_V (As := [.int (zI 0), .int (zI (n + 1)), .int (zI 0)]) (rest := []) S hK (kX9_factor l g ad w n ee en hc u un hs tc tn 0 (n + 1) 0 (by omega) (by omega) (by omega)) (cwV 3 hts gL_factors_X9_factor rfl rfl rfl (by decide +kernel) ⟨Nat.le_of_ble_eq_true rfl, Nat.le_of_ble_eq_true rfl⟩) (hpic) (hX.recvx hK) rfl hl.1 rfl (Nat.le_of_ble_eq_true rfl) dL_factors_12 ⟨Nat.zero_le _, Nat.zero_le _⟩ (fun r12 hr12 => ?_)
  obtain rfl := hr12
  rw [aFac_out (by omega)]
  refine zv_iconst hx hb dL_factors_15 ?_
  refine zv_icmp_ne (tgt := 34) hx hb dL_factors_16 (by decide) (by omega) (by omega) (fun c16 => ?_) (fun c16 => ?_)
  · exfalso; omega
  · refine lv_aload_n hx hb dL_factors_19 rfl (lv_at hl 1 rfl) ?_
    refine zv_iconst hx hb dL_factors_20 ?_
    refine zv_iconst hx hb dL_factors_21 ?_
    refine zv_iconst hx hb dL_factors_22 ?_
    refine zc_V (As := [.int (zI 0), .int (zI 0), .int (zI 0)]) (rest := []) S hK (kX9_factor l g ad w n ee en hc u un hs tc tn 0 0 0 (by omega) (by omega) (by omega)) (cwV 3 hts gL_factors_X9_factor rfl rfl rfl (by decide +kernel) ⟨Nat.le_of_ble_eq_true rfl, Nat.le_of_ble_eq_true rfl⟩) (hpic) (hX.recvx hK) rfl hl.1 rfl (Nat.le_of_ble_eq_true rfl) dL_factors_23 ⟨Nat.zero_le _, Nat.zero_le _⟩ (fun r23 hr23 => ?_)
    obtain rfl := hr23
    rw [aFac_out (by omega)]
    refine zv_iconst hx hb dL_factors_26 ?_
    refine zv_icmp_ne (tgt := 34) hx hb dL_factors_27 (by decide) (by omega) (by omega) (fun c27 => ?_) (fun c27 => ?_)
    · exfalso; omega
    · refine zv_iconst hx hb dL_factors_30 ?_
      refine lv_goto (tgt := 35) hx hb dL_factors_31 (by decide) ?_
      refine lv_istore_n (lv' := [(3, .int (zI 1)), (2, .int (zI n)), (0, .ref (ad 16)), (1, .int (zI y))]) hx hb dL_factors_35 rfl hl (by decide) rfl (fun ls hl => ?_)
      refine zv_iconst hx hb dL_factors_36 ?_
      refine lv_istore (lv' := [(4, .int (zI 0)), (3, .int (zI 1)), (2, .int (zI n)), (0, .ref (ad 16)), (1, .int (zI y))]) hx hb dL_factors_37 hl (by decide) rfl (fun ls hl => ?_)
      have lp39 : ∀ (z_f : Nat) (k : Int), (0 ≤ k ∧ k ≤ 6) → ((6 - k).toNat) < z_f → ∀ (ls : Array Slot), lv_has ls 15 [(0, .ref (ad 16)), (1, .int (zI y)), (2, .int (zI n)), (3, .int (zI 1)), (4, .int (zI k))] → W p l e (zRm 7 164) s m args below meth c s.heap [] 0 0 (MQ below (vp_Si (fun r => r = zI 1)) args s 0 0 (fun _ => False)) (F0 m 39 ls []) := by
        intro z_f
        induction z_f with
        | zero => intro k h0 z_m; exact absurd z_m (Nat.not_lt_zero _)
        | succ z_f ih39 =>
          intro k h0 z_m39 ls hl
          refine lv_iload hx hb dL_factors_39 (lv_at hl 4 rfl) ?_
          refine zv_bipush hx hb dL_factors_41 (by decide +kernel) ?_
          refine zv_icmp_ge (tgt := 470) hx hb dL_factors_43 (by decide) (by omega) (by omega) (fun c43 => ?_) (fun c43 => ?_)
          · refine lv_iload_n hx hb dL_factors_470 rfl (lv_at hl 3 rfl) ?_
            exact zr_z hx hb hr hlocks dL_factors_471 rfl rfl
          · refine lv_iload_n hx hb dL_factors_46 rfl (lv_at hl 2 rfl) ?_
            refine zv_if_le (tgt := 470) hx hb dL_factors_47 (by decide) (by omega) (fun c47 => ?_) (fun c47 => ?_)
            · refine lv_iload_n hx hb dL_factors_470 rfl (lv_at hl 3 rfl) ?_
              exact zr_z hx hb hr hlocks dL_factors_471 rfl rfl
            · refine lv_iload_n hx hb dL_factors_50 rfl (lv_at hl 3 rfl) ?_
              refine zv_if_eq (tgt := 470) hx hb dL_factors_51 (by decide) (by omega) (fun c51 => ?_) (fun c51 => ?_)
              · exfalso; omega
              · have hn2 : 0 < n := by omega
                have d62a : 0 ≤ y / (1 + 7 * k) := Int.ediv_nonneg (by omega) (by omega)
                have d62b : y / (1 + 7 * k) ≤ y := Int.ediv_le_self _ (by omega)
                have d78a : 0 ≤ y / (3 + 5 * k) := Int.ediv_nonneg (by omega) (by omega)
                have d78b : y / (3 + 5 * k) ≤ y := Int.ediv_le_self _ (by omega)
                refine lv_iload_n hx hb dL_factors_54 rfl (lv_at hl 1 rfl) ?_
                refine zv_iconst hx hb dL_factors_55 ?_
                refine zv_bipush hx hb dL_factors_56 (by decide +kernel) ?_
                refine lv_iload hx hb dL_factors_58 (lv_at hl 4 rfl) ?_
                refine zv_imul hx hb dL_factors_60 ?_
                refine zv_iadd hx hb dL_factors_61 ?_
                refine zv_idiv hx hb dL_factors_62 (by omega) (by omega) ?_
                refine lv_iload_n hx hb dL_factors_63 rfl (lv_at hl 2 rfl) ?_
                refine zv_irem hx hb dL_factors_64 (by omega) (by omega) ?_
                obtain ⟨i5, ei5, bi5⟩ : ∃ z : Int, z = (y / (1 + (7 * k))) % n ∧ 0 ≤ z ∧ z < n := ⟨_, rfl, Int.emod_nonneg _ (by omega), Int.emod_lt_of_pos _ hn2⟩
                rw [← ei5]
                refine lv_istore (lv' := [(5, .int (zI i5)), (0, .ref (ad 16)), (1, .int (zI y)), (2, .int (zI n)), (3, .int (zI 1)), (4, .int (zI k))]) hx hb dL_factors_65 hl (by decide) rfl (fun ls hl => ?_)
                refine lv_iload hx hb dL_factors_67 (lv_at hl 0 rfl) ?_
                refine zv_iconst hx hb dL_factors_69 ?_
                refine zv_iadd hx hb dL_factors_70 ?_
                refine lv_iload_n hx hb dL_factors_71 rfl (lv_at hl 2 rfl) ?_
                refine zv_iconst hx hb dL_factors_72 ?_
                refine zv_iconst hx hb dL_factors_73 ?_
                refine lv_iload hx hb dL_factors_74 (lv_at hl 5 rfl) ?_
                refine zv_imul hx hb dL_factors_76 ?_
                refine zv_iadd hx hb dL_factors_77 ?_
                refine zv_idiv hx hb dL_factors_78 (by omega) (by omega) ?_
                refine lv_iload_n hx hb dL_factors_79 rfl (lv_at hl 3 rfl) ?_
                refine lv_iload hx hb dL_factors_80 (lv_at hl 0 rfl) ?_
                refine zv_isub hx hb dL_factors_82 ?_
                refine zv_irem hx hb dL_factors_83 (by omega) (by omega) ?_
                obtain ⟨i6, ei6, bi6⟩ : ∃ z : Int, z = (y / (3 + (5 * k))) % (n - i5) ∧ 0 ≤ z ∧ z < n - i5 := ⟨_, rfl, Int.emod_nonneg _ (by omega), Int.emod_lt_of_pos _ (by omega)⟩
                rw [← ei6]
                refine zv_iadd hx hb dL_factors_84 ?_
                obtain ⟨j6, ej6⟩ : ∃ z : Int, z = (i5 + 1) + i6 := ⟨_, rfl⟩
                rw [← ej6]
                refine lv_istore (lv' := [(6, .int (zI j6)), (5, .int (zI i5)), (0, .ref (ad 16)), (1, .int (zI y)), (2, .int (zI n)), (3, .int (zI 1)), (4, .int (zI k))]) hx hb dL_factors_85 hl (by decide) rfl (fun ls hl => ?_)
                refine lv_iload hx hb dL_factors_87 (lv_at hl 0 rfl) ?_
                refine lv_iload hx hb dL_factors_89 (lv_at hl 1 rfl) ?_
                refine zv_isub hx hb dL_factors_91 ?_
                obtain ⟨m7, em7⟩ : ∃ z : Int, z = j6 - i5 := ⟨_, rfl⟩
                rw [← em7]
                refine lv_istore (lv' := [(7, .int (zI m7)), (6, .int (zI j6)), (5, .int (zI i5)), (0, .ref (ad 16)), (1, .int (zI y)), (2, .int (zI n)), (3, .int (zI 1)), (4, .int (zI k))]) hx hb dL_factors_92 hl (by decide) rfl (fun ls hl => ?_)
                have hf : 0 ≤ i5 ∧ i5 < j6 ∧ j6 ≤ n := by omega
                obtain ⟨ti, fi, la, lo, sh, pe, bo, z8, ⟨q0, q1, q2, q3, q4, q5, q6, q7, q8, q9⟩, ⟨g1, g2, g3, g4, g5, g6, g7, g8, g9, g10, g11, g12, g13⟩, giff, ⟨gs1, gs2, gs3⟩, ⟨gp1, gp2, gp3, gp4, gp5, gp6⟩, gx1, gx2, gx3, gx4⟩ := zFac_all (w := w) em7 hf hn0.2
                refine lv_aload_n hx hb dL_factors_94 rfl (lv_at hl 3 rfl) ?_
                refine lv_iload hx hb dL_factors_95 (lv_at hl 2 rfl) ?_
                refine lv_iload hx hb dL_factors_97 (lv_at hl 1 rfl) ?_
                refine zv_iconst hx hb dL_factors_99 ?_
                refine zc_V (As := [.int (zI i5), .int (zI j6), .int (zI 0)]) (rest := []) S hK (kX9_factor l g ad w n ee en hc u un hs tc tn i5 j6 0 (by omega) (by omega) (by omega)) (cwV 3 hts gL_factors_X9_factor rfl rfl rfl (by decide +kernel) ⟨Nat.le_of_ble_eq_true rfl, Nat.le_of_ble_eq_true rfl⟩) (hpic) (hX.recvx hK) rfl hl.1 rfl (Nat.le_of_ble_eq_true rfl) dL_factors_100 ⟨Nat.zero_le _, Nat.zero_le _⟩ (fun r100 hr100 => ?_)
                obtain rfl := hr100
                rw [q0]
                refine lv_istore (lv' := [(8, .int (zI ti)), (7, .int (zI m7)), (6, .int (zI j6)), (5, .int (zI i5)), (0, .ref (ad 16)), (1, .int (zI y)), (2, .int (zI n)), (3, .int (zI 1)), (4, .int (zI k))]) hx hb dL_factors_103 hl (by decide) rfl (fun ls hl => ?_)
                refine lv_aload_n hx hb dL_factors_105 rfl (lv_at hl 4 rfl) ?_
                refine lv_iload hx hb dL_factors_106 (lv_at hl 3 rfl) ?_
                refine lv_iload hx hb dL_factors_108 (lv_at hl 2 rfl) ?_
                refine zv_iconst hx hb dL_factors_110 ?_
                refine zc_V (As := [.int (zI i5), .int (zI j6), .int (zI 1)]) (rest := []) S hK (kX9_factor l g ad w n ee en hc u un hs tc tn i5 j6 1 (by omega) (by omega) (by omega)) (cwV 3 hts gL_factors_X9_factor rfl rfl rfl (by decide +kernel) ⟨Nat.le_of_ble_eq_true rfl, Nat.le_of_ble_eq_true rfl⟩) (hpic) (hX.recvx hK) rfl hl.1 rfl (Nat.le_of_ble_eq_true rfl) dL_factors_111 ⟨Nat.zero_le _, Nat.zero_le _⟩ (fun r111 hr111 => ?_)
                obtain rfl := hr111
                rw [q1]
                refine lv_istore (lv' := [(9, .int (zI fi)), (8, .int (zI ti)), (7, .int (zI m7)), (6, .int (zI j6)), (5, .int (zI i5)), (0, .ref (ad 16)), (1, .int (zI y)), (2, .int (zI n)), (3, .int (zI 1)), (4, .int (zI k))]) hx hb dL_factors_114 hl (by decide) rfl (fun ls hl => ?_)
                refine lv_aload_n hx hb dL_factors_116 rfl (lv_at hl 5 rfl) ?_
                refine lv_iload hx hb dL_factors_117 (lv_at hl 4 rfl) ?_
                refine lv_iload hx hb dL_factors_119 (lv_at hl 3 rfl) ?_
                refine zv_iconst hx hb dL_factors_121 ?_
                refine zc_V (As := [.int (zI i5), .int (zI j6), .int (zI 2)]) (rest := []) S hK (kX9_factor l g ad w n ee en hc u un hs tc tn i5 j6 2 (by omega) (by omega) (by omega)) (cwV 3 hts gL_factors_X9_factor rfl rfl rfl (by decide +kernel) ⟨Nat.le_of_ble_eq_true rfl, Nat.le_of_ble_eq_true rfl⟩) (hpic) (hX.recvx hK) rfl hl.1 rfl (Nat.le_of_ble_eq_true rfl) dL_factors_122 ⟨Nat.zero_le _, Nat.zero_le _⟩ (fun r122 hr122 => ?_)
                obtain rfl := hr122
                rw [q2]
                refine lv_istore (lv' := [(10, .int (zI la)), (9, .int (zI fi)), (8, .int (zI ti)), (7, .int (zI m7)), (6, .int (zI j6)), (5, .int (zI i5)), (0, .ref (ad 16)), (1, .int (zI y)), (2, .int (zI n)), (3, .int (zI 1)), (4, .int (zI k))]) hx hb dL_factors_125 hl (by decide) rfl (fun ls hl => ?_)
                refine lv_aload_n hx hb dL_factors_127 rfl (lv_at hl 6 rfl) ?_
                refine lv_iload hx hb dL_factors_128 (lv_at hl 5 rfl) ?_
                refine lv_iload hx hb dL_factors_130 (lv_at hl 4 rfl) ?_
                refine zv_bipush hx hb dL_factors_132 (by decide +kernel) ?_
                refine zc_V (As := [.int (zI i5), .int (zI j6), .int (zI 6)]) (rest := []) S hK (kX9_factor l g ad w n ee en hc u un hs tc tn i5 j6 6 (by omega) (by omega) (by omega)) (cwV 3 hts gL_factors_X9_factor rfl rfl rfl (by decide +kernel) ⟨Nat.le_of_ble_eq_true rfl, Nat.le_of_ble_eq_true rfl⟩) (hpic) (hX.recvx hK) rfl hl.1 rfl (Nat.le_of_ble_eq_true rfl) dL_factors_134 ⟨Nat.zero_le _, Nat.zero_le _⟩ (fun r134 hr134 => ?_)
                obtain rfl := hr134
                rw [q6]
                refine lv_istore (lv' := [(11, .int (zI pe)), (10, .int (zI la)), (9, .int (zI fi)), (8, .int (zI ti)), (7, .int (zI m7)), (6, .int (zI j6)), (5, .int (zI i5)), (0, .ref (ad 16)), (1, .int (zI y)), (2, .int (zI n)), (3, .int (zI 1)), (4, .int (zI k))]) hx hb dL_factors_137 hl (by decide) rfl (fun ls hl => ?_)
                refine lv_aload_n hx hb dL_factors_139 rfl (lv_at hl 7 rfl) ?_
                refine lv_iload hx hb dL_factors_140 (lv_at hl 6 rfl) ?_
                refine lv_iload hx hb dL_factors_142 (lv_at hl 5 rfl) ?_
                refine zv_bipush hx hb dL_factors_144 (by decide +kernel) ?_
                refine zc_V (As := [.int (zI i5), .int (zI j6), .int (zI 7)]) (rest := []) S hK (kX9_factor l g ad w n ee en hc u un hs tc tn i5 j6 7 (by omega) (by omega) (by omega)) (cwV 3 hts gL_factors_X9_factor rfl rfl rfl (by decide +kernel) ⟨Nat.le_of_ble_eq_true rfl, Nat.le_of_ble_eq_true rfl⟩) (hpic) (hX.recvx hK) rfl hl.1 rfl (Nat.le_of_ble_eq_true rfl) dL_factors_146 ⟨Nat.zero_le _, Nat.zero_le _⟩ (fun r146 hr146 => ?_)
                obtain rfl := hr146
                rw [q7]
                refine lv_istore (lv' := [(12, .int (zI bo)), (11, .int (zI pe)), (10, .int (zI la)), (9, .int (zI fi)), (8, .int (zI ti)), (7, .int (zI m7)), (6, .int (zI j6)), (5, .int (zI i5)), (0, .ref (ad 16)), (1, .int (zI y)), (2, .int (zI n)), (3, .int (zI 1)), (4, .int (zI k))]) hx hb dL_factors_149 hl (by decide) rfl (fun ls hl => ?_)
                refine lv_aload_n hx hb dL_factors_151 rfl (lv_at hl 8 rfl) ?_
                refine lv_iload hx hb dL_factors_152 (lv_at hl 7 rfl) ?_
                refine lv_iload hx hb dL_factors_154 (lv_at hl 6 rfl) ?_
                refine zv_iconst hx hb dL_factors_156 ?_
                refine zc_V (As := [.int (zI i5), .int (zI j6), .int (zI 3)]) (rest := []) S hK (kX9_factor l g ad w n ee en hc u un hs tc tn i5 j6 3 (by omega) (by omega) (by omega)) (cwV 3 hts gL_factors_X9_factor rfl rfl rfl (by decide +kernel) ⟨Nat.le_of_ble_eq_true rfl, Nat.le_of_ble_eq_true rfl⟩) (hpic) (hX.recvx hK) rfl hl.1 rfl (Nat.le_of_ble_eq_true rfl) dL_factors_157 ⟨Nat.zero_le _, Nat.zero_le _⟩ (fun r157 hr157 => ?_)
                obtain rfl := hr157
                rw [q3]
                refine lv_istore (lv' := [(13, .int (zI lo)), (12, .int (zI bo)), (11, .int (zI pe)), (10, .int (zI la)), (9, .int (zI fi)), (8, .int (zI ti)), (7, .int (zI m7)), (6, .int (zI j6)), (5, .int (zI i5)), (0, .ref (ad 16)), (1, .int (zI y)), (2, .int (zI n)), (3, .int (zI 1)), (4, .int (zI k))]) hx hb dL_factors_160 hl (by decide) rfl (fun ls hl => ?_)
                refine lv_aload_n hx hb dL_factors_162 rfl (lv_at hl 9 rfl) ?_
                refine lv_iload hx hb dL_factors_163 (lv_at hl 8 rfl) ?_
                refine lv_iload hx hb dL_factors_165 (lv_at hl 7 rfl) ?_
                refine zv_iconst hx hb dL_factors_167 ?_
                refine zc_V (As := [.int (zI i5), .int (zI j6), .int (zI 4)]) (rest := []) S hK (kX9_factor l g ad w n ee en hc u un hs tc tn i5 j6 4 (by omega) (by omega) (by omega)) (cwV 3 hts gL_factors_X9_factor rfl rfl rfl (by decide +kernel) ⟨Nat.le_of_ble_eq_true rfl, Nat.le_of_ble_eq_true rfl⟩) (hpic) (hX.recvx hK) rfl hl.1 rfl (Nat.le_of_ble_eq_true rfl) dL_factors_168 ⟨Nat.zero_le _, Nat.zero_le _⟩ (fun r168 hr168 => ?_)
                obtain rfl := hr168
                rw [q4]
                refine lv_istore (lv' := [(14, .int (zI sh)), (13, .int (zI lo)), (12, .int (zI bo)), (11, .int (zI pe)), (10, .int (zI la)), (9, .int (zI fi)), (8, .int (zI ti)), (7, .int (zI m7)), (6, .int (zI j6)), (5, .int (zI i5)), (0, .ref (ad 16)), (1, .int (zI y)), (2, .int (zI n)), (3, .int (zI 1)), (4, .int (zI k))]) hx hb dL_factors_171 hl (by decide) rfl (fun ls hl => ?_)
                refine lv_iload hx hb dL_factors_173 (lv_at hl 6 rfl) ?_
                refine zv_if_le (tgt := 462) hx hb dL_factors_175 (by decide) (by omega) (fun c175 => ?_) (fun c175 => ?_)
                · exfalso; omega
                · refine lv_iload hx hb dL_factors_178 (lv_at hl 5 rfl) ?_
                  refine lv_iload hx hb dL_factors_180 (lv_at hl 8 rfl) ?_
                  refine zv_icmp_gt (tgt := 462) hx hb dL_factors_182 (by decide) (by omega) (by omega) (fun c182 => ?_) (fun c182 => ?_)
                  · exfalso; omega
                  · refine lv_iload hx hb dL_factors_185 (lv_at hl 4 rfl) ?_
                    refine lv_iload hx hb dL_factors_187 (lv_at hl 8 rfl) ?_
                    refine zv_icmp_lt (tgt := 462) hx hb dL_factors_189 (by decide) (by omega) (by omega) (fun c189 => ?_) (fun c189 => ?_)
                    · exfalso; omega
                    · have jn218 : ∀ (_ : Unit), ∀ (ls : Array Slot), lv_has ls 15 [(14, .int (zI sh)), (13, .int (zI lo)), (12, .int (zI bo)), (11, .int (zI pe)), (10, .int (zI la)), (9, .int (zI fi)), (8, .int (zI ti)), (7, .int (zI m7)), (6, .int (zI j6)), (5, .int (zI i5)), (0, .ref (ad 16)), (1, .int (zI y)), (2, .int (zI n)), (3, .int (zI 1)), (4, .int (zI k))] → W p l e (zRm 7 164) s m args below meth c s.heap [] 0 0 (MQ below (vp_Si (fun r => r = zI 1)) args s 0 0 (fun _ => False)) (F0 m 218 ls []) := by
                        intro _  ls hl
                        refine lv_aload_n hx hb dL_factors_218 rfl (lv_at hl 10 rfl) ?_
                        refine lv_iload hx hb dL_factors_219 (lv_at hl 9 rfl) ?_
                        refine lv_iload hx hb dL_factors_221 (lv_at hl 5 rfl) ?_
                        refine lv_iload hx hb dL_factors_223 (lv_at hl 7 rfl) ?_
                        refine zv_isub hx hb dL_factors_225 ?_
                        refine lv_iload hx hb dL_factors_226 (lv_at hl 7 rfl) ?_
                        refine zc_S (As := [.ref (ad 16), .int (zI i5), .int (zI (fi - m7)), .int (zI m7)]) (rest := []) S hK (kL_same l g ad w n ee en hc u un hs tc tn i5 (fi - m7) m7 (by omega)) (va_cwS 4 hts gL_factors_L_same rfl rfl rfl (by decide +kernel) ⟨Nat.le_of_ble_eq_true rfl, Nat.le_of_ble_eq_true rfl⟩) (hpic) rfl hl.1 rfl (Nat.le_of_ble_eq_true rfl) dL_factors_228 ⟨Nat.zero_le _, Nat.zero_le _⟩ (fun r228 hr228 => ?_)
                        obtain rfl := hr228
                        rw [zB_t gs1]
                        refine zv_if_eq (tgt := 462) hx hb dL_factors_231 (by decide) (by omega) (fun c231 => ?_) (fun c231 => ?_)
                        · exfalso; omega
                        · refine lv_aload_n hx hb dL_factors_234 rfl (lv_at hl 10 rfl) ?_
                          refine lv_iload hx hb dL_factors_235 (lv_at hl 9 rfl) ?_
                          refine lv_iload hx hb dL_factors_237 (lv_at hl 4 rfl) ?_
                          refine lv_iload hx hb dL_factors_239 (lv_at hl 7 rfl) ?_
                          refine zv_isub hx hb dL_factors_241 ?_
                          refine lv_iload hx hb dL_factors_242 (lv_at hl 7 rfl) ?_
                          refine zc_S (As := [.ref (ad 16), .int (zI i5), .int (zI (la - m7)), .int (zI m7)]) (rest := []) S hK (kL_same l g ad w n ee en hc u un hs tc tn i5 (la - m7) m7 (by omega)) (va_cwS 4 hts gL_factors_L_same rfl rfl rfl (by decide +kernel) ⟨Nat.le_of_ble_eq_true rfl, Nat.le_of_ble_eq_true rfl⟩) (hpic) rfl hl.1 rfl (Nat.le_of_ble_eq_true rfl) dL_factors_244 ⟨Nat.zero_le _, Nat.zero_le _⟩ (fun r244 hr244 => ?_)
                          obtain rfl := hr244
                          rw [zB_t gs2]
                          refine zv_if_eq (tgt := 462) hx hb dL_factors_247 (by decide) (by omega) (fun c247 => ?_) (fun c247 => ?_)
                          · exfalso; omega
                          · refine lv_iload hx hb dL_factors_250 (lv_at hl 3 rfl) ?_
                            refine lv_iload hx hb dL_factors_252 (lv_at hl 2 rfl) ?_
                            refine zv_iadd hx hb dL_factors_254 ?_
                            refine lv_iload hx hb dL_factors_255 (lv_at hl 7 rfl) ?_
                            refine zv_icmp_ne (tgt := 462) hx hb dL_factors_257 (by decide) (by omega) (by omega) (fun c257 => ?_) (fun c257 => ?_)
                            · exfalso; omega
                            · refine lv_iload hx hb dL_factors_260 (lv_at hl 3 rfl) ?_
                              refine zv_if_le (tgt := 462) hx hb dL_factors_262 (by decide) (by omega) (fun c262 => ?_) (fun c262 => ?_)
                              · exfalso; omega
                              · refine lv_aload_n hx hb dL_factors_265 rfl (lv_at hl 10 rfl) ?_
                                refine lv_iload hx hb dL_factors_266 (lv_at hl 9 rfl) ?_
                                refine lv_iload hx hb dL_factors_268 (lv_at hl 8 rfl) ?_
                                refine lv_iload hx hb dL_factors_270 (lv_at hl 2 rfl) ?_
                                refine zv_isub hx hb dL_factors_272 ?_
                                refine lv_iload hx hb dL_factors_273 (lv_at hl 2 rfl) ?_
                                refine zc_S (As := [.ref (ad 16), .int (zI i5), .int (zI (j6 - bo)), .int (zI bo)]) (rest := []) S hK (kL_same l g ad w n ee en hc u un hs tc tn i5 (j6 - bo) bo (by omega)) (va_cwS 4 hts gL_factors_L_same rfl rfl rfl (by decide +kernel) ⟨Nat.le_of_ble_eq_true rfl, Nat.le_of_ble_eq_true rfl⟩) (hpic) rfl hl.1 rfl (Nat.le_of_ble_eq_true rfl) dL_factors_275 ⟨Nat.zero_le _, Nat.zero_le _⟩ (fun r275 hr275 => ?_)
                                obtain rfl := hr275
                                rw [zB_t gs3]
                                refine zv_if_eq (tgt := 462) hx hb dL_factors_278 (by decide) (by omega) (fun c278 => ?_) (fun c278 => ?_)
                                · exfalso; omega
                                · refine lv_iload hx hb dL_factors_281 (lv_at hl 1 rfl) ?_
                                  refine lv_iload hx hb dL_factors_283 (lv_at hl 7 rfl) ?_
                                  refine zv_icmp_lt (tgt := 462) hx hb dL_factors_285 (by decide) (by omega) (by omega) (fun c285 => ?_) (fun c285 => ?_)
                                  · exfalso; omega
                                  · refine lv_iload hx hb dL_factors_288 (lv_at hl 0 rfl) ?_
                                    refine lv_iload hx hb dL_factors_290 (lv_at hl 7 rfl) ?_
                                    refine zv_icmp_gt (tgt := 462) hx hb dL_factors_292 (by decide) (by omega) (by omega) (fun c292 => ?_) (fun c292 => ?_)
                                    · exfalso; omega
                                    · refine lv_aload_n hx hb dL_factors_295 rfl (lv_at hl 10 rfl) ?_
                                      refine lv_iload hx hb dL_factors_296 (lv_at hl 9 rfl) ?_
                                      refine lv_iload hx hb dL_factors_298 (lv_at hl 8 rfl) ?_
                                      refine zv_iconst hx hb dL_factors_300 ?_
                                      refine zc_V (As := [.int (zI i5), .int (zI j6), .int (zI 5)]) (rest := []) S hK (kX9_factor l g ad w n ee en hc u un hs tc tn i5 j6 5 (by omega) (by omega) (by omega)) (cwV 3 hts gL_factors_X9_factor rfl rfl rfl (by decide +kernel) ⟨Nat.le_of_ble_eq_true rfl, Nat.le_of_ble_eq_true rfl⟩) (hpic) (hX.recvx hK) rfl hl.1 rfl (Nat.le_of_ble_eq_true rfl) dL_factors_301 ⟨Nat.zero_le _, Nat.zero_le _⟩ (fun r301 hr301 => ?_)
                                      obtain rfl := hr301
                                      rw [q5]
                                      refine lv_iload hx hb dL_factors_304 (lv_at hl 0 rfl) ?_
                                      refine zv_iconst hx hb dL_factors_306 ?_
                                      refine zv_isub hx hb dL_factors_307 ?_
                                      refine zv_icmp_ne (tgt := 462) hx hb dL_factors_308 (by decide) (by omega) (by omega) (fun c308 => ?_) (fun c308 => ?_)
                                      · exfalso; omega
                                      · refine lv_aload_n hx hb dL_factors_311 rfl (lv_at hl 10 rfl) ?_
                                        refine lv_iload hx hb dL_factors_312 (lv_at hl 9 rfl) ?_
                                        refine lv_iload hx hb dL_factors_314 (lv_at hl 8 rfl) ?_
                                        refine zv_bipush hx hb dL_factors_316 (by decide +kernel) ?_
                                        refine zc_V (As := [.int (zI i5), .int (zI j6), .int (zI 8)]) (rest := []) S hK (kX9_factor l g ad w n ee en hc u un hs tc tn i5 j6 8 (by omega) (by omega) (by omega)) (cwV 3 hts gL_factors_X9_factor rfl rfl rfl (by decide +kernel) ⟨Nat.le_of_ble_eq_true rfl, Nat.le_of_ble_eq_true rfl⟩) (hpic) (hX.recvx hK) rfl hl.1 rfl (Nat.le_of_ble_eq_true rfl) dL_factors_318 ⟨Nat.zero_le _, Nat.zero_le _⟩ (fun r318 hr318 => ?_)
                                        obtain rfl := hr318
                                        rw [q8]
                                        refine lv_iload hx hb dL_factors_321 (lv_at hl 7 rfl) ?_
                                        refine lv_iload hx hb dL_factors_323 (lv_at hl 3 rfl) ?_
                                        refine zv_irem hx hb dL_factors_325 (by omega) (by omega) ?_
                                        have jn344 : ∀ (_ : Unit), ∀ (ls : Array Slot), lv_has ls 15 [(14, .int (zI sh)), (13, .int (zI lo)), (12, .int (zI bo)), (11, .int (zI pe)), (10, .int (zI la)), (9, .int (zI fi)), (8, .int (zI ti)), (7, .int (zI m7)), (6, .int (zI j6)), (5, .int (zI i5)), (0, .ref (ad 16)), (1, .int (zI y)), (2, .int (zI n)), (3, .int (zI 1)), (4, .int (zI k))] → W p l e (zRm 7 164) s m args below meth c s.heap [] 0 0 (MQ below (vp_Si (fun r => r = zI 1)) args s 0 0 (fun _ => False)) (F0 m 344 ls []) := by
                                          intro _  ls hl
                                          refine lv_aload_n hx hb dL_factors_344 rfl (lv_at hl 10 rfl) ?_
                                          refine lv_iload hx hb dL_factors_345 (lv_at hl 9 rfl) ?_
                                          refine lv_iload hx hb dL_factors_347 (lv_at hl 8 rfl) ?_
                                          refine zv_bipush hx hb dL_factors_349 (by decide +kernel) ?_
                                          refine zc_V (As := [.int (zI i5), .int (zI j6), .int (zI 9)]) (rest := []) S hK (kX9_factor l g ad w n ee en hc u un hs tc tn i5 j6 9 (by omega) (by omega) (by omega)) (cwV 3 hts gL_factors_X9_factor rfl rfl rfl (by decide +kernel) ⟨Nat.le_of_ble_eq_true rfl, Nat.le_of_ble_eq_true rfl⟩) (hpic) (hX.recvx hK) rfl hl.1 rfl (Nat.le_of_ble_eq_true rfl) dL_factors_351 ⟨Nat.zero_le _, Nat.zero_le _⟩ (fun r351 hr351 => ?_)
                                          obtain rfl := hr351
                                          rw [q9]
                                          refine zv_bipush hx hb dL_factors_354 (by decide +kernel) ?_
                                          refine lv_iload hx hb dL_factors_356 (lv_at hl 7 rfl) ?_
                                          refine zv_imul hx hb dL_factors_358 ?_
                                          refine lv_iload hx hb dL_factors_359 (lv_at hl 3 rfl) ?_
                                          refine zv_idiv hx hb dL_factors_361 (by omega) (by omega) ?_
                                          refine zv_icmp_ne (tgt := 462) hx hb dL_factors_362 (by decide) (by omega) (by omega) (fun c362 => ?_) (fun c362 => ?_)
                                          · exfalso; omega
                                          · refine lv_iload hx hb dL_factors_365 (lv_at hl 8 rfl) ?_
                                            refine lv_iload hx hb dL_factors_367 (lv_at hl 1 rfl) ?_
                                            refine zv_isub hx hb dL_factors_369 ?_
                                            refine zv_if_lt (tgt := 462) hx hb dL_factors_370 (by decide) (by omega) (fun c370 => ?_) (fun c370 => ?_)
                                            · exfalso; omega
                                            · refine lv_aload_n hx hb dL_factors_373 rfl (lv_at hl 10 rfl) ?_
                                              refine lv_iload hx hb dL_factors_374 (lv_at hl 8 rfl) ?_
                                              refine lv_iload hx hb dL_factors_376 (lv_at hl 1 rfl) ?_
                                              refine zv_isub hx hb dL_factors_378 ?_
                                              refine lv_iload hx hb dL_factors_379 (lv_at hl 8 rfl) ?_
                                              refine zv_iconst hx hb dL_factors_381 ?_
                                              refine zc_V (As := [.int (zI (j6 - lo)), .int (zI j6), .int (zI 0)]) (rest := []) S hK (kX9_factor l g ad w n ee en hc u un hs tc tn (j6 - lo) j6 0 (by omega) (by omega) (by omega)) (cwV 3 hts gL_factors_X9_factor rfl rfl rfl (by decide +kernel) ⟨Nat.le_of_ble_eq_true rfl, Nat.le_of_ble_eq_true rfl⟩) (hpic) (hX.recvx hK) rfl hl.1 rfl (Nat.le_of_ble_eq_true rfl) dL_factors_382 ⟨Nat.zero_le _, Nat.zero_le _⟩ (fun r382 hr382 => ?_)
                                              obtain rfl := hr382
                                              rw [gx1]
                                              refine lv_iload hx hb dL_factors_385 (lv_at hl 6 rfl) ?_
                                              refine zv_icmp_ne (tgt := 462) hx hb dL_factors_387 (by decide) (by omega) (by omega) (fun c387 => ?_) (fun c387 => ?_)
                                              · exfalso; omega
                                              · refine lv_aload_n hx hb dL_factors_390 rfl (lv_at hl 10 rfl) ?_
                                                refine lv_iload hx hb dL_factors_391 (lv_at hl 8 rfl) ?_
                                                refine lv_iload hx hb dL_factors_393 (lv_at hl 0 rfl) ?_
                                                refine zv_isub hx hb dL_factors_395 ?_
                                                refine lv_iload hx hb dL_factors_396 (lv_at hl 8 rfl) ?_
                                                refine zv_iconst hx hb dL_factors_398 ?_
                                                refine zc_V (As := [.int (zI (j6 - sh)), .int (zI j6), .int (zI 0)]) (rest := []) S hK (kX9_factor l g ad w n ee en hc u un hs tc tn (j6 - sh) j6 0 (by omega) (by omega) (by omega)) (cwV 3 hts gL_factors_X9_factor rfl rfl rfl (by decide +kernel) ⟨Nat.le_of_ble_eq_true rfl, Nat.le_of_ble_eq_true rfl⟩) (hpic) (hX.recvx hK) rfl hl.1 rfl (Nat.le_of_ble_eq_true rfl) dL_factors_399 ⟨Nat.zero_le _, Nat.zero_le _⟩ (fun r399 hr399 => ?_)
                                                obtain rfl := hr399
                                                rw [gx2]
                                                refine lv_iload hx hb dL_factors_402 (lv_at hl 6 rfl) ?_
                                                refine zv_icmp_ne (tgt := 462) hx hb dL_factors_404 (by decide) (by omega) (by omega) (fun c404 => ?_) (fun c404 => ?_)
                                                · exfalso; omega
                                                · have jn432 : ∀ (_ : Unit), ∀ (ls : Array Slot), lv_has ls 15 [(14, .int (zI sh)), (13, .int (zI lo)), (12, .int (zI bo)), (11, .int (zI pe)), (10, .int (zI la)), (9, .int (zI fi)), (8, .int (zI ti)), (7, .int (zI m7)), (6, .int (zI j6)), (5, .int (zI i5)), (0, .ref (ad 16)), (1, .int (zI y)), (2, .int (zI n)), (3, .int (zI 1)), (4, .int (zI k))] → W p l e (zRm 7 164) s m args below meth c s.heap [] 0 0 (MQ below (vp_Si (fun r => r = zI 1)) args s 0 0 (fun _ => False)) (F0 m 432 ls []) := by
                                                    intro _  ls hl
                                                    have jn458 : ∀ (_ : Unit), ∀ (ls : Array Slot), lv_has ls 15 [(14, .int (zI sh)), (13, .int (zI lo)), (12, .int (zI bo)), (11, .int (zI pe)), (10, .int (zI la)), (9, .int (zI fi)), (8, .int (zI ti)), (7, .int (zI m7)), (6, .int (zI j6)), (5, .int (zI i5)), (0, .ref (ad 16)), (1, .int (zI y)), (2, .int (zI n)), (3, .int (zI 1)), (4, .int (zI k))] → W p l e (zRm 7 164) s m args below meth c s.heap [] 0 0 (MQ below (vp_Si (fun r => r = zI 1)) args s 0 0 (fun _ => False)) (F0 m 458 ls []) := by
                                                      intro _  ls hl
                                                      refine zv_iconst hx hb dL_factors_458 ?_
                                                      refine lv_goto (tgt := 463) hx hb dL_factors_459 (by decide) ?_
                                                      refine lv_istore_n (lv' := [(3, .int (zI 1)), (14, .int (zI sh)), (13, .int (zI lo)), (12, .int (zI bo)), (11, .int (zI pe)), (10, .int (zI la)), (9, .int (zI fi)), (8, .int (zI ti)), (7, .int (zI m7)), (6, .int (zI j6)), (5, .int (zI i5)), (0, .ref (ad 16)), (1, .int (zI y)), (2, .int (zI n)), (4, .int (zI k))]) hx hb dL_factors_463 rfl hl (by decide) rfl (fun ls hl => ?_)
                                                      refine zv_iinc (lv' := [(4, .int (zI (k + 1))), (3, .int (zI 1)), (14, .int (zI sh)), (13, .int (zI lo)), (12, .int (zI bo)), (11, .int (zI pe)), (10, .int (zI la)), (9, .int (zI fi)), (8, .int (zI ti)), (7, .int (zI m7)), (6, .int (zI j6)), (5, .int (zI i5)), (0, .ref (ad 16)), (1, .int (zI y)), (2, .int (zI n))]) hx hb dL_factors_464 hl (k := 14) rfl (by decide) rfl (fun ls hl => ?_)
                                                      refine lv_goto (tgt := 39) hx hb dL_factors_467 (by decide) ?_
                                                      exact ih39 (k + 1) (by omega) (by omega) _ (lv_sub hl [12, 13, 14, 1, 0] rfl)
                                                    refine lv_iload hx hb dL_factors_432 (lv_at hl 8 rfl) ?_
                                                    refine lv_iload hx hb dL_factors_434 (lv_at hl 1 rfl) ?_
                                                    refine zv_icmp_eq (tgt := 458) hx hb dL_factors_436 (by decide) (by omega) (by omega) (fun c436 => ?_) (fun c436 => ?_)
                                                    · exact jn458 ()  _ (lv_sub hl [0, 1, 2, 3, 4, 5, 6, 7, 8, 9, 10, 11, 12, 13, 14] rfl)
                                                    · refine lv_aload_n hx hb dL_factors_439 rfl (lv_at hl 10 rfl) ?_
                                                      refine lv_iload hx hb dL_factors_440 (lv_at hl 8 rfl) ?_
                                                      refine lv_iload hx hb dL_factors_442 (lv_at hl 1 rfl) ?_
                                                      refine zv_isub hx hb dL_factors_444 ?_
                                                      refine zv_iconst hx hb dL_factors_445 ?_
                                                      refine zv_isub hx hb dL_factors_446 ?_
                                                      refine lv_iload hx hb dL_factors_447 (lv_at hl 8 rfl) ?_
                                                      refine zv_iconst hx hb dL_factors_449 ?_
                                                      obtain ⟨gy5, gy6⟩ := gx4 (by omega)
                                                      refine zc_V (As := [.int (zI ((j6 - lo) - 1)), .int (zI j6), .int (zI 0)]) (rest := []) S hK (kX9_factor l g ad w n ee en hc u un hs tc tn ((j6 - lo) - 1) j6 0 (by omega) (by omega) (by omega)) (cwV 3 hts gL_factors_X9_factor rfl rfl rfl (by decide +kernel) ⟨Nat.le_of_ble_eq_true rfl, Nat.le_of_ble_eq_true rfl⟩) (hpic) (hX.recvx hK) rfl hl.1 rfl (Nat.le_of_ble_eq_true rfl) dL_factors_450 ⟨Nat.zero_le _, Nat.zero_le _⟩ (fun r450 hr450 => ?_)
                                                      obtain rfl := hr450
                                                      refine lv_iload hx hb dL_factors_453 (lv_at hl 6 rfl) ?_
                                                      refine zv_icmp_ge (tgt := 462) hx hb dL_factors_455 (by decide) (by omega) (by omega) (fun c455 => ?_) (fun c455 => ?_)
                                                      · exfalso; omega
                                                      · exact jn458 ()  _ (lv_sub hl [0, 1, 2, 3, 4, 5, 6, 7, 8, 9, 10, 11, 12, 13, 14] rfl)
                                                  refine lv_iload hx hb dL_factors_407 (lv_at hl 0 rfl) ?_
                                                  refine zv_iconst hx hb dL_factors_409 ?_
                                                  refine zv_icmp_eq (tgt := 432) hx hb dL_factors_410 (by decide) (by omega) (by omega) (fun c410 => ?_) (fun c410 => ?_)
                                                  · exact jn432 ()  _ (lv_sub hl [0, 1, 2, 3, 4, 5, 6, 7, 8, 9, 10, 11, 12, 13, 14] rfl)
                                                  · refine lv_aload_n hx hb dL_factors_413 rfl (lv_at hl 10 rfl) ?_
                                                    refine lv_iload hx hb dL_factors_414 (lv_at hl 8 rfl) ?_
                                                    refine lv_iload hx hb dL_factors_416 (lv_at hl 0 rfl) ?_
                                                    refine zv_isub hx hb dL_factors_418 ?_
                                                    refine zv_iconst hx hb dL_factors_419 ?_
                                                    refine zv_iadd hx hb dL_factors_420 ?_
                                                    refine lv_iload hx hb dL_factors_421 (lv_at hl 8 rfl) ?_
                                                    refine zv_iconst hx hb dL_factors_423 ?_
                                                    obtain ⟨gy2, gy3⟩ := gx3 (by omega)
                                                    refine zc_V (As := [.int (zI ((j6 - sh) + 1)), .int (zI j6), .int (zI 0)]) (rest := []) S hK (kX9_factor l g ad w n ee en hc u un hs tc tn ((j6 - sh) + 1) j6 0 (by omega) (by omega) (by omega)) (cwV 3 hts gL_factors_X9_factor rfl rfl rfl (by decide +kernel) ⟨Nat.le_of_ble_eq_true rfl, Nat.le_of_ble_eq_true rfl⟩) (hpic) (hX.recvx hK) rfl hl.1 rfl (Nat.le_of_ble_eq_true rfl) dL_factors_424 ⟨Nat.zero_le _, Nat.zero_le _⟩ (fun r424 hr424 => ?_)
                                                    obtain rfl := hr424
                                                    refine lv_iload hx hb dL_factors_427 (lv_at hl 6 rfl) ?_
                                                    refine zv_icmp_le (tgt := 462) hx hb dL_factors_429 (by decide) (by omega) (by omega) (fun c429 => ?_) (fun c429 => ?_)
                                                    · exfalso; omega
                                                    · exact jn432 ()  _ (lv_sub hl [0, 1, 2, 3, 4, 5, 6, 7, 8, 9, 10, 11, 12, 13, 14] rfl)
                                        refine zv_if_ne (tgt := 340) hx hb dL_factors_326 (by decide) (by omega) (fun c326 => ?_) (fun c326 => ?_)
                                        · refine zv_iconst hx hb dL_factors_340 ?_
                                          refine zv_icmp_ne (tgt := 462) hx hb dL_factors_341 (by decide) (by omega) (by omega) (fun c341 => ?_) (fun c341 => ?_)
                                          · exfalso; omega
                                          · exact jn344 ()  _ (lv_sub hl [0, 1, 2, 3, 4, 5, 6, 7, 8, 9, 10, 11, 12, 13, 14] rfl)
                                        · refine lv_iload hx hb dL_factors_329 (lv_at hl 3 rfl) ?_
                                          refine lv_iload hx hb dL_factors_331 (lv_at hl 7 rfl) ?_
                                          refine zv_icmp_ge (tgt := 340) hx hb dL_factors_333 (by decide) (by omega) (by omega) (fun c333 => ?_) (fun c333 => ?_)
                                          · refine zv_iconst hx hb dL_factors_340 ?_
                                            refine zv_icmp_ne (tgt := 462) hx hb dL_factors_341 (by decide) (by omega) (by omega) (fun c341 => ?_) (fun c341 => ?_)
                                            · exfalso; omega
                                            · exact jn344 ()  _ (lv_sub hl [0, 1, 2, 3, 4, 5, 6, 7, 8, 9, 10, 11, 12, 13, 14] rfl)
                                          · refine zv_iconst hx hb dL_factors_336 ?_
                                            refine lv_goto (tgt := 341) hx hb dL_factors_337 (by decide) ?_
                                            refine zv_icmp_ne (tgt := 462) hx hb dL_factors_341 (by decide) (by omega) (by omega) (fun c341 => ?_) (fun c341 => ?_)
                                            · exfalso; omega
                                            · exact jn344 ()  _ (lv_sub hl [0, 1, 2, 3, 4, 5, 6, 7, 8, 9, 10, 11, 12, 13, 14] rfl)
                      refine lv_iload hx hb dL_factors_192 (lv_at hl 6 rfl) ?_
                      refine zv_iconst hx hb dL_factors_194 ?_
                      refine zv_icmp_ne (tgt := 202) hx hb dL_factors_195 (by decide) (by omega) (by omega) (fun c195 => ?_) (fun c195 => ?_)
                      · refine zv_iconst hx hb dL_factors_202 ?_
                        refine lv_iload hx hb dL_factors_203 (lv_at hl 5 rfl) ?_
                        refine lv_iload hx hb dL_factors_205 (lv_at hl 4 rfl) ?_
                        refine zv_icmp_ne (tgt := 214) hx hb dL_factors_207 (by decide) (by omega) (by omega) (fun c207 => ?_) (fun c207 => ?_)
                        · refine zv_iconst hx hb dL_factors_214 ?_
                          refine zv_icmp_ne (tgt := 462) hx hb dL_factors_215 (by decide) (by omega) (by omega) (fun c215 => ?_) (fun c215 => ?_)
                          · exfalso; omega
                          · exact jn218 ()  _ (lv_sub hl [0, 1, 2, 3, 4, 5, 6, 7, 8, 9, 10, 11, 12, 13, 14] rfl)
                        · refine zv_iconst hx hb dL_factors_210 ?_
                          refine lv_goto (tgt := 215) hx hb dL_factors_211 (by decide) ?_
                          refine zv_icmp_ne (tgt := 462) hx hb dL_factors_215 (by decide) (by omega) (by omega) (fun c215 => ?_) (fun c215 => ?_)
                          · exfalso; omega
                          · exact jn218 ()  _ (lv_sub hl [0, 1, 2, 3, 4, 5, 6, 7, 8, 9, 10, 11, 12, 13, 14] rfl)
                      · refine zv_iconst hx hb dL_factors_198 ?_
                        refine lv_goto (tgt := 203) hx hb dL_factors_199 (by decide) ?_
                        refine lv_iload hx hb dL_factors_203 (lv_at hl 5 rfl) ?_
                        refine lv_iload hx hb dL_factors_205 (lv_at hl 4 rfl) ?_
                        refine zv_icmp_ne (tgt := 214) hx hb dL_factors_207 (by decide) (by omega) (by omega) (fun c207 => ?_) (fun c207 => ?_)
                        · refine zv_iconst hx hb dL_factors_214 ?_
                          refine zv_icmp_ne (tgt := 462) hx hb dL_factors_215 (by decide) (by omega) (by omega) (fun c215 => ?_) (fun c215 => ?_)
                          · exfalso; omega
                          · exact jn218 ()  _ (lv_sub hl [0, 1, 2, 3, 4, 5, 6, 7, 8, 9, 10, 11, 12, 13, 14] rfl)
                        · refine zv_iconst hx hb dL_factors_210 ?_
                          refine lv_goto (tgt := 215) hx hb dL_factors_211 (by decide) ?_
                          refine zv_icmp_ne (tgt := 462) hx hb dL_factors_215 (by decide) (by omega) (by omega) (fun c215 => ?_) (fun c215 => ?_)
                          · exfalso; omega
                          · exact jn218 ()  _ (lv_sub hl [0, 1, 2, 3, 4, 5, 6, 7, 8, 9, 10, 11, 12, 13, 14] rfl)
      exact lp39 _ 0 (by omega) (Nat.lt_succ_self _) _ (lv_sub hl [3, 4, 2, 1, 0] rfl)

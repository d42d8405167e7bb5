theorem mL_cell_0 : (Cond.constant RL 7 (45007)) ∈ wsL_cell := by decide +kernel
theorem mL_cell_1 : (Cond.constant RL 8 (2147483647)) ∈ wsL_cell := by decide +kernel
set_option maxHeartbeats 4000000 in
set_option maxRecDepth 100000 in
theorem kL_cell (l : Launch) (g : zG) (b L : Nat) (xs : Nat → Int32) (hL : L ≤ 260) (k : Int) (hk : 0 ≤ k ∧ k < 100) : Met l yL_cell wsL_cell (zRm 0 0) (zPx g [.ref b, .int (zI k)] b L xs) (vp_Si (fun r => ∃ z : Int, r = zI z ∧ 0 ≤ z ∧ z < 2147483648)) 0 0 (fun _ => False) := by
  refine Met.ofZx (cc := cL_cell) (maxL := 2) (ret := (some .int)) (by decide) rfl (Nat.le_of_ble_eq_true rfl) ?_
  intro p e s m args below meth c ls hx hb hr hlocks S hin hK hX hl
  have hown := S.2.2.2.1
  have hts := S.2.2.2.2
  have hl : lv_has ls 2 [(0, .ref b), (1, .int (zI k))] := hl
  have hS : va_S (fun _ => False) s.heap s.heap [] := va_S.rf
  have hbl : b < s.heap.size := by
    obtain ⟨scr, h1, -⟩ := hX
    exact (Array.getElem?_eq_some_iff.mp h1).1
  refine lv_iload_n hx hb dL_cell_0 rfl (lv_at hl 1 rfl) ?_
  refine lv_aload_n hx hb dL_cell_1 rfl (lv_at hl 0 rfl) ?_
  refine va_slen hx hb hX hbl id hS dL_cell_2 ?_
  rw [zI_nat]
  refine zv_icmp_ge (tgt := 12) hx hb dL_cell_3 (by decide) (by omega) (by omega) (fun c3 => ?_) (fun c3 => ?_)
  · refine lv_ldc (own := RL) (v := zI 45007) hx hb hown (hts _ mL_cell_0) dL_cell_12 ?_
    refine lv_iload_n hx hb dL_cell_14 rfl (lv_at hl 1 rfl) ?_
    refine zv_sipush hx hb dL_cell_15 (by decide +kernel) ?_
    refine zv_irem hx hb dL_cell_18 (by omega) (by omega) ?_
    refine zv_imul hx hb dL_cell_19 ?_
    refine zv_sipush hx hb dL_cell_20 (by decide +kernel) ?_
    refine zv_iadd hx hb dL_cell_23 ?_
    refine lv_ldc (own := RL) (v := zI 2147483647) hx hb hown (hts _ mL_cell_1) dL_cell_24 ?_
    refine lv_iand hx hb dL_cell_26 ?_
    obtain ⟨z, ez, bz0, bz1⟩ := zAnd31 (zI ((45007 * (k % 4096)) + 257))
    rw [ez]
    exact zr_i hx hb hr hlocks dL_cell_27 (⟨z, rfl, bz0, bz1⟩)
  · refine lv_aload_n hx hb dL_cell_6 rfl (lv_at hl 0 rfl) ?_
    refine lv_iload_n hx hb dL_cell_7 rfl (lv_at hl 1 rfl) ?_
    refine va_sld hx hb hX hbl id hS (i := zI k) (zI_in (by omega) (by omega)) dL_cell_8 ?_
    obtain ⟨a8, ea8, ba8⟩ := zI_of (xs (zI k).toNatClampNeg)
    rw [ea8]
    refine lv_goto (tgt := 24) hx hb dL_cell_9 (by decide) ?_
    refine lv_ldc (own := RL) (v := zI 2147483647) hx hb hown (hts _ mL_cell_1) dL_cell_24 ?_
    refine lv_iand hx hb dL_cell_26 ?_
    obtain ⟨z, ez, bz0, bz1⟩ := zAnd31 (zI a8)
    rw [ez]
    exact zr_i hx hb hr hlocks dL_cell_27 (⟨z, rfl, bz0, bz1⟩)

set_option maxHeartbeats 4000000 in
set_option maxRecDepth 100000 in
/-- same -/
theorem kL_same (l : Launch) (g : zG) (ad : Nat → Nat) (w : Int → Int) (n : Int) (ee : Nat → Int → Int) (en : Nat → Int) (hc : Int) (u : Int → Int) (un hs : Int) (tc : Int → Int) (tn : Int) (a b mm : Int) (hab : (-1000 ≤ a ∧ a ≤ 1000) ∧ (-1000 ≤ b ∧ b ≤ 1000) ∧ -1000 ≤ mm ∧ mm ≤ 1000) : Met l yL_same wsL_same (zRm 6 139) (zP g [.ref (ad 16), .int (zI a), .int (zI b), .int (zI mm)] (AX g ad w n ee en hc u un hs tc tn)) (vp_Si (fun r => r = zI (zB (zSameP w n a b mm)))) 0 0 (fun _ => False) := by
  refine Met.ofZ (cc := cL_same) (maxL := 6) (ret := (some .boolean)) (by decide) rfl (Nat.le_of_ble_eq_true rfl) ?_
  intro p e s m args below meth c ls hx hb hr hlocks S hin hK hpic hl
  have hown := S.2.2.2.1
  have hts := S.2.2.2.2
  have hl : lv_has ls 6 [(0, .ref (ad 16)), (1, .int (zI a)), (2, .int (zI b)), (3, .int (zI mm))] := hl
  obtain ⟨d, dn, u9, un9, hf, hn, v, vn, nx, pf, ig, bp, hX, hsn, hrg⟩ := id hpic
  have hg := hX.grg
  have hn0 := hX.gw.1
  have hd0 := hX.gd.1
  have hu0 := hX.gu.1
  have hv0 := hX.gv.1
  have ht0 := hX.gt.1
  have hw := hX.gw.2.1
  refine zv_iconst hx hb dL_same_0 ?_
  refine lv_istore (lv' := [(4, .int (zI 1)), (0, .ref (ad 16)), (1, .int (zI a)), (2, .int (zI b)), (3, .int (zI mm))]) hx hb dL_same_1 hl (by decide) rfl (fun ls hl => ?_)
  refine zv_iconst hx hb dL_same_3 ?_
  refine lv_istore (lv' := [(5, .int (zI 0)), (4, .int (zI 1)), (0, .ref (ad 16)), (1, .int (zI a)), (2, .int (zI b)), (3, .int (zI mm))]) hx hb dL_same_4 hl (by decide) rfl (fun ls hl => ?_)
  have lp6 : ∀ (z_f : Nat) (x : Int) (k : Int), (0 ≤ k ∧ (k ≤ mm ∨ k = 0)) → (0 ≤ x ∧ x ≤ 1) → (x = zB (zSameP w n a b k)) → ((mm - k).toNat) < z_f → ∀ (ls : Array Slot), lv_has ls 6 [(0, .ref (ad 16)), (1, .int (zI a)), (2, .int (zI b)), (3, .int (zI mm)), (4, .int (zI x)), (5, .int (zI k))] → W p l e (zRm 6 139) s m args below meth c s.heap [] 0 0 (MQ below (vp_Si (fun r => r = zI (zB (zSameP w n a b mm)))) args s 0 0 (fun _ => False)) (F0 m 6 ls []) := by
    intro z_f
    induction z_f with
    | zero => intro x k h0 hx1 h1 z_m; exact absurd z_m (Nat.not_lt_zero _)
    | succ z_f ih6 =>
      intro x k h0 hx1 h1 z_m6 ls hl
      refine lv_iload hx hb dL_same_6 (lv_at hl 5 rfl) ?_
      refine lv_iload_n hx hb dL_same_8 rfl (lv_at hl 3 rfl) ?_
      refine zv_icmp_ge (tgt := 51) hx hb dL_same_9 (by decide) (by omega) (by omega) (fun c9 => ?_) (fun c9 => ?_)
      · refine lv_iload hx hb dL_same_51 (lv_at hl 4 rfl) ?_
        have ex : x = zB (zSameP w n a b mm) := by rw [h1]; exact zB_eq ⟨fun v q q1 q2 => v q q1 (by omega), fun v q q1 q2 => (show k ≤ mm ∨ k = 0 from h0.2).elim (fun c => v q q1 (by omega)) (fun c => absurd q2 (by omega))⟩
        rw [ex]
        exact zr_z hx hb hr hlocks dL_same_53 (zB_nar _) rfl
      · refine lv_iload hx hb dL_same_12 (lv_at hl 4 rfl) ?_
        refine zv_if_eq (tgt := 51) hx hb dL_same_14 (by decide) (by omega) (fun c14 => ?_) (fun c14 => ?_)
        · refine lv_iload hx hb dL_same_51 (lv_at hl 4 rfl) ?_
          have ex : x = zB (zSameP w n a b mm) := by rw [c14]; exact (zB_f (fun v => zB_0f (h1.symm.trans c14) (zSame_less v (by omega)))).symm
          rw [ex]
          exact zr_z hx hb hr hlocks dL_same_53 (zB_nar _) rfl
        · refine lv_aload_n hx hb dL_same_17 rfl (lv_at hl 0 rfl) ?_
          refine lv_iload_n hx hb dL_same_18 rfl (lv_at hl 1 rfl) ?_
          refine lv_iload hx hb dL_same_19 (lv_at hl 5 rfl) ?_
          refine zv_iadd hx hb dL_same_21 ?_
          refine zv_iconst hx hb dL_same_22 ?_
          refine zc_V (As := [.int (zI (a + k)), .int (zI 0)]) (rest := []) S hK (kX9_at l g ad w n ee en hc u un hs tc tn (a + k) 0 (by omega) (by omega)) (cwV 2 hts gL_same_X9_at rfl rfl rfl (by decide +kernel) ⟨Nat.le_of_ble_eq_true rfl, Nat.le_of_ble_eq_true rfl⟩) (hpic) (hX.recvx hK) rfl hl.1 rfl (Nat.le_of_ble_eq_true rfl) dL_same_23 ⟨Nat.zero_le _, Nat.zero_le _⟩ (fun r23 hr23 => ?_)
          obtain rfl := hr23
          have b23 := zAt0_bd (n := n) hw (a + k)
          refine lv_aload_n hx hb dL_same_26 rfl (lv_at hl 0 rfl) ?_
          refine lv_iload_n hx hb dL_same_27 rfl (lv_at hl 2 rfl) ?_
          refine lv_iload hx hb dL_same_28 (lv_at hl 5 rfl) ?_
          refine zv_iadd hx hb dL_same_30 ?_
          refine zv_iconst hx hb dL_same_31 ?_
          refine zc_V (As := [.int (zI (b + k)), .int (zI 0)]) (rest := [.int (zI (zAt w n (a + k) 0))]) S hK (kX9_at l g ad w n ee en hc u un hs tc tn (b + k) 0 (by omega) (by omega)) (cwV 2 hts gL_same_X9_at rfl rfl rfl (by decide +kernel) ⟨Nat.le_of_ble_eq_true rfl, Nat.le_of_ble_eq_true rfl⟩) (hpic) (hX.recvx hK) rfl hl.1 rfl (Nat.le_of_ble_eq_true rfl) dL_same_32 ⟨Nat.zero_le _, Nat.zero_le _⟩ (fun r32 hr32 => ?_)
          obtain rfl := hr32
          have b32 := zAt0_bd (n := n) hw (b + k)
          refine zv_icmp_ne (tgt := 42) hx hb dL_same_35 (by decide) (by omega) (by omega) (fun c35 => ?_) (fun c35 => ?_)
          · refine zv_iconst hx hb dL_same_42 ?_
            refine lv_istore (lv' := [(4, .int (zI 0)), (0, .ref (ad 16)), (1, .int (zI a)), (2, .int (zI b)), (3, .int (zI mm)), (5, .int (zI k))]) hx hb dL_same_43 hl (by decide) rfl (fun ls hl => ?_)
            refine zv_iinc (lv' := [(5, .int (zI (k + 1))), (4, .int (zI 0)), (0, .ref (ad 16)), (1, .int (zI a)), (2, .int (zI b)), (3, .int (zI mm))]) hx hb dL_same_45 hl (k := 5) rfl (by decide) rfl (fun ls hl => ?_)
            refine lv_goto (tgt := 6) hx hb dL_same_48 (by decide) ?_
            exact ih6 0 (k + 1) (by omega) (by omega) ((zB_f (fun h => c35 (h k (by omega) (by omega)))).symm) (by omega) _ (lv_sub hl [2, 3, 4, 5, 1, 0] rfl)
          · refine zv_iconst hx hb dL_same_38 ?_
            refine lv_goto (tgt := 43) hx hb dL_same_39 (by decide) ?_
            refine lv_istore (lv' := [(4, .int (zI 1)), (0, .ref (ad 16)), (1, .int (zI a)), (2, .int (zI b)), (3, .int (zI mm)), (5, .int (zI k))]) hx hb dL_same_43 hl (by decide) rfl (fun ls hl => ?_)
            refine zv_iinc (lv' := [(5, .int (zI (k + 1))), (4, .int (zI 1)), (0, .ref (ad 16)), (1, .int (zI a)), (2, .int (zI b)), (3, .int (zI mm))]) hx hb dL_same_45 hl (k := 5) rfl (by decide) rfl (fun ls hl => ?_)
            refine lv_goto (tgt := 6) hx hb dL_same_48 (by decide) ?_
            exact ih6 1 (k + 1) (by omega) (by omega) ((zB_t (zSame_next (zB_1 (by omega)) c35)).symm) (by omega) _ (lv_sub hl [2, 3, 4, 5, 1, 0] rfl)
  exact lp6 _ 1 0 (by omega) (by omega) ((zB_t (fun q q1 q2 => absurd q2 (by omega))).symm) (Nat.lt_succ_self _) _ (lv_sub hl [2, 3, 4, 5, 1, 0] rfl)

set_option maxHeartbeats 4000000 in
set_option maxRecDepth 100000 in
/-- acts -/
theorem kL_acts (l : Launch) (g : zG) (ad : Nat → Nat) (w : Int → Int) (n : Int) (ee : Nat → Int → Int) (en : Nat → Int) (hc : Int) (u : Int → Int) (un hs : Int) (tc : Int → Int) (tn : Int) (y : Int) (hy : 0 ≤ y ∧ y < 2147483648) : Met l yL_acts wsL_acts (zRm 6 132) (zP g [.ref (ad 16), .int (zI y)] (AX g ad w n ee en hc u un hs tc tn)) (zQi (fun r H => ∃ (t : Int) (σ : zSg), r = zI t ∧ AXt g ad σ H ∧ zOK (w, n, ee, en, hc, u, un, hs, tc, tn) y t σ) (zAx ad)) 0 0 (zAx ad) := by
  refine Met.ofZ (cc := cL_acts) (maxL := 3) (ret := (some .int)) (by decide) rfl (Nat.le_of_ble_eq_true rfl) ?_
  intro p e s m args below meth c ls hx hb hr hlocks S hin hK hpic hl
  have hown := S.2.2.2.1
  have hts := S.2.2.2.2
  have hl : lv_has ls 3 [(0, .ref (ad 16)), (1, .int (zI y))] := hl
  obtain ⟨d, dn, u9, un9, hf, hn, v, vn, nx, pf, ig, bp, hX, hsn, hrg⟩ := id hpic
  have hg := hX.grg
  have hn0 := hX.gw.1
  have hd0 := hX.gd.1
  have hu0 := hX.gu.1
  have hv0 := hX.gv.1
  have ht0 := hX.gt.1
  have hw := hX.gw.2.1
  have hS : va_S (zAx ad) s.heap s.heap [] := va_S.rf
  refine lv_iload_n hx hb dL_acts_0 rfl (lv_at hl 1 rfl) ?_
  refine zv_bipush hx hb dL_acts_1 (by decide +kernel) ?_
  refine zv_idiv hx hb dL_acts_3 (by omega) (by omega) ?_
  refine lv_istore_n (lv' := [(2, .int (zI (y / 16))), (0, .ref (ad 16)), (1, .int (zI y))]) hx hb dL_acts_4 rfl hl (by decide) rfl (fun ls hl => ?_)
  refine lv_iload_n hx hb dL_acts_5 rfl (lv_at hl 2 rfl) ?_
  refine zv_bipush hx hb dL_acts_6 (by decide +kernel) ?_
  refine zv_irem hx hb dL_acts_8 (by omega) (by omega) ?_
  obtain ⟨y16, e16⟩ : ∃ z : Int, z = y % 16 := ⟨_, rfl⟩
  rw [← e16]
  rcases (show y16 = 0 ∨ y16 = 1 ∨ y16 = 2 ∨ y16 = 3 ∨ y16 = 4 ∨ y16 = 5 ∨ y16 = 6 ∨ (y16 < 0 ∨ 6 < y16) by omega) with c9 | c9 | c9 | c9 | c9 | c9 | c9 | c9
  · subst c9
    refine zv_tableIn (a := 0) (tgt := 52) hx hb dL_acts_9 (by omega) (by omega) (by omega) rfl (by decide) ?_
    refine lv_aload_n hx hb dL_acts_52 rfl (lv_at hl 1 rfl) ?_
    refine zv_iconst hx hb dL_acts_53 ?_
    refine lv_iload_n hx hb dL_acts_54 rfl (lv_at hl 0 rfl) ?_
    refine zv_iconst hx hb dL_acts_55 ?_
    refine zv_irem hx hb dL_acts_56 (by omega) (by omega) ?_
    refine zv_iadd hx hb dL_acts_57 ?_
    refine zc_VWi (As := [.int (zI (1 + ((y / 16) % 4)))]) (rest := []) S hK (kX9_drop l g ad w n ee en hc u un hs tc tn (1 + ((y / 16) % 4)) (by omega)) (cwV 1 hts gL_acts_X9_drop rfl rfl rfl (by decide +kernel) ⟨Nat.le_of_ble_eq_true rfl, Nat.le_of_ble_eq_true rfl⟩) (hpic) (hX.recvx hK) rfl hl.1 rfl (Nat.le_of_ble_eq_true rfl) dL_acts_58 ⟨Nat.zero_le _, Nat.zero_le _⟩ hS (fun q h => h) (fun r58 H1 locs hp hz hk hS => ?_)
    obtain ⟨rfl, hA⟩ := hp
    exact zw_i hx hb hr hlocks hS dL_acts_61 (⟨_, _, rfl, hA, zOK_drop hn0 (by omega)⟩)
  · subst c9
    refine zv_tableIn (a := 1) (tgt := 62) hx hb dL_acts_9 (by omega) (by omega) (by omega) rfl (by decide) ?_
    refine lv_aload_n hx hb dL_acts_62 rfl (lv_at hl 1 rfl) ?_
    refine lv_iload_n hx hb dL_acts_63 rfl (lv_at hl 0 rfl) ?_
    refine zv_bipush hx hb dL_acts_64 (by decide +kernel) ?_
    refine zv_irem hx hb dL_acts_66 (by omega) (by omega) ?_
    refine lv_iload_n hx hb dL_acts_67 rfl (lv_at hl 0 rfl) ?_
    refine zv_bipush hx hb dL_acts_68 (by decide +kernel) ?_
    refine zv_idiv hx hb dL_acts_70 (by omega) (by omega) ?_
    refine zv_iconst hx hb dL_acts_71 ?_
    refine zv_irem hx hb dL_acts_72 (by omega) (by omega) ?_
    refine zc_VWi (As := [.int (zI ((y / 16) % 20)), .int (zI (((y / 16) / 32) % 3))]) (rest := []) S hK (kX9_change l g ad w n ee en hc u un hs tc tn ((y / 16) % 20) (((y / 16) / 32) % 3) (by omega) (by omega)) (cwV 2 hts gL_acts_X9_change rfl rfl rfl (by decide +kernel) ⟨Nat.le_of_ble_eq_true rfl, Nat.le_of_ble_eq_true rfl⟩) (hpic) (hX.recvx hK) rfl hl.1 rfl (Nat.le_of_ble_eq_true rfl) dL_acts_73 ⟨Nat.zero_le _, Nat.zero_le _⟩ hS (fun q h => h) (fun r73 H1 locs hp hz hk hS => ?_)
    obtain ⟨rfl, hA⟩ := hp
    exact zw_i hx hb hr hlocks hS dL_acts_76 (⟨_, _, rfl, hA, zOK_change hw (by omega)⟩)
  · subst c9
    refine zv_tableIn (a := 2) (tgt := 77) hx hb dL_acts_9 (by omega) (by omega) (by omega) rfl (by decide) ?_
    refine lv_aload_n hx hb dL_acts_77 rfl (lv_at hl 1 rfl) ?_
    refine zc_VWi (As := []) (rest := []) S hK (kX9_reverse l g ad w n ee en hc u un hs tc tn  ) (cwV 0 hts gL_acts_X9_reverse rfl rfl rfl (by decide +kernel) ⟨Nat.le_of_ble_eq_true rfl, Nat.le_of_ble_eq_true rfl⟩) (hpic) (hX.recvx hK) rfl hl.1 rfl (Nat.le_of_ble_eq_true rfl) dL_acts_78 ⟨Nat.zero_le _, Nat.zero_le _⟩ hS (fun q h => h) (fun r78 H1 locs hp hz hk hS => ?_)
    obtain ⟨rfl, hA⟩ := hp
    exact zw_i hx hb hr hlocks hS dL_acts_81 (⟨_, _, rfl, hA, zOK_reverse hn0 (by omega)⟩)
  · subst c9
    refine zv_tableIn (a := 3) (tgt := 82) hx hb dL_acts_9 (by omega) (by omega) (by omega) rfl (by decide) ?_
    refine lv_aload_n hx hb dL_acts_82 rfl (lv_at hl 1 rfl) ?_
    refine zv_iconst hx hb dL_acts_83 ?_
    refine lv_iload_n hx hb dL_acts_84 rfl (lv_at hl 0 rfl) ?_
    refine zv_iconst hx hb dL_acts_85 ?_
    refine zv_irem hx hb dL_acts_86 (by omega) (by omega) ?_
    refine zv_iadd hx hb dL_acts_87 ?_
    refine zc_VWi (As := [.int (zI (1 + ((y / 16) % 5)))]) (rest := []) S hK (kX9_turn l g ad w n ee en hc u un hs tc tn (1 + ((y / 16) % 5)) (by omega)) (cwV 1 hts gL_acts_X9_turn rfl rfl rfl (by decide +kernel) ⟨Nat.le_of_ble_eq_true rfl, Nat.le_of_ble_eq_true rfl⟩) (hpic) (hX.recvx hK) rfl hl.1 rfl (Nat.le_of_ble_eq_true rfl) dL_acts_88 ⟨Nat.zero_le _, Nat.zero_le _⟩ hS (fun q h => h) (fun r88 H1 locs hp hz hk hS => ?_)
    obtain ⟨rfl, hA⟩ := hp
    exact zw_i hx hb hr hlocks hS dL_acts_91 (⟨_, _, rfl, hA, zOK_turn hw (by omega)⟩)
  · subst c9
    refine zv_tableIn (a := 4) (tgt := 92) hx hb dL_acts_9 (by omega) (by omega) (by omega) rfl (by decide) ?_
    refine lv_aload_n hx hb dL_acts_92 rfl (lv_at hl 1 rfl) ?_
    refine lv_iload_n hx hb dL_acts_93 rfl (lv_at hl 0 rfl) ?_
    refine zv_bipush hx hb dL_acts_94 (by decide +kernel) ?_
    refine zv_irem hx hb dL_acts_96 (by omega) (by omega) ?_
    refine lv_iload_n hx hb dL_acts_97 rfl (lv_at hl 0 rfl) ?_
    refine zv_bipush hx hb dL_acts_98 (by decide +kernel) ?_
    refine zv_irem hx hb dL_acts_100 (by omega) (by omega) ?_
    refine zv_iconst hx hb dL_acts_101 ?_
    refine zv_iadd hx hb dL_acts_102 ?_
    refine lv_iload_n hx hb dL_acts_103 rfl (lv_at hl 0 rfl) ?_
    refine zv_bipush hx hb dL_acts_104 (by decide +kernel) ?_
    refine zv_idiv hx hb dL_acts_106 (by omega) (by omega) ?_
    refine zv_iconst hx hb dL_acts_107 ?_
    refine zv_irem hx hb dL_acts_108 (by omega) (by omega) ?_
    refine zv_iadd hx hb dL_acts_109 ?_
    refine zc_VWi (As := [.int (zI ((y / 16) % 8)), .int (zI ((((y / 16) % 8) + 1) + (((y / 16) / 8) % 4)))]) (rest := []) S hK (kX9_fold l g ad w n ee en hc u un hs tc tn ((y / 16) % 8) ((((y / 16) % 8) + 1) + (((y / 16) / 8) % 4)) (by omega) (by omega)) (cwV 2 hts gL_acts_X9_fold rfl rfl rfl (by decide +kernel) ⟨Nat.le_of_ble_eq_true rfl, Nat.le_of_ble_eq_true rfl⟩) (hpic) (hX.recvx hK) rfl hl.1 rfl (Nat.le_of_ble_eq_true rfl) dL_acts_110 ⟨Nat.zero_le _, Nat.zero_le _⟩ hS (fun q h => h) (fun r110 H1 locs hp hz hk hS => ?_)
    obtain ⟨rfl, hA⟩ := hp
    exact zw_i hx hb hr hlocks hS dL_acts_113 (⟨_, _, rfl, hA, zOK_fold hn0 (by omega)⟩)
  · subst c9
    refine zv_tableIn (a := 5) (tgt := 92) hx hb dL_acts_9 (by omega) (by omega) (by omega) rfl (by decide) ?_
    refine lv_aload_n hx hb dL_acts_92 rfl (lv_at hl 1 rfl) ?_
    refine lv_iload_n hx hb dL_acts_93 rfl (lv_at hl 0 rfl) ?_
    refine zv_bipush hx hb dL_acts_94 (by decide +kernel) ?_
    refine zv_irem hx hb dL_acts_96 (by omega) (by omega) ?_
    refine lv_iload_n hx hb dL_acts_97 rfl (lv_at hl 0 rfl) ?_
    refine zv_bipush hx hb dL_acts_98 (by decide +kernel) ?_
    refine zv_irem hx hb dL_acts_100 (by omega) (by omega) ?_
    refine zv_iconst hx hb dL_acts_101 ?_
    refine zv_iadd hx hb dL_acts_102 ?_
    refine lv_iload_n hx hb dL_acts_103 rfl (lv_at hl 0 rfl) ?_
    refine zv_bipush hx hb dL_acts_104 (by decide +kernel) ?_
    refine zv_idiv hx hb dL_acts_106 (by omega) (by omega) ?_
    refine zv_iconst hx hb dL_acts_107 ?_
    refine zv_irem hx hb dL_acts_108 (by omega) (by omega) ?_
    refine zv_iadd hx hb dL_acts_109 ?_
    refine zc_VWi (As := [.int (zI ((y / 16) % 8)), .int (zI ((((y / 16) % 8) + 1) + (((y / 16) / 8) % 4)))]) (rest := []) S hK (kX9_fold l g ad w n ee en hc u un hs tc tn ((y / 16) % 8) ((((y / 16) % 8) + 1) + (((y / 16) / 8) % 4)) (by omega) (by omega)) (cwV 2 hts gL_acts_X9_fold rfl rfl rfl (by decide +kernel) ⟨Nat.le_of_ble_eq_true rfl, Nat.le_of_ble_eq_true rfl⟩) (hpic) (hX.recvx hK) rfl hl.1 rfl (Nat.le_of_ble_eq_true rfl) dL_acts_110 ⟨Nat.zero_le _, Nat.zero_le _⟩ hS (fun q h => h) (fun r110 H1 locs hp hz hk hS => ?_)
    obtain ⟨rfl, hA⟩ := hp
    exact zw_i hx hb hr hlocks hS dL_acts_113 (⟨_, _, rfl, hA, zOK_fold hn0 (by omega)⟩)
  · subst c9
    refine zv_tableIn (a := 6) (tgt := 92) hx hb dL_acts_9 (by omega) (by omega) (by omega) rfl (by decide) ?_
    refine lv_aload_n hx hb dL_acts_92 rfl (lv_at hl 1 rfl) ?_
    refine lv_iload_n hx hb dL_acts_93 rfl (lv_at hl 0 rfl) ?_
    refine zv_bipush hx hb dL_acts_94 (by decide +kernel) ?_
    refine zv_irem hx hb dL_acts_96 (by omega) (by omega) ?_
    refine lv_iload_n hx hb dL_acts_97 rfl (lv_at hl 0 rfl) ?_
    refine zv_bipush hx hb dL_acts_98 (by decide +kernel) ?_
    refine zv_irem hx hb dL_acts_100 (by omega) (by omega) ?_
    refine zv_iconst hx hb dL_acts_101 ?_
    refine zv_iadd hx hb dL_acts_102 ?_
    refine lv_iload_n hx hb dL_acts_103 rfl (lv_at hl 0 rfl) ?_
    refine zv_bipush hx hb dL_acts_104 (by decide +kernel) ?_
    refine zv_idiv hx hb dL_acts_106 (by omega) (by omega) ?_
    refine zv_iconst hx hb dL_acts_107 ?_
    refine zv_irem hx hb dL_acts_108 (by omega) (by omega) ?_
    refine zv_iadd hx hb dL_acts_109 ?_
    refine zc_VWi (As := [.int (zI ((y / 16) % 8)), .int (zI ((((y / 16) % 8) + 1) + (((y / 16) / 8) % 4)))]) (rest := []) S hK (kX9_fold l g ad w n ee en hc u un hs tc tn ((y / 16) % 8) ((((y / 16) % 8) + 1) + (((y / 16) / 8) % 4)) (by omega) (by omega)) (cwV 2 hts gL_acts_X9_fold rfl rfl rfl (by decide +kernel) ⟨Nat.le_of_ble_eq_true rfl, Nat.le_of_ble_eq_true rfl⟩) (hpic) (hX.recvx hK) rfl hl.1 rfl (Nat.le_of_ble_eq_true rfl) dL_acts_110 ⟨Nat.zero_le _, Nat.zero_le _⟩ hS (fun q h => h) (fun r110 H1 locs hp hz hk hS => ?_)
    obtain ⟨rfl, hA⟩ := hp
    exact zw_i hx hb hr hlocks hS dL_acts_113 (⟨_, _, rfl, hA, zOK_fold hn0 (by omega)⟩)
  · refine zv_tableOut (tgt := 114) hx hb dL_acts_9 (by omega) (by omega) (by decide) ?_
    refine lv_aload_n hx hb dL_acts_114 rfl (lv_at hl 1 rfl) ?_
    refine lv_iload_n hx hb dL_acts_115 rfl (lv_at hl 0 rfl) ?_
    refine zv_bipush hx hb dL_acts_116 (by decide +kernel) ?_
    refine zv_irem hx hb dL_acts_118 (by omega) (by omega) ?_
    refine zv_if_ne (tgt := 126) hx hb dL_acts_119 (by decide) (by omega) (fun c119 => ?_) (fun c119 => ?_)
    · refine lv_iload_n hx hb dL_acts_126 rfl (lv_at hl 0 rfl) ?_
      refine zv_iconst hx hb dL_acts_127 ?_
      refine zv_irem hx hb dL_acts_128 (by omega) (by omega) ?_
      refine zc_VWi (As := [.int (zI ((y / 16) % 2))]) (rest := []) S hK (kX9_add l g ad w n ee en hc u un hs tc tn ((y / 16) % 2) (by omega)) (cwV 1 hts gL_acts_X9_add rfl rfl rfl (by decide +kernel) ⟨Nat.le_of_ble_eq_true rfl, Nat.le_of_ble_eq_true rfl⟩) (hpic) (hX.recvx hK) rfl hl.1 rfl (Nat.le_of_ble_eq_true rfl) dL_acts_129 ⟨Nat.zero_le _, Nat.zero_le _⟩ hS (fun q h => h) (fun r129 H1 locs hp hz hk hS => ?_)
      obtain ⟨rfl, hA⟩ := hp
      exact zw_i hx hb hr hlocks hS dL_acts_132 (⟨_, _, rfl, hA, zOK_add hn0 (by omega) (by unfold zLe; first | rw [zIf_t c119] | rw [zIf_f c119])⟩)
    · refine zv_iconst hx hb dL_acts_122 ?_
      refine lv_goto (tgt := 129) hx hb dL_acts_123 (by decide) ?_
      refine zc_VWi (As := [.int (zI 2)]) (rest := []) S hK (kX9_add l g ad w n ee en hc u un hs tc tn 2 (by omega)) (cwV 1 hts gL_acts_X9_add rfl rfl rfl (by decide +kernel) ⟨Nat.le_of_ble_eq_true rfl, Nat.le_of_ble_eq_true rfl⟩) (hpic) (hX.recvx hK) rfl hl.1 rfl (Nat.le_of_ble_eq_true rfl) dL_acts_129 ⟨Nat.zero_le _, Nat.zero_le _⟩ hS (fun q h => h) (fun r129 H1 locs hp hz hk hS => ?_)
      obtain ⟨rfl, hA⟩ := hp
      exact zw_i hx hb hr hlocks hS dL_acts_132 (⟨_, _, rfl, hA, zOK_add hn0 (by omega) (by unfold zLe; first | rw [zIf_t c119] | rw [zIf_f c119])⟩)

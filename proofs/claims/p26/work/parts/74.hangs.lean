set_option maxHeartbeats 4000000 in
set_option maxRecDepth 100000 in
/-- hangs -/
theorem kL_hangs (l : Launch) (g : zG) (ad : Nat → Nat) (w : Int → Int) (n : Int) (ee : Nat → Int → Int) (en : Nat → Int) (hc : Int) (u : Int → Int) (un hs : Int) (tc : Int → Int) (tn : Int) : Met l yL_hangs wsL_hangs (zRm 7 164) (zP g [.ref (ad 16)] (AX g ad w n ee en hc u un hs tc tn)) (vp_Si (fun r => r = zI 1)) 0 0 (fun _ => False) := by
  refine Met.ofZ (cc := cL_hangs) (maxL := 17) (ret := (some .boolean)) (by decide) rfl (Nat.le_of_ble_eq_true rfl) ?_
  intro p e s m args below meth c ls hx hb hr hlocks S hin hK hpic hl
  have hown := S.2.2.2.1
  have hts := S.2.2.2.2
  have hl : lv_has ls 17 [(0, .ref (ad 16))] := hl
  obtain ⟨d, dn, u9, un9, hf, hn, v, vn, nx, pf, ig, bp, hX, hsn, hrg⟩ := id hpic
  have hg := hX.grg
  have hn0 := hX.gw.1
  have hd0 := hX.gd.1
  have hu0 := hX.gu.1
  have hv0 := hX.gv.1
  have ht0 := hX.gt.1
  have hw := hX.gw.2.1
  have bU := zUn_bd (w := w) hn0
  refine lv_aload_n hx hb dL_hangs_0 rfl (lv_at hl 0 rfl) ?_
  refine zv_iconst hx hb dL_hangs_1 ?_
  refine zc_V (As := [.int (zI 0)]) (rest := []) S hK (kX9_count l g ad w n ee en hc u un hs tc tn 0 (by omega)) (cwV 1 hts gL_hangs_X9_count rfl rfl rfl (by decide +kernel) ⟨Nat.le_of_ble_eq_true rfl, Nat.le_of_ble_eq_true rfl⟩) (hpic) (hX.recvx hK) rfl hl.1 rfl (Nat.le_of_ble_eq_true rfl) dL_hangs_2 ⟨Nat.zero_le _, Nat.zero_le _⟩ (fun r2 hr2 => ?_)
  obtain rfl := hr2
  rw [zCnt_0]
  refine lv_istore_n (lv' := [(1, .int (zI n)), (0, .ref (ad 16))]) hx hb dL_hangs_5 rfl hl (by decide) rfl (fun ls hl => ?_)
  refine lv_aload_n hx hb dL_hangs_6 rfl (lv_at hl 1 rfl) ?_
  refine lv_iload_n hx hb dL_hangs_7 rfl (lv_at hl 0 rfl) ?_
  refine zv_iconst hx hb dL_hangs_8 ?_
  refine zc_V (As := [.int (zI n), .int (zI 0)]) (rest := []) S hK (kX9_at l g ad w n ee en hc u un hs tc tn n 0 (by omega) (by omega)) (cwV 2 hts gL_hangs_X9_at rfl rfl rfl (by decide +kernel) ⟨Nat.le_of_ble_eq_true rfl, Nat.le_of_ble_eq_true rfl⟩) (hpic) (hX.recvx hK) rfl hl.1 rfl (Nat.le_of_ble_eq_true rfl) dL_hangs_9 ⟨Nat.zero_le _, Nat.zero_le _⟩ (fun r9 hr9 => ?_)
  obtain rfl := hr9
  rw [zAt_out (by omega)]
  refine zv_iconst hx hb dL_hangs_12 ?_
  refine zv_icmp_ne (tgt := 62) hx hb dL_hangs_13 (by decide) (by omega) (by omega) (fun c13 => ?_) (fun c13 => ?_)
  · exfalso; omega
  · refine lv_aload_n hx hb dL_hangs_16 rfl (lv_at hl 1 rfl) ?_
    refine lv_iload_n hx hb dL_hangs_17 rfl (lv_at hl 0 rfl) ?_
    refine zc_V (As := [.int (zI n)]) (rest := []) S hK (kX9_suffix l g ad w n ee en hc u un hs tc tn n (by omega)) (cwV 1 hts gL_hangs_X9_suffix rfl rfl rfl (by decide +kernel) ⟨Nat.le_of_ble_eq_true rfl, Nat.le_of_ble_eq_true rfl⟩) (hpic) (hX.recvx hK) rfl hl.1 rfl (Nat.le_of_ble_eq_true rfl) dL_hangs_18 ⟨Nat.zero_le _, Nat.zero_le _⟩ (fun r18 hr18 => ?_)
    obtain rfl := hr18
    rw [aSuffix_in (by omega), zPl_end]
    refine zv_bipush hx hb dL_hangs_21 (by decide +kernel) ?_
    refine zv_icmp_ne (tgt := 62) hx hb dL_hangs_23 (by decide) (by omega) (by omega) (fun c23 => ?_) (fun c23 => ?_)
    · exfalso; omega
    · refine lv_aload_n hx hb dL_hangs_26 rfl (lv_at hl 1 rfl) ?_
      refine lv_iload_n hx hb dL_hangs_27 rfl (lv_at hl 0 rfl) ?_
      refine zc_V (As := [.int (zI n)]) (rest := []) S hK (kX9_unlike l g ad w n ee en hc u un hs tc tn n (by omega)) (cwV 1 hts gL_hangs_X9_unlike rfl rfl rfl (by decide +kernel) ⟨Nat.le_of_ble_eq_true rfl, Nat.le_of_ble_eq_true rfl⟩) (hpic) (hX.recvx hK) rfl hl.1 rfl (Nat.le_of_ble_eq_true rfl) dL_hangs_28 ⟨Nat.zero_le _, Nat.zero_le _⟩ (fun r28 hr28 => ?_)
      obtain rfl := hr28
      rw [aUnlike_in (by omega)]
      refine lv_aload_n hx hb dL_hangs_31 rfl (lv_at hl 1 rfl) ?_
      refine zv_iconst hx hb dL_hangs_32 ?_
      refine zc_V (As := [.int (zI 2)]) (rest := [.int (zI (zUn w n))]) S hK (kX9_count l g ad w n ee en hc u un hs tc tn 2 (by omega)) (cwV 1 hts gL_hangs_X9_count rfl rfl rfl (by decide +kernel) ⟨Nat.le_of_ble_eq_true rfl, Nat.le_of_ble_eq_true rfl⟩) (hpic) (hX.recvx hK) rfl hl.1 rfl (Nat.le_of_ble_eq_true rfl) dL_hangs_33 ⟨Nat.zero_le _, Nat.zero_le _⟩ (fun r33 hr33 => ?_)
      obtain rfl := hr33
      rw [zCnt_2]
      refine zv_icmp_ne (tgt := 62) hx hb dL_hangs_36 (by decide) (by omega) (by omega) (fun c36 => ?_) (fun c36 => ?_)
      · exfalso; omega
      · refine lv_aload_n hx hb dL_hangs_39 rfl (lv_at hl 1 rfl) ?_
        refine lv_iload_n hx hb dL_hangs_40 rfl (lv_at hl 0 rfl) ?_
        refine zv_iconst hx hb dL_hangs_41 ?_
        refine zv_iadd hx hb dL_hangs_42 ?_
        refine zc_V (As := [.int (zI (n + 1))]) (rest := []) S hK (kX9_unlike l g ad w n ee en hc u un hs tc tn (n + 1) (by omega)) (cwV 1 hts gL_hangs_X9_unlike rfl rfl rfl (by decide +kernel) ⟨Nat.le_of_ble_eq_true rfl, Nat.le_of_ble_eq_true rfl⟩) (hpic) (hX.recvx hK) rfl hl.1 rfl (Nat.le_of_ble_eq_true rfl) dL_hangs_43 ⟨Nat.zero_le _, Nat.zero_le _⟩ (fun r43 hr43 => ?_)
        obtain rfl := hr43
        rw [aUnlike_out (by omega)]
        refine zv_iconst hx hb dL_hangs_46 ?_
        refine zv_icmp_ne (tgt := 62) hx hb dL_hangs_47 (by decide) (by omega) (by omega) (fun c47 => ?_) (fun c47 => ?_)
        · exfalso; omega
        · refine lv_aload_n hx hb dL_hangs_50 rfl (lv_at hl 1 rfl) ?_
          refine zv_iconst hx hb dL_hangs_51 ?_
          refine zc_V (As := [.int (zI 0)]) (rest := []) S hK (kX9_unlike l g ad w n ee en hc u un hs tc tn 0 (by omega)) (cwV 1 hts gL_hangs_X9_unlike rfl rfl rfl (by decide +kernel) ⟨Nat.le_of_ble_eq_true rfl, Nat.le_of_ble_eq_true rfl⟩) (hpic) (hX.recvx hK) rfl hl.1 rfl (Nat.le_of_ble_eq_true rfl) dL_hangs_52 ⟨Nat.zero_le _, Nat.zero_le _⟩ (fun r52 hr52 => ?_)
          obtain rfl := hr52
          rw [aUnlike_in (by omega), zUn_0]
          refine zv_if_ne (tgt := 62) hx hb dL_hangs_55 (by decide) (by omega) (fun c55 => ?_) (fun c55 => ?_)
          · exfalso; omega
          · refine zv_iconst hx hb dL_hangs_58 ?_
            refine lv_goto (tgt := 63) hx hb dL_hangs_59 (by decide) ?_
            refine lv_istore_n (lv' := [(2, .int (zI 1)), (1, .int (zI n)), (0, .ref (ad 16))]) hx hb dL_hangs_63 rfl hl (by decide) rfl (fun ls hl => ?_)
            refine zv_iconst hx hb dL_hangs_64 ?_
            refine lv_istore_n (lv' := [(3, .int (zI 0)), (2, .int (zI 1)), (1, .int (zI n)), (0, .ref (ad 16))]) hx hb dL_hangs_65 rfl hl (by decide) rfl (fun ls hl => ?_)
            refine zv_iconst hx hb dL_hangs_66 ?_
            refine lv_istore (lv' := [(4, .int (zI 0)), (3, .int (zI 0)), (2, .int (zI 1)), (1, .int (zI n)), (0, .ref (ad 16))]) hx hb dL_hangs_67 hl (by decide) rfl (fun ls hl => ?_)
            refine zv_iconst hx hb dL_hangs_69 ?_
            refine lv_istore (lv' := [(5, .int (zI 0)), (4, .int (zI 0)), (3, .int (zI 0)), (2, .int (zI 1)), (1, .int (zI n)), (0, .ref (ad 16))]) hx hb dL_hangs_70 hl (by decide) rfl (fun ls hl => ?_)
            have lp72 : ∀ (z_f : Nat) (tw : Int) (le : Int) (k : Int), ((0 ≤ k ∧ k ≤ n) ∧ (0 ≤ tw ∧ tw ≤ 40) ∧ 0 ≤ le ∧ le ≤ k) → (tw = zM (zAdj w n) 0 k) → (le = zC (fun k => zAdj w n k = 0) 0 k) → ((n - k).toNat) < z_f → ∀ (ls : Array Slot), lv_has ls 17 [(0, .ref (ad 16)), (1, .int (zI n)), (2, .int (zI 1)), (3, .int (zI tw)), (4, .int (zI le)), (5, .int (zI k))] → W p l e (zRm 7 164) s m args below meth c s.heap [] 0 0 (MQ below (vp_Si (fun r => r = zI 1)) args s 0 0 (fun _ => False)) (F0 m 72 ls []) := by
              intro z_f
              induction z_f with
              | zero => intro tw le k h0 h1 h2 z_m; exact absurd z_m (Nat.not_lt_zero _)
              | succ z_f ih72 =>
                intro tw le k h0 h1 h2 z_m72 ls hl
                refine lv_iload hx hb dL_hangs_72 (lv_at hl 5 rfl) ?_
                refine lv_iload_n hx hb dL_hangs_74 rfl (lv_at hl 1 rfl) ?_
                refine zv_icmp_ge (tgt := 266) hx hb dL_hangs_75 (by decide) (by omega) (by omega) (fun c75 => ?_) (fun c75 => ?_)
                · have ek : k = n := by omega
                  have etw : tw = zTw w n := by rw [h1, ek]; exact zAdj_tw hn0.1
                  have ele : le = zLet w n := by rw [h2, ek]; exact zAdj_let hw
                  clear h1 h2 ek
                  have hl : lv_has ls 17 [(0, .ref (ad 16)), (1, .int (zI n)), (2, .int (zI 1)), (3, .int (zI tw)), (4, .int (zI le))] := lv_sub hl [0, 1, 2, 3, 4] rfl
                  have jn343 : ∀ (_ : Unit), ∀ (ls : Array Slot), lv_has ls 17 [(0, .ref (ad 16)), (1, .int (zI n)), (2, .int (zI 1)), (3, .int (zI tw)), (4, .int (zI le))] → W p l e (zRm 7 164) s m args below meth c s.heap [] 0 0 (MQ below (vp_Si (fun r => r = zI 1)) args s 0 0 (fun _ => False)) (F0 m 343 ls []) := by
                    intro _  ls hl
                    have nS := zCC_bd (zSqP w) hn0
                    have nR := zCC_bd (zRun w n) hn0
                    have sE := zSq_end (w := w) hn0.1
                    have rE := zRun_end (w := w) hn0.1
                    have rL := zRuns_le hn0.1 hw
                    obtain ⟨S9, eS9⟩ : ∃ z : Int, z = zCC (zSqP w) n n := ⟨_, rfl⟩
                    obtain ⟨N9, eN9⟩ : ∃ z : Int, z = zCC (zRun w n) n n := ⟨_, rfl⟩
                    rw [← eS9] at nS sE
                    rw [← eN9] at nR rE rL
                    refine lv_aload_n hx hb dL_hangs_343 rfl (lv_at hl 0 rfl) ?_
                    refine zv_iconst hx hb dL_hangs_344 ?_
                    refine zc_V (As := [.int (zI 4)]) (rest := []) S hK (kX9_count l g ad w n ee en hc u un hs tc tn 4 (by omega)) (cwV 1 hts gL_hangs_X9_count rfl rfl rfl (by decide +kernel) ⟨Nat.le_of_ble_eq_true rfl, Nat.le_of_ble_eq_true rfl⟩) (hpic) (hX.recvx hK) rfl hl.1 rfl (Nat.le_of_ble_eq_true rfl) dL_hangs_345 ⟨Nat.zero_le _, Nat.zero_le _⟩ (fun r345 hr345 => ?_)
                    obtain rfl := hr345
                    rw [zCnt_4, ← eS9]
                    refine lv_istore (lv' := [(7, .int (zI S9)), (0, .ref (ad 16)), (1, .int (zI n)), (2, .int (zI 1)), (3, .int (zI tw)), (4, .int (zI le))]) hx hb dL_hangs_348 hl (by decide) rfl (fun ls hl => ?_)
                    refine zv_iconst hx hb dL_hangs_350 ?_
                    refine lv_istore (lv' := [(8, .int (zI (-1))), (7, .int (zI S9)), (0, .ref (ad 16)), (1, .int (zI n)), (2, .int (zI 1)), (3, .int (zI tw)), (4, .int (zI le))]) hx hb dL_hangs_351 hl (by decide) rfl (fun ls hl => ?_)
                    refine lv_iload_n hx hb dL_hangs_353 rfl (lv_at hl 4 rfl) ?_
                    refine zv_if_eq (tgt := 373) hx hb dL_hangs_354 (by decide) (by omega) (fun c354 => ?_) (fun c354 => ?_)
                    · exfalso; omega
                    · refine lv_aload_n hx hb dL_hangs_357 rfl (lv_at hl 2 rfl) ?_
                      refine lv_iload hx hb dL_hangs_358 (lv_at hl 1 rfl) ?_
                      refine zv_iconst hx hb dL_hangs_360 ?_
                      refine zc_V (As := [.int (zI S9), .int (zI 0)]) (rest := []) S hK (kX9_square l g ad w n ee en hc u un hs tc tn S9 0 (by omega) (by omega)) (cwV 2 hts gL_hangs_X9_square rfl rfl rfl (by decide +kernel) ⟨Nat.le_of_ble_eq_true rfl, Nat.le_of_ble_eq_true rfl⟩) (hpic) (hX.recvx hK) rfl hl.1 rfl (Nat.le_of_ble_eq_true rfl) dL_hangs_361 ⟨Nat.zero_le _, Nat.zero_le _⟩ (fun r361 hr361 => ?_)
                      obtain rfl := hr361
                      rw [sE]
                      refine zv_bipush hx hb dL_hangs_364 (by decide +kernel) ?_
                      refine zv_icmp_ne (tgt := 373) hx hb dL_hangs_366 (by decide) (by omega) (by omega) (fun c366 => ?_) (fun c366 => ?_)
                      · exfalso; omega
                      · refine zv_iconst hx hb dL_hangs_369 ?_
                        refine lv_goto (tgt := 374) hx hb dL_hangs_370 (by decide) ?_
                        refine lv_istore_n (lv' := [(2, .int (zI 1)), (8, .int (zI (-1))), (7, .int (zI S9)), (0, .ref (ad 16)), (1, .int (zI n)), (3, .int (zI tw)), (4, .int (zI le))]) hx hb dL_hangs_374 rfl hl (by decide) rfl (fun ls hl => ?_)
                        refine zv_iconst hx hb dL_hangs_375 ?_
                        refine lv_istore (lv' := [(9, .int (zI 0)), (2, .int (zI 1)), (8, .int (zI (-1))), (7, .int (zI S9)), (0, .ref (ad 16)), (1, .int (zI n)), (3, .int (zI tw)), (4, .int (zI le))]) hx hb dL_hangs_376 hl (by decide) rfl (fun ls hl => ?_)
                        have lp378 : ∀ (z_f : Nat) (bf : Int) (k : Int), (0 ≤ k ∧ k ≤ 5000) → ((-1 ≤ bf ∧ bf ≤ 2100) ∧ zBfP (zSqP w) n k bf) → ((S9 - k).toNat) < z_f → ∀ (ls : Array Slot), lv_has ls 17 [(0, .ref (ad 16)), (1, .int (zI n)), (2, .int (zI 1)), (3, .int (zI tw)), (4, .int (zI le)), (7, .int (zI S9)), (8, .int (zI bf)), (9, .int (zI k))] → W p l e (zRm 7 164) s m args below meth c s.heap [] 0 0 (MQ below (vp_Si (fun r => r = zI 1)) args s 0 0 (fun _ => False)) (F0 m 378 ls []) := by
                          intro z_f
                          induction z_f with
                          | zero => intro bf k h5 h6 z_m; exact absurd z_m (Nat.not_lt_zero _)
                          | succ z_f ih378 =>
                            intro bf k h5 h6 z_m378 ls hl
                            refine lv_iload hx hb dL_hangs_378 (lv_at hl 7 rfl) ?_
                            refine lv_iload hx hb dL_hangs_380 (lv_at hl 5 rfl) ?_
                            refine zv_icmp_ge (tgt := 488) hx hb dL_hangs_382 (by decide) (by omega) (by omega) (fun c382 => ?_) (fun c382 => ?_)
                            · have hl : lv_has ls 17 [(0, .ref (ad 16)), (1, .int (zI n)), (2, .int (zI 1)), (3, .int (zI tw)), (4, .int (zI le)), (7, .int (zI S9))] := lv_sub hl [0, 1, 2, 3, 4, 5] rfl
                              refine lv_aload_n hx hb dL_hangs_488 rfl (lv_at hl 0 rfl) ?_
                              refine zv_iconst hx hb dL_hangs_489 ?_
                              refine zc_V (As := [.int (zI 5)]) (rest := []) S hK (kX9_count l g ad w n ee en hc u un hs tc tn 5 (by omega)) (cwV 1 hts gL_hangs_X9_count rfl rfl rfl (by decide +kernel) ⟨Nat.le_of_ble_eq_true rfl, Nat.le_of_ble_eq_true rfl⟩) (hpic) (hX.recvx hK) rfl hl.1 rfl (Nat.le_of_ble_eq_true rfl) dL_hangs_490 ⟨Nat.zero_le _, Nat.zero_le _⟩ (fun r490 hr490 => ?_)
                              obtain rfl := hr490
                              rw [zCnt_5, ← eN9]
                              refine lv_istore (lv' := [(9, .int (zI N9)), (0, .ref (ad 16)), (1, .int (zI n)), (2, .int (zI 1)), (3, .int (zI tw)), (4, .int (zI le)), (7, .int (zI S9))]) hx hb dL_hangs_493 hl (by decide) rfl (fun ls hl => ?_)
                              refine zv_iconst hx hb dL_hangs_495 ?_
                              refine lv_istore (lv' := [(10, .int (zI 0)), (9, .int (zI N9)), (0, .ref (ad 16)), (1, .int (zI n)), (2, .int (zI 1)), (3, .int (zI tw)), (4, .int (zI le)), (7, .int (zI S9))]) hx hb dL_hangs_496 hl (by decide) rfl (fun ls hl => ?_)
                              refine zv_iconst hx hb dL_hangs_498 ?_
                              refine lv_istore (lv' := [(11, .int (zI 0)), (10, .int (zI 0)), (9, .int (zI N9)), (0, .ref (ad 16)), (1, .int (zI n)), (2, .int (zI 1)), (3, .int (zI tw)), (4, .int (zI le)), (7, .int (zI S9))]) hx hb dL_hangs_499 hl (by decide) rfl (fun ls hl => ?_)
                              refine zv_iconst hx hb dL_hangs_501 ?_
                              refine lv_istore (lv' := [(8, .int (zI (-1))), (11, .int (zI 0)), (10, .int (zI 0)), (9, .int (zI N9)), (0, .ref (ad 16)), (1, .int (zI n)), (2, .int (zI 1)), (3, .int (zI tw)), (4, .int (zI le)), (7, .int (zI S9))]) hx hb dL_hangs_502 hl (by decide) rfl (fun ls hl => ?_)
                              refine lv_iload_n hx hb dL_hangs_504 rfl (lv_at hl 6 rfl) ?_
                              refine zv_if_eq (tgt := 524) hx hb dL_hangs_505 (by decide) (by omega) (fun c505 => ?_) (fun c505 => ?_)
                              · exfalso; omega
                              · refine lv_aload_n hx hb dL_hangs_508 rfl (lv_at hl 4 rfl) ?_
                                refine lv_iload hx hb dL_hangs_509 (lv_at hl 3 rfl) ?_
                                refine zv_iconst hx hb dL_hangs_511 ?_
                                refine zc_V (As := [.int (zI N9), .int (zI 0)]) (rest := []) S hK (kX9_run l g ad w n ee en hc u un hs tc tn N9 0 (by omega) (by omega)) (cwV 2 hts gL_hangs_X9_run rfl rfl rfl (by decide +kernel) ⟨Nat.le_of_ble_eq_true rfl, Nat.le_of_ble_eq_true rfl⟩) (hpic) (hX.recvx hK) rfl hl.1 rfl (Nat.le_of_ble_eq_true rfl) dL_hangs_512 ⟨Nat.zero_le _, Nat.zero_le _⟩ (fun r512 hr512 => ?_)
                                obtain rfl := hr512
                                rw [rE]
                                refine zv_bipush hx hb dL_hangs_515 (by decide +kernel) ?_
                                refine zv_icmp_ne (tgt := 524) hx hb dL_hangs_517 (by decide) (by omega) (by omega) (fun c517 => ?_) (fun c517 => ?_)
                                · exfalso; omega
                                · refine zv_iconst hx hb dL_hangs_520 ?_
                                  refine lv_goto (tgt := 525) hx hb dL_hangs_521 (by decide) ?_
                                  refine lv_istore_n (lv' := [(2, .int (zI 1)), (8, .int (zI (-1))), (11, .int (zI 0)), (10, .int (zI 0)), (9, .int (zI N9)), (0, .ref (ad 16)), (1, .int (zI n)), (3, .int (zI tw)), (4, .int (zI le)), (7, .int (zI S9))]) hx hb dL_hangs_525 rfl hl (by decide) rfl (fun ls hl => ?_)
                                  refine zv_iconst hx hb dL_hangs_526 ?_
                                  refine lv_istore (lv' := [(12, .int (zI 0)), (2, .int (zI 1)), (8, .int (zI (-1))), (11, .int (zI 0)), (10, .int (zI 0)), (9, .int (zI N9)), (0, .ref (ad 16)), (1, .int (zI n)), (3, .int (zI tw)), (4, .int (zI le)), (7, .int (zI S9))]) hx hb dL_hangs_527 hl (by decide) rfl (fun ls hl => ?_)
                                  have lp529 : ∀ (z_f : Nat) (bf : Int) (ov : Int) (k : Int), ((0 ≤ k ∧ k ≤ N9) ∧ 0 ≤ ov ∧ ov ≤ 40 * k) → ((-1 ≤ bf ∧ bf ≤ 2100) ∧ zBfP (zRun w n) n k bf) → (ov = zS (fun r => zRk (zRun w n) n r (fun i d => zRT w n i d - i)) 0 k) → ((N9 - k).toNat) < z_f → ∀ (ls : Array Slot), lv_has ls 17 [(0, .ref (ad 16)), (1, .int (zI n)), (2, .int (zI 1)), (3, .int (zI tw)), (4, .int (zI le)), (7, .int (zI S9)), (8, .int (zI bf)), (9, .int (zI N9)), (10, .int (zI ov)), (11, .int (zI 0)), (12, .int (zI k))] → W p l e (zRm 7 164) s m args below meth c s.heap [] 0 0 (MQ below (vp_Si (fun r => r = zI 1)) args s 0 0 (fun _ => False)) (F0 m 529 ls []) := by
                                    intro z_f
                                    induction z_f with
                                    | zero => intro bf ov k h7 h8 h9 z_m; exact absurd z_m (Nat.not_lt_zero _)
                                    | succ z_f ih529 =>
                                      intro bf ov k h7 h8 h9 z_m529 ls hl
                                      refine lv_iload hx hb dL_hangs_529 (lv_at hl 10 rfl) ?_
                                      refine lv_iload hx hb dL_hangs_531 (lv_at hl 7 rfl) ?_
                                      refine zv_icmp_ge (tgt := 765) hx hb dL_hangs_533 (by decide) (by omega) (by omega) (fun c533 => ?_) (fun c533 => ?_)
                                      · have ekN : k = N9 := by omega
                                        rw [ekN, eN9, zOver_sum hn0.1] at h9
                                        have bov : 0 ≤ ov ∧ ov ≤ 1600 := by omega
                                        clear h8 ekN
                                        have hl : lv_has ls 17 [(0, .ref (ad 16)), (1, .int (zI n)), (2, .int (zI 1)), (3, .int (zI tw)), (4, .int (zI le)), (7, .int (zI S9)), (9, .int (zI N9)), (10, .int (zI ov)), (11, .int (zI 0))] := lv_sub hl [0, 1, 2, 3, 4, 5, 7, 8, 9] rfl
                                        refine zv_iconst hx hb dL_hangs_765 ?_
                                        refine lv_istore (lv' := [(12, .int (zI 0)), (0, .ref (ad 16)), (1, .int (zI n)), (2, .int (zI 1)), (3, .int (zI tw)), (4, .int (zI le)), (7, .int (zI S9)), (9, .int (zI N9)), (10, .int (zI ov)), (11, .int (zI 0))]) hx hb dL_hangs_766 hl (by decide) rfl (fun ls hl => ?_)
                                        have lp768 : ∀ (z_f : Nat) (sq : Int) (ir : Int) (k : Int), ((0 ≤ k ∧ k ≤ n) ∧ (0 ≤ ir ∧ ir ≤ 1600 * k) ∧ S9 - 40 * k ≤ sq ∧ sq ≤ S9) → (ir = zS (fun x => zCC (zOvP w n x) n (x + 1)) 0 k) → (sq = S9 - zS (fun x => zSE w (x + 1)) 0 k) → ((n - k).toNat) < z_f → ∀ (ls : Array Slot), lv_has ls 17 [(0, .ref (ad 16)), (1, .int (zI n)), (2, .int (zI 1)), (3, .int (zI tw)), (4, .int (zI le)), (7, .int (zI sq)), (9, .int (zI N9)), (10, .int (zI ov)), (11, .int (zI ir)), (12, .int (zI k))] → W p l e (zRm 7 164) s m args below meth c s.heap [] 0 0 (MQ below (vp_Si (fun r => r = zI 1)) args s 0 0 (fun _ => False)) (F0 m 768 ls []) := by
                                          intro z_f
                                          induction z_f with
                                          | zero => intro sq ir k hA hB hC z_m; exact absurd z_m (Nat.not_lt_zero _)
                                          | succ z_f ih768 =>
                                            intro sq ir k hA hB hC z_m768 ls hl
                                            refine lv_iload hx hb dL_hangs_768 (lv_at hl 9 rfl) ?_
                                            refine lv_iload_n hx hb dL_hangs_770 rfl (lv_at hl 1 rfl) ?_
                                            refine zv_icmp_ge (tgt := 804) hx hb dL_hangs_771 (by decide) (by omega) (by omega) (fun c771 => ?_) (fun c771 => ?_)
                                            · have ekn : k = n := by omega
                                              rw [ekn, ← h9] at hB
                                              rw [ekn, zSE_sum hn0.1, ← eS9] at hC
                                              have gB := zEG_LP0 (w := w) (n := n) hn0.1
                                              have gU := zUs_le (w := w) (n := n)
                                              rw [← eS9] at gU
                                              have gC := zCl_le (w := w) (n := n) hn0.1
                                              have nU := zCC_bd (zUsP w) hn0
                                              have nC := zCl_bd0 (w := w) (n := n) hn0.1
                                              have nE := zEG_bd w 0 n n
                                              have nL : 0 ≤ zLP w 0 n ∧ zLP w 0 n ≤ n := by omega
                                              refine lv_iload_n hx hb dL_hangs_804 rfl (lv_at hl 2 rfl) ?_
                                              refine zv_if_eq (tgt := 898) hx hb dL_hangs_805 (by decide) (by omega) (fun c805 => ?_) (fun c805 => ?_)
                                              · exfalso; omega
                                              · refine lv_iload_n hx hb dL_hangs_808 rfl (lv_at hl 3 rfl) ?_
                                                refine lv_aload_n hx hb dL_hangs_809 rfl (lv_at hl 0 rfl) ?_
                                                refine zv_bipush hx hb dL_hangs_810 (by decide +kernel) ?_
                                                refine zc_V (As := [.int (zI 8)]) (rest := [.int (zI tw)]) S hK (kX9_count l g ad w n ee en hc u un hs tc tn 8 (by omega)) (cwV 1 hts gL_hangs_X9_count rfl rfl rfl (by decide +kernel) ⟨Nat.le_of_ble_eq_true rfl, Nat.le_of_ble_eq_true rfl⟩) (hpic) (hX.recvx hK) rfl hl.1 rfl (Nat.le_of_ble_eq_true rfl) dL_hangs_812 ⟨Nat.zero_le _, Nat.zero_le _⟩ (fun r812 hr812 => ?_)
                                                obtain rfl := hr812
                                                rw [zCnt_8, ← etw]
                                                refine zv_icmp_ne (tgt := 898) hx hb dL_hangs_815 (by decide) (by omega) (by omega) (fun c815 => ?_) (fun c815 => ?_)
                                                · exfalso; omega
                                                · refine lv_iload hx hb dL_hangs_818 (lv_at hl 4 rfl) ?_
                                                  refine lv_aload_n hx hb dL_hangs_820 rfl (lv_at hl 0 rfl) ?_
                                                  refine zv_iconst hx hb dL_hangs_821 ?_
                                                  refine zc_V (As := [.int (zI 1)]) (rest := [.int (zI le)]) S hK (kX9_count l g ad w n ee en hc u un hs tc tn 1 (by omega)) (cwV 1 hts gL_hangs_X9_count rfl rfl rfl (by decide +kernel) ⟨Nat.le_of_ble_eq_true rfl, Nat.le_of_ble_eq_true rfl⟩) (hpic) (hX.recvx hK) rfl hl.1 rfl (Nat.le_of_ble_eq_true rfl) dL_hangs_822 ⟨Nat.zero_le _, Nat.zero_le _⟩ (fun r822 hr822 => ?_)
                                                  obtain rfl := hr822
                                                  rw [zCnt_1, ← ele]
                                                  refine zv_icmp_ne (tgt := 898) hx hb dL_hangs_825 (by decide) (by omega) (by omega) (fun c825 => ?_) (fun c825 => ?_)
                                                  · exfalso; omega
                                                  · refine lv_iload hx hb dL_hangs_828 (lv_at hl 5 rfl) ?_
                                                    refine zv_if_ne (tgt := 898) hx hb dL_hangs_830 (by decide) (by omega) (fun c830 => ?_) (fun c830 => ?_)
                                                    · exfalso; omega
                                                    · refine lv_iload hx hb dL_hangs_833 (lv_at hl 7 rfl) ?_
                                                      refine lv_iload hx hb dL_hangs_835 (lv_at hl 8 rfl) ?_
                                                      refine zv_icmp_ne (tgt := 898) hx hb dL_hangs_837 (by decide) (by omega) (by omega) (fun c837 => ?_) (fun c837 => ?_)
                                                      · exfalso; omega
                                                      · refine lv_iload_n hx hb dL_hangs_840 rfl (lv_at hl 1 rfl) ?_
                                                        refine zv_if_eq (tgt := 861) hx hb dL_hangs_841 (by decide) (by omega) (fun c841 => ?_) (fun c841 => ?_)
                                                        · refine lv_aload_n hx hb dL_hangs_861 rfl (lv_at hl 0 rfl) ?_
                                                          refine zv_bipush hx hb dL_hangs_862 (by decide +kernel) ?_
                                                          refine zc_V (As := [.int (zI 9)]) (rest := []) S hK (kX9_count l g ad w n ee en hc u un hs tc tn 9 (by omega)) (cwV 1 hts gL_hangs_X9_count rfl rfl rfl (by decide +kernel) ⟨Nat.le_of_ble_eq_true rfl, Nat.le_of_ble_eq_true rfl⟩) (hpic) (hX.recvx hK) rfl hl.1 rfl (Nat.le_of_ble_eq_true rfl) dL_hangs_864 ⟨Nat.zero_le _, Nat.zero_le _⟩ (fun r864 hr864 => ?_)
                                                          obtain rfl := hr864
                                                          rw [zCnt_9]
                                                          refine lv_aload_n hx hb dL_hangs_867 rfl (lv_at hl 0 rfl) ?_
                                                          refine zv_iconst hx hb dL_hangs_868 ?_
                                                          refine zc_V (As := [.int (zI 4)]) (rest := [.int (zI (zCC (zUsP w) n n))]) S hK (kX9_count l g ad w n ee en hc u un hs tc tn 4 (by omega)) (cwV 1 hts gL_hangs_X9_count rfl rfl rfl (by decide +kernel) ⟨Nat.le_of_ble_eq_true rfl, Nat.le_of_ble_eq_true rfl⟩) (hpic) (hX.recvx hK) rfl hl.1 rfl (Nat.le_of_ble_eq_true rfl) dL_hangs_869 ⟨Nat.zero_le _, Nat.zero_le _⟩ (fun r869 hr869 => ?_)
                                                          obtain rfl := hr869
                                                          rw [zCnt_4, ← eS9]
                                                          refine zv_icmp_gt (tgt := 898) hx hb dL_hangs_872 (by decide) (by omega) (by omega) (fun c872 => ?_) (fun c872 => ?_)
                                                          · exfalso; omega
                                                          · refine lv_aload_n hx hb dL_hangs_875 rfl (lv_at hl 0 rfl) ?_
                                                            refine zv_iconst hx hb dL_hangs_876 ?_
                                                            refine zc_V (As := [.int (zI 3)]) (rest := []) S hK (kX9_count l g ad w n ee en hc u un hs tc tn 3 (by omega)) (cwV 1 hts gL_hangs_X9_count rfl rfl rfl (by decide +kernel) ⟨Nat.le_of_ble_eq_true rfl, Nat.le_of_ble_eq_true rfl⟩) (hpic) (hX.recvx hK) rfl hl.1 rfl (Nat.le_of_ble_eq_true rfl) dL_hangs_877 ⟨Nat.zero_le _, Nat.zero_le _⟩ (fun r877 hr877 => ?_)
                                                            obtain rfl := hr877
                                                            rw [zCnt_3]
                                                            refine lv_aload_n hx hb dL_hangs_880 rfl (lv_at hl 0 rfl) ?_
                                                            refine zv_iconst hx hb dL_hangs_881 ?_
                                                            refine zc_V (As := [.int (zI 2)]) (rest := [.int (zI (zCl w n))]) S hK (kX9_count l g ad w n ee en hc u un hs tc tn 2 (by omega)) (cwV 1 hts gL_hangs_X9_count rfl rfl rfl (by decide +kernel) ⟨Nat.le_of_ble_eq_true rfl, Nat.le_of_ble_eq_true rfl⟩) (hpic) (hX.recvx hK) rfl hl.1 rfl (Nat.le_of_ble_eq_true rfl) dL_hangs_882 ⟨Nat.zero_le _, Nat.zero_le _⟩ (fun r882 hr882 => ?_)
                                                            obtain rfl := hr882
                                                            rw [zCnt_2]
                                                            refine zv_icmp_gt (tgt := 898) hx hb dL_hangs_885 (by decide) (by omega) (by omega) (fun c885 => ?_) (fun c885 => ?_)
                                                            · exfalso; omega
                                                            · refine lv_iload hx hb dL_hangs_888 (lv_at hl 6 rfl) ?_
                                                              refine lv_iload_n hx hb dL_hangs_890 rfl (lv_at hl 1 rfl) ?_
                                                              refine zv_icmp_gt (tgt := 898) hx hb dL_hangs_891 (by decide) (by omega) (by omega) (fun c891 => ?_) (fun c891 => ?_)
                                                              · exfalso; omega
                                                              · refine zv_iconst hx hb dL_hangs_894 ?_
                                                                refine lv_goto (tgt := 899) hx hb dL_hangs_895 (by decide) ?_
                                                                exact zr_z hx hb hr hlocks dL_hangs_899 rfl rfl
                                                        · refine lv_aload_n hx hb dL_hangs_844 rfl (lv_at hl 0 rfl) ?_
                                                          refine zv_bipush hx hb dL_hangs_845 (by decide +kernel) ?_
                                                          refine zc_V (As := [.int (zI 6)]) (rest := []) S hK (kX9_count l g ad w n ee en hc u un hs tc tn 6 (by omega)) (cwV 1 hts gL_hangs_X9_count rfl rfl rfl (by decide +kernel) ⟨Nat.le_of_ble_eq_true rfl, Nat.le_of_ble_eq_true rfl⟩) (hpic) (hX.recvx hK) rfl hl.1 rfl (Nat.le_of_ble_eq_true rfl) dL_hangs_847 ⟨Nat.zero_le _, Nat.zero_le _⟩ (fun r847 hr847 => ?_)
                                                          obtain rfl := hr847
                                                          rw [zCnt_6]
                                                          refine lv_aload_n hx hb dL_hangs_850 rfl (lv_at hl 0 rfl) ?_
                                                          refine zv_bipush hx hb dL_hangs_851 (by decide +kernel) ?_
                                                          refine zc_V (As := [.int (zI 7)]) (rest := [.int (zI (zEG w 0 n n))]) S hK (kX9_count l g ad w n ee en hc u un hs tc tn 7 (by omega)) (cwV 1 hts gL_hangs_X9_count rfl rfl rfl (by decide +kernel) ⟨Nat.le_of_ble_eq_true rfl, Nat.le_of_ble_eq_true rfl⟩) (hpic) (hX.recvx hK) rfl hl.1 rfl (Nat.le_of_ble_eq_true rfl) dL_hangs_853 ⟨Nat.zero_le _, Nat.zero_le _⟩ (fun r853 hr853 => ?_)
                                                          obtain rfl := hr853
                                                          rw [zCnt_7]
                                                          refine zv_iadd hx hb dL_hangs_856 ?_
                                                          refine lv_iload_n hx hb dL_hangs_857 rfl (lv_at hl 1 rfl) ?_
                                                          refine zv_icmp_ne (tgt := 898) hx hb dL_hangs_858 (by decide) (by omega) (by omega) (fun c858 => ?_) (fun c858 => ?_)
                                                          · exfalso; omega
                                                          · refine lv_aload_n hx hb dL_hangs_861 rfl (lv_at hl 0 rfl) ?_
                                                            refine zv_bipush hx hb dL_hangs_862 (by decide +kernel) ?_
                                                            refine zc_V (As := [.int (zI 9)]) (rest := []) S hK (kX9_count l g ad w n ee en hc u un hs tc tn 9 (by omega)) (cwV 1 hts gL_hangs_X9_count rfl rfl rfl (by decide +kernel) ⟨Nat.le_of_ble_eq_true rfl, Nat.le_of_ble_eq_true rfl⟩) (hpic) (hX.recvx hK) rfl hl.1 rfl (Nat.le_of_ble_eq_true rfl) dL_hangs_864 ⟨Nat.zero_le _, Nat.zero_le _⟩ (fun r864 hr864 => ?_)
                                                            obtain rfl := hr864
                                                            rw [zCnt_9]
                                                            refine lv_aload_n hx hb dL_hangs_867 rfl (lv_at hl 0 rfl) ?_
                                                            refine zv_iconst hx hb dL_hangs_868 ?_
                                                            refine zc_V (As := [.int (zI 4)]) (rest := [.int (zI (zCC (zUsP w) n n))]) S hK (kX9_count l g ad w n ee en hc u un hs tc tn 4 (by omega)) (cwV 1 hts gL_hangs_X9_count rfl rfl rfl (by decide +kernel) ⟨Nat.le_of_ble_eq_true rfl, Nat.le_of_ble_eq_true rfl⟩) (hpic) (hX.recvx hK) rfl hl.1 rfl (Nat.le_of_ble_eq_true rfl) dL_hangs_869 ⟨Nat.zero_le _, Nat.zero_le _⟩ (fun r869 hr869 => ?_)
                                                            obtain rfl := hr869
                                                            rw [zCnt_4, ← eS9]
                                                            refine zv_icmp_gt (tgt := 898) hx hb dL_hangs_872 (by decide) (by omega) (by omega) (fun c872 => ?_) (fun c872 => ?_)
                                                            · exfalso; omega
                                                            · refine lv_aload_n hx hb dL_hangs_875 rfl (lv_at hl 0 rfl) ?_
                                                              refine zv_iconst hx hb dL_hangs_876 ?_
                                                              refine zc_V (As := [.int (zI 3)]) (rest := []) S hK (kX9_count l g ad w n ee en hc u un hs tc tn 3 (by omega)) (cwV 1 hts gL_hangs_X9_count rfl rfl rfl (by decide +kernel) ⟨Nat.le_of_ble_eq_true rfl, Nat.le_of_ble_eq_true rfl⟩) (hpic) (hX.recvx hK) rfl hl.1 rfl (Nat.le_of_ble_eq_true rfl) dL_hangs_877 ⟨Nat.zero_le _, Nat.zero_le _⟩ (fun r877 hr877 => ?_)
                                                              obtain rfl := hr877
                                                              rw [zCnt_3]
                                                              refine lv_aload_n hx hb dL_hangs_880 rfl (lv_at hl 0 rfl) ?_
                                                              refine zv_iconst hx hb dL_hangs_881 ?_
                                                              refine zc_V (As := [.int (zI 2)]) (rest := [.int (zI (zCl w n))]) S hK (kX9_count l g ad w n ee en hc u un hs tc tn 2 (by omega)) (cwV 1 hts gL_hangs_X9_count rfl rfl rfl (by decide +kernel) ⟨Nat.le_of_ble_eq_true rfl, Nat.le_of_ble_eq_true rfl⟩) (hpic) (hX.recvx hK) rfl hl.1 rfl (Nat.le_of_ble_eq_true rfl) dL_hangs_882 ⟨Nat.zero_le _, Nat.zero_le _⟩ (fun r882 hr882 => ?_)
                                                              obtain rfl := hr882
                                                              rw [zCnt_2]
                                                              refine zv_icmp_gt (tgt := 898) hx hb dL_hangs_885 (by decide) (by omega) (by omega) (fun c885 => ?_) (fun c885 => ?_)
                                                              · exfalso; omega
                                                              · refine lv_iload hx hb dL_hangs_888 (lv_at hl 6 rfl) ?_
                                                                refine lv_iload_n hx hb dL_hangs_890 rfl (lv_at hl 1 rfl) ?_
                                                                refine zv_icmp_gt (tgt := 898) hx hb dL_hangs_891 (by decide) (by omega) (by omega) (fun c891 => ?_) (fun c891 => ?_)
                                                                · exfalso; omega
                                                                · refine zv_iconst hx hb dL_hangs_894 ?_
                                                                  refine lv_goto (tgt := 899) hx hb dL_hangs_895 (by decide) ?_
                                                                  exact zr_z hx hb hr hlocks dL_hangs_899 rfl rfl
                                            · have bo1 := zCC_bd2 (zOvP w n k) (n := n) (i := k + 1) hn0 (by omega)
                                              have be1 := zSE_bd w (t := k + 1) (by omega)
                                              refine lv_iload hx hb dL_hangs_774 (lv_at hl 8 rfl) ?_
                                              refine lv_aload_n hx hb dL_hangs_776 rfl (lv_at hl 0 rfl) ?_
                                              refine lv_iload hx hb dL_hangs_777 (lv_at hl 9 rfl) ?_
                                              refine zv_iconst hx hb dL_hangs_779 ?_
                                              refine zc_V (As := [.int (zI k), .int (zI 2)]) (rest := [.int (zI ir)]) S hK (kX9_at l g ad w n ee en hc u un hs tc tn k 2 (by omega) (by omega)) (cwV 2 hts gL_hangs_X9_at rfl rfl rfl (by decide +kernel) ⟨Nat.le_of_ble_eq_true rfl, Nat.le_of_ble_eq_true rfl⟩) (hpic) (hX.recvx hK) rfl hl.1 rfl (Nat.le_of_ble_eq_true rfl) dL_hangs_780 ⟨Nat.zero_le _, Nat.zero_le _⟩ (fun r780 hr780 => ?_)
                                              obtain rfl := hr780
                                              rw [zAt_2 (by omega)]
                                              refine zv_iadd hx hb dL_hangs_783 ?_
                                              refine lv_istore (lv' := [(11, .int (zI (ir + (zCC (zOvP w n k) n (k + 1))))), (0, .ref (ad 16)), (1, .int (zI n)), (2, .int (zI 1)), (3, .int (zI tw)), (4, .int (zI le)), (7, .int (zI sq)), (9, .int (zI N9)), (10, .int (zI ov)), (12, .int (zI k))]) hx hb dL_hangs_784 hl (by decide) rfl (fun ls hl => ?_)
                                              refine lv_iload hx hb dL_hangs_786 (lv_at hl 6 rfl) ?_
                                              refine lv_aload_n hx hb dL_hangs_788 rfl (lv_at hl 1 rfl) ?_
                                              refine lv_iload hx hb dL_hangs_789 (lv_at hl 9 rfl) ?_
                                              refine zv_iconst hx hb dL_hangs_791 ?_
                                              refine zc_V (As := [.int (zI k), .int (zI 3)]) (rest := [.int (zI sq)]) S hK (kX9_at l g ad w n ee en hc u un hs tc tn k 3 (by omega) (by omega)) (cwV 2 hts gL_hangs_X9_at rfl rfl rfl (by decide +kernel) ⟨Nat.le_of_ble_eq_true rfl, Nat.le_of_ble_eq_true rfl⟩) (hpic) (hX.recvx hK) rfl hl.1 rfl (Nat.le_of_ble_eq_true rfl) dL_hangs_792 ⟨Nat.zero_le _, Nat.zero_le _⟩ (fun r792 hr792 => ?_)
                                              obtain rfl := hr792
                                              rw [zAt_3 (by omega)]
                                              refine zv_isub hx hb dL_hangs_795 ?_
                                              refine lv_istore (lv' := [(7, .int (zI (sq - (zSE w (k + 1))))), (11, .int (zI (ir + (zCC (zOvP w n k) n (k + 1))))), (0, .ref (ad 16)), (1, .int (zI n)), (2, .int (zI 1)), (3, .int (zI tw)), (4, .int (zI le)), (9, .int (zI N9)), (10, .int (zI ov)), (12, .int (zI k))]) hx hb dL_hangs_796 hl (by decide) rfl (fun ls hl => ?_)
                                              refine zv_iinc (lv' := [(12, .int (zI (k + 1))), (7, .int (zI (sq - (zSE w (k + 1))))), (11, .int (zI (ir + (zCC (zOvP w n k) n (k + 1))))), (0, .ref (ad 16)), (1, .int (zI n)), (2, .int (zI 1)), (3, .int (zI tw)), (4, .int (zI le)), (9, .int (zI N9)), (10, .int (zI ov))]) hx hb dL_hangs_798 hl (k := 9) rfl (by decide) rfl (fun ls hl => ?_)
                                              refine lv_goto (tgt := 768) hx hb dL_hangs_801 (by decide) ?_
                                              exact ih768 (sq - (zSE w (k + 1))) (ir + (zCC (zOvP w n k) n (k + 1))) (k + 1) (by omega) (by rw [zS_succ _ (by omega), ← hB]) (by rw [zS_succ _ (by omega)]; omega) (by omega) _ (lv_sub hl [3, 4, 5, 6, 7, 1, 8, 9, 2, 0] rfl)
                                        exact lp768 _ S9 0 0 (by omega) ((zS_nil _ (by omega)).symm) (by rw [zS_nil _ (by omega)]; omega) (Nat.lt_succ_self _) _ (lv_sub hl [1, 2, 3, 4, 5, 6, 7, 8, 9, 0] rfl)
                                      · refine lv_iload_n hx hb dL_hangs_536 rfl (lv_at hl 2 rfl) ?_
                                        refine zv_if_eq (tgt := 765) hx hb dL_hangs_537 (by decide) (by omega) (fun c537 => ?_) (fun c537 => ?_)
                                        · exfalso; omega
                                        · obtain ⟨i, d, t, R, hrk, r0, r1, r2, r3, r4, r5, r6, r7, r8, r9, r11⟩ := zRun_at (w := w) (n := n) (k := k) hn0.1 (by omega) (by omega)
                                          have ho := zBf_ord hn0.2 h8.2 hrk
                                          refine lv_aload_n hx hb dL_hangs_540 rfl (lv_at hl 0 rfl) ?_
                                          refine lv_iload hx hb dL_hangs_541 (lv_at hl 10 rfl) ?_
                                          refine zv_iconst hx hb dL_hangs_543 ?_
                                          refine zc_V (As := [.int (zI k), .int (zI 0)]) (rest := []) S hK (kX9_run l g ad w n ee en hc u un hs tc tn k 0 (by omega) (by omega)) (cwV 2 hts gL_hangs_X9_run rfl rfl rfl (by decide +kernel) ⟨Nat.le_of_ble_eq_true rfl, Nat.le_of_ble_eq_true rfl⟩) (hpic) (hX.recvx hK) rfl hl.1 rfl (Nat.le_of_ble_eq_true rfl) dL_hangs_544 ⟨Nat.zero_le _, Nat.zero_le _⟩ (fun r544 hr544 => ?_)
                                          obtain rfl := hr544
                                          rw [r0]
                                          refine lv_istore (lv' := [(13, .int (zI i)), (0, .ref (ad 16)), (1, .int (zI n)), (2, .int (zI 1)), (3, .int (zI tw)), (4, .int (zI le)), (7, .int (zI S9)), (8, .int (zI bf)), (9, .int (zI N9)), (10, .int (zI ov)), (11, .int (zI 0)), (12, .int (zI k))]) hx hb dL_hangs_547 hl (by decide) rfl (fun ls hl => ?_)
                                          refine lv_aload_n hx hb dL_hangs_549 rfl (lv_at hl 1 rfl) ?_
                                          refine lv_iload hx hb dL_hangs_550 (lv_at hl 11 rfl) ?_
                                          refine zv_iconst hx hb dL_hangs_552 ?_
                                          refine zc_V (As := [.int (zI k), .int (zI 1)]) (rest := []) S hK (kX9_run l g ad w n ee en hc u un hs tc tn k 1 (by omega) (by omega)) (cwV 2 hts gL_hangs_X9_run rfl rfl rfl (by decide +kernel) ⟨Nat.le_of_ble_eq_true rfl, Nat.le_of_ble_eq_true rfl⟩) (hpic) (hX.recvx hK) rfl hl.1 rfl (Nat.le_of_ble_eq_true rfl) dL_hangs_553 ⟨Nat.zero_le _, Nat.zero_le _⟩ (fun r553 hr553 => ?_)
                                          obtain rfl := hr553
                                          rw [r1]
                                          refine lv_istore (lv' := [(14, .int (zI t)), (13, .int (zI i)), (0, .ref (ad 16)), (1, .int (zI n)), (2, .int (zI 1)), (3, .int (zI tw)), (4, .int (zI le)), (7, .int (zI S9)), (8, .int (zI bf)), (9, .int (zI N9)), (10, .int (zI ov)), (11, .int (zI 0)), (12, .int (zI k))]) hx hb dL_hangs_556 hl (by decide) rfl (fun ls hl => ?_)
                                          refine lv_aload_n hx hb dL_hangs_558 rfl (lv_at hl 2 rfl) ?_
                                          refine lv_iload hx hb dL_hangs_559 (lv_at hl 12 rfl) ?_
                                          refine zv_iconst hx hb dL_hangs_561 ?_
                                          refine zc_V (As := [.int (zI k), .int (zI 2)]) (rest := []) S hK (kX9_run l g ad w n ee en hc u un hs tc tn k 2 (by omega) (by omega)) (cwV 2 hts gL_hangs_X9_run rfl rfl rfl (by decide +kernel) ⟨Nat.le_of_ble_eq_true rfl, Nat.le_of_ble_eq_true rfl⟩) (hpic) (hX.recvx hK) rfl hl.1 rfl (Nat.le_of_ble_eq_true rfl) dL_hangs_562 ⟨Nat.zero_le _, Nat.zero_le _⟩ (fun r562 hr562 => ?_)
                                          obtain rfl := hr562
                                          rw [r2]
                                          refine lv_istore (lv' := [(15, .int (zI d)), (14, .int (zI t)), (13, .int (zI i)), (0, .ref (ad 16)), (1, .int (zI n)), (2, .int (zI 1)), (3, .int (zI tw)), (4, .int (zI le)), (7, .int (zI S9)), (8, .int (zI bf)), (9, .int (zI N9)), (10, .int (zI ov)), (11, .int (zI 0)), (12, .int (zI k))]) hx hb dL_hangs_565 hl (by decide) rfl (fun ls hl => ?_)
                                          refine lv_aload_n hx hb dL_hangs_567 rfl (lv_at hl 3 rfl) ?_
                                          refine lv_iload hx hb dL_hangs_568 (lv_at hl 13 rfl) ?_
                                          refine zv_iconst hx hb dL_hangs_570 ?_
                                          refine zc_V (As := [.int (zI k), .int (zI 3)]) (rest := []) S hK (kX9_run l g ad w n ee en hc u un hs tc tn k 3 (by omega) (by omega)) (cwV 2 hts gL_hangs_X9_run rfl rfl rfl (by decide +kernel) ⟨Nat.le_of_ble_eq_true rfl, Nat.le_of_ble_eq_true rfl⟩) (hpic) (hX.recvx hK) rfl hl.1 rfl (Nat.le_of_ble_eq_true rfl) dL_hangs_571 ⟨Nat.zero_le _, Nat.zero_le _⟩ (fun r571 hr571 => ?_)
                                          obtain rfl := hr571
                                          rw [r3]
                                          refine lv_istore (lv' := [(16, .int (zI R)), (15, .int (zI d)), (14, .int (zI t)), (13, .int (zI i)), (0, .ref (ad 16)), (1, .int (zI n)), (2, .int (zI 1)), (3, .int (zI tw)), (4, .int (zI le)), (7, .int (zI S9)), (8, .int (zI bf)), (9, .int (zI N9)), (10, .int (zI ov)), (11, .int (zI 0)), (12, .int (zI k))]) hx hb dL_hangs_574 hl (by decide) rfl (fun ls hl => ?_)
                                          refine lv_iload hx hb dL_hangs_576 (lv_at hl 2 rfl) ?_
                                          refine lv_iload_n hx hb dL_hangs_578 rfl (lv_at hl 5 rfl) ?_
                                          refine zv_icmp_gt (tgt := 737) hx hb dL_hangs_579 (by decide) (by omega) (by omega) (fun c579 => ?_) (fun c579 => ?_)
                                          · exfalso; omega
                                          · refine lv_iload hx hb dL_hangs_582 (lv_at hl 2 rfl) ?_
                                            refine lv_iload hx hb dL_hangs_584 (lv_at hl 3 rfl) ?_
                                            refine zv_isub hx hb dL_hangs_586 ?_
                                            refine zv_iconst hx hb dL_hangs_587 ?_
                                            refine lv_iload hx hb dL_hangs_588 (lv_at hl 1 rfl) ?_
                                            refine zv_imul hx hb dL_hangs_590 ?_
                                            refine zv_icmp_lt (tgt := 737) hx hb dL_hangs_591 (by decide) (by omega) (by omega) (fun c591 => ?_) (fun c591 => ?_)
                                            · exfalso; omega
                                            · refine lv_aload_n hx hb dL_hangs_594 rfl (lv_at hl 4 rfl) ?_
                                              refine lv_iload hx hb dL_hangs_595 (lv_at hl 3 rfl) ?_
                                              refine lv_iload hx hb dL_hangs_597 (lv_at hl 2 rfl) ?_
                                              refine zv_bipush hx hb dL_hangs_599 (by decide +kernel) ?_
                                              refine zc_V (As := [.int (zI i), .int (zI t), .int (zI 6)]) (rest := []) S hK (kX9_factor l g ad w n ee en hc u un hs tc tn i t 6 (by omega) (by omega) (by omega)) (cwV 3 hts gL_hangs_X9_factor rfl rfl rfl (by decide +kernel) ⟨Nat.le_of_ble_eq_true rfl, Nat.le_of_ble_eq_true rfl⟩) (hpic) (hX.recvx hK) rfl hl.1 rfl (Nat.le_of_ble_eq_true rfl) dL_hangs_601 ⟨Nat.zero_le _, Nat.zero_le _⟩ (fun r601 hr601 => ?_)
                                              obtain rfl := hr601
                                              rw [aFac_6 (by omega), r6]
                                              refine lv_iload hx hb dL_hangs_604 (lv_at hl 1 rfl) ?_
                                              refine zv_icmp_ne (tgt := 737) hx hb dL_hangs_606 (by decide) (by omega) (by omega) (fun c606 => ?_) (fun c606 => ?_)
                                              · exfalso; omega
                                              · have jn638 : ∀ (_ : Unit), ∀ (ls : Array Slot), lv_has ls 17 [(16, .int (zI R)), (15, .int (zI d)), (14, .int (zI t)), (13, .int (zI i)), (0, .ref (ad 16)), (1, .int (zI n)), (2, .int (zI 1)), (3, .int (zI tw)), (4, .int (zI le)), (7, .int (zI S9)), (8, .int (zI bf)), (9, .int (zI N9)), (10, .int (zI ov)), (11, .int (zI 0)), (12, .int (zI k))] → W p l e (zRm 7 164) s m args below meth c s.heap [] 0 0 (MQ below (vp_Si (fun r => r = zI 1)) args s 0 0 (fun _ => False)) (F0 m 638 ls []) := by
                                                  intro _  ls hl
                                                  have jn664 : ∀ (_ : Unit), ∀ (ls : Array Slot), lv_has ls 17 [(16, .int (zI R)), (15, .int (zI d)), (14, .int (zI t)), (13, .int (zI i)), (0, .ref (ad 16)), (1, .int (zI n)), (2, .int (zI 1)), (3, .int (zI tw)), (4, .int (zI le)), (7, .int (zI S9)), (8, .int (zI bf)), (9, .int (zI N9)), (10, .int (zI ov)), (11, .int (zI 0)), (12, .int (zI k))] → W p l e (zRm 7 164) s m args below meth c s.heap [] 0 0 (MQ below (vp_Si (fun r => r = zI 1)) args s 0 0 (fun _ => False)) (F0 m 664 ls []) := by
                                                    intro _  ls hl
                                                    refine lv_iload hx hb dL_hangs_664 (lv_at hl 0 rfl) ?_
                                                    refine lv_iload hx hb dL_hangs_666 (lv_at hl 3 rfl) ?_
                                                    refine zv_icmp_lt (tgt := 737) hx hb dL_hangs_668 (by decide) (by omega) (by omega) (fun c668 => ?_) (fun c668 => ?_)
                                                    · exfalso; omega
                                                    · refine lv_iload hx hb dL_hangs_671 (lv_at hl 0 rfl) ?_
                                                      refine lv_iload hx hb dL_hangs_673 (lv_at hl 3 rfl) ?_
                                                      refine lv_iload hx hb dL_hangs_675 (lv_at hl 1 rfl) ?_
                                                      refine zv_iadd hx hb dL_hangs_677 ?_
                                                      refine zv_icmp_ge (tgt := 737) hx hb dL_hangs_678 (by decide) (by omega) (by omega) (fun c678 => ?_) (fun c678 => ?_)
                                                      · exfalso; omega
                                                      · refine lv_aload_n hx hb dL_hangs_681 rfl (lv_at hl 4 rfl) ?_
                                                        refine lv_iload hx hb dL_hangs_682 (lv_at hl 0 rfl) ?_
                                                        refine lv_iload hx hb dL_hangs_684 (lv_at hl 0 rfl) ?_
                                                        refine lv_iload hx hb dL_hangs_686 (lv_at hl 1 rfl) ?_
                                                        refine zv_iadd hx hb dL_hangs_688 ?_
                                                        refine zv_bipush hx hb dL_hangs_689 (by decide +kernel) ?_
                                                        refine zc_V (As := [.int (zI R), .int (zI (R + d)), .int (zI 8)]) (rest := []) S hK (kX9_factor l g ad w n ee en hc u un hs tc tn R (R + d) 8 (by omega) (by omega) (by omega)) (cwV 3 hts gL_hangs_X9_factor rfl rfl rfl (by decide +kernel) ⟨Nat.le_of_ble_eq_true rfl, Nat.le_of_ble_eq_true rfl⟩) (hpic) (hX.recvx hK) rfl hl.1 rfl (Nat.le_of_ble_eq_true rfl) dL_hangs_691 ⟨Nat.zero_le _, Nat.zero_le _⟩ (fun r691 hr691 => ?_)
                                                        obtain rfl := hr691
                                                        rw [aFac_8 (by omega), zB_t r9]
                                                        refine zv_iconst hx hb dL_hangs_694 ?_
                                                        refine zv_icmp_ne (tgt := 737) hx hb dL_hangs_695 (by decide) (by omega) (by omega) (fun c695 => ?_) (fun c695 => ?_)
                                                        · exfalso; omega
                                                        · refine lv_aload_n hx hb dL_hangs_698 rfl (lv_at hl 4 rfl) ?_
                                                          refine lv_iload hx hb dL_hangs_699 (lv_at hl 14 rfl) ?_
                                                          refine zv_iconst hx hb dL_hangs_701 ?_
                                                          refine zc_V (As := [.int (zI k), .int (zI 4)]) (rest := []) S hK (kX9_run l g ad w n ee en hc u un hs tc tn k 4 (by omega) (by omega)) (cwV 2 hts gL_hangs_X9_run rfl rfl rfl (by decide +kernel) ⟨Nat.le_of_ble_eq_true rfl, Nat.le_of_ble_eq_true rfl⟩) (hpic) (hX.recvx hK) rfl hl.1 rfl (Nat.le_of_ble_eq_true rfl) dL_hangs_702 ⟨Nat.zero_le _, Nat.zero_le _⟩ (fun r702 hr702 => ?_)
                                                          obtain rfl := hr702
                                                          rw [r4]
                                                          refine lv_iload hx hb dL_hangs_705 (lv_at hl 2 rfl) ?_
                                                          refine lv_iload hx hb dL_hangs_707 (lv_at hl 3 rfl) ?_
                                                          refine zv_isub hx hb dL_hangs_709 ?_
                                                          refine zv_iconst hx hb dL_hangs_710 ?_
                                                          refine lv_iload hx hb dL_hangs_711 (lv_at hl 1 rfl) ?_
                                                          refine zv_imul hx hb dL_hangs_713 ?_
                                                          refine zv_isub hx hb dL_hangs_714 ?_
                                                          refine zv_iconst hx hb dL_hangs_715 ?_
                                                          refine zv_iadd hx hb dL_hangs_716 ?_
                                                          refine zv_icmp_ne (tgt := 737) hx hb dL_hangs_717 (by decide) (by omega) (by omega) (fun c717 => ?_) (fun c717 => ?_)
                                                          · exfalso; omega
                                                          · refine zv_bipush hx hb dL_hangs_720 (by decide +kernel) ?_
                                                            refine lv_iload hx hb dL_hangs_722 (lv_at hl 3 rfl) ?_
                                                            refine zv_imul hx hb dL_hangs_724 ?_
                                                            refine lv_iload hx hb dL_hangs_725 (lv_at hl 1 rfl) ?_
                                                            refine zv_iadd hx hb dL_hangs_727 ?_
                                                            refine lv_iload hx hb dL_hangs_728 (lv_at hl 10 rfl) ?_
                                                            refine zv_icmp_le (tgt := 737) hx hb dL_hangs_730 (by decide) (by omega) (by omega) (fun c730 => ?_) (fun c730 => ?_)
                                                            · exfalso; omega
                                                            · refine zv_iconst hx hb dL_hangs_733 ?_
                                                              refine lv_goto (tgt := 738) hx hb dL_hangs_734 (by decide) ?_
                                                              refine lv_istore_n (lv' := [(2, .int (zI 1)), (16, .int (zI R)), (15, .int (zI d)), (14, .int (zI t)), (13, .int (zI i)), (0, .ref (ad 16)), (1, .int (zI n)), (3, .int (zI tw)), (4, .int (zI le)), (7, .int (zI S9)), (8, .int (zI bf)), (9, .int (zI N9)), (10, .int (zI ov)), (11, .int (zI 0)), (12, .int (zI k))]) hx hb dL_hangs_738 rfl hl (by decide) rfl (fun ls hl => ?_)
                                                              refine zv_bipush hx hb dL_hangs_739 (by decide +kernel) ?_
                                                              refine lv_iload hx hb dL_hangs_741 (lv_at hl 4 rfl) ?_
                                                              refine zv_imul hx hb dL_hangs_743 ?_
                                                              refine lv_iload hx hb dL_hangs_744 (lv_at hl 2 rfl) ?_
                                                              refine zv_iadd hx hb dL_hangs_746 ?_
                                                              refine lv_istore (lv' := [(8, .int (zI ((50 * i) + d))), (2, .int (zI 1)), (16, .int (zI R)), (15, .int (zI d)), (14, .int (zI t)), (13, .int (zI i)), (0, .ref (ad 16)), (1, .int (zI n)), (3, .int (zI tw)), (4, .int (zI le)), (7, .int (zI S9)), (9, .int (zI N9)), (10, .int (zI ov)), (11, .int (zI 0)), (12, .int (zI k))]) hx hb dL_hangs_747 hl (by decide) rfl (fun ls hl => ?_)
                                                              refine lv_iload hx hb dL_hangs_749 (lv_at hl 12 rfl) ?_
                                                              refine lv_iload hx hb dL_hangs_751 (lv_at hl 4 rfl) ?_
                                                              refine lv_iload hx hb dL_hangs_753 (lv_at hl 5 rfl) ?_
                                                              refine zv_isub hx hb dL_hangs_755 ?_
                                                              refine zv_iadd hx hb dL_hangs_756 ?_
                                                              refine lv_istore (lv' := [(10, .int (zI (ov + (t - i)))), (8, .int (zI ((50 * i) + d))), (2, .int (zI 1)), (16, .int (zI R)), (15, .int (zI d)), (14, .int (zI t)), (13, .int (zI i)), (0, .ref (ad 16)), (1, .int (zI n)), (3, .int (zI tw)), (4, .int (zI le)), (7, .int (zI S9)), (9, .int (zI N9)), (11, .int (zI 0)), (12, .int (zI k))]) hx hb dL_hangs_757 hl (by decide) rfl (fun ls hl => ?_)
                                                              refine zv_iinc (lv' := [(12, .int (zI (k + 1))), (10, .int (zI (ov + (t - i)))), (8, .int (zI ((50 * i) + d))), (2, .int (zI 1)), (16, .int (zI R)), (15, .int (zI d)), (14, .int (zI t)), (13, .int (zI i)), (0, .ref (ad 16)), (1, .int (zI n)), (3, .int (zI tw)), (4, .int (zI le)), (7, .int (zI S9)), (9, .int (zI N9)), (11, .int (zI 0))]) hx hb dL_hangs_759 hl (k := 14) rfl (by decide) rfl (fun ls hl => ?_)
                                                              refine lv_goto (tgt := 529) hx hb dL_hangs_762 (by decide) ?_
                                                              exact ih529 ((50 * i) + d) (ov + (t - i)) (k + 1) (by omega) (⟨by omega, zBf_up hrk (by omega)⟩) (by rw [zS_succ _ (by omega), ← h9]; show ov + (t - i) = ov + zRk (zRun w n) n k (fun i d => zRT w n i d - i); rw [r11]) (by omega) _ (lv_sub hl [8, 9, 3, 10, 11, 12, 2, 13, 1, 14, 0] rfl)
                                                  refine lv_iload hx hb dL_hangs_638 (lv_at hl 2 rfl) ?_
                                                  refine lv_iload_n hx hb dL_hangs_640 rfl (lv_at hl 5 rfl) ?_
                                                  refine zv_icmp_eq (tgt := 664) hx hb dL_hangs_641 (by decide) (by omega) (by omega) (fun c641 => ?_) (fun c641 => ?_)
                                                  · exact jn664 ()  _ (lv_sub hl [0, 1, 2, 3, 4, 5, 6, 7, 8, 9, 10, 11, 12, 13, 14] rfl)
                                                  · have ne2 : w t ≠ w (t - d) := r8.elim (fun v => absurd v (by omega)) id
                                                    have bw3 := hw t (by omega) (by omega)
                                                    have bw4 := hw (t - d) (by omega) (by omega)
                                                    refine lv_aload_n hx hb dL_hangs_644 rfl (lv_at hl 4 rfl) ?_
                                                    refine lv_iload hx hb dL_hangs_645 (lv_at hl 2 rfl) ?_
                                                    refine zv_iconst hx hb dL_hangs_647 ?_
                                                    refine zc_V (As := [.int (zI t), .int (zI 0)]) (rest := []) S hK (kX9_at l g ad w n ee en hc u un hs tc tn t 0 (by omega) (by omega)) (cwV 2 hts gL_hangs_X9_at rfl rfl rfl (by decide +kernel) ⟨Nat.le_of_ble_eq_true rfl, Nat.le_of_ble_eq_true rfl⟩) (hpic) (hX.recvx hK) rfl hl.1 rfl (Nat.le_of_ble_eq_true rfl) dL_hangs_648 ⟨Nat.zero_le _, Nat.zero_le _⟩ (fun r648 hr648 => ?_)
                                                    obtain rfl := hr648
                                                    rw [zAt_0 (by omega)]
                                                    refine lv_aload_n hx hb dL_hangs_651 rfl (lv_at hl 4 rfl) ?_
                                                    refine lv_iload hx hb dL_hangs_652 (lv_at hl 2 rfl) ?_
                                                    refine lv_iload hx hb dL_hangs_654 (lv_at hl 1 rfl) ?_
                                                    refine zv_isub hx hb dL_hangs_656 ?_
                                                    refine zv_iconst hx hb dL_hangs_657 ?_
                                                    refine zc_V (As := [.int (zI (t - d)), .int (zI 0)]) (rest := [.int (zI (w t))]) S hK (kX9_at l g ad w n ee en hc u un hs tc tn (t - d) 0 (by omega) (by omega)) (cwV 2 hts gL_hangs_X9_at rfl rfl rfl (by decide +kernel) ⟨Nat.le_of_ble_eq_true rfl, Nat.le_of_ble_eq_true rfl⟩) (hpic) (hX.recvx hK) rfl hl.1 rfl (Nat.le_of_ble_eq_true rfl) dL_hangs_658 ⟨Nat.zero_le _, Nat.zero_le _⟩ (fun r658 hr658 => ?_)
                                                    obtain rfl := hr658
                                                    rw [zAt_0 (by omega)]
                                                    refine zv_icmp_eq (tgt := 737) hx hb dL_hangs_661 (by decide) (by omega) (by omega) (fun c661 => ?_) (fun c661 => ?_)
                                                    · exact absurd c661 ne2
                                                    · exact jn664 ()  _ (lv_sub hl [0, 1, 2, 3, 4, 5, 6, 7, 8, 9, 10, 11, 12, 13, 14] rfl)
                                                refine lv_iload hx hb dL_hangs_609 (lv_at hl 3 rfl) ?_
                                                refine zv_if_eq (tgt := 638) hx hb dL_hangs_611 (by decide) (by omega) (fun c611 => ?_) (fun c611 => ?_)
                                                · exact jn638 ()  _ (lv_sub hl [0, 1, 2, 3, 4, 5, 6, 7, 8, 9, 10, 11, 12, 13, 14] rfl)
                                                · have ne1 : w (i - 1) ≠ w (i - 1 + d) := r7.elim (fun v => absurd v (by omega)) id
                                                  have bw1 := hw (i - 1) (by omega) (by omega)
                                                  have bw2 := hw (i - 1 + d) (by omega) (by omega)
                                                  refine lv_aload_n hx hb dL_hangs_614 rfl (lv_at hl 4 rfl) ?_
                                                  refine lv_iload hx hb dL_hangs_615 (lv_at hl 3 rfl) ?_
                                                  refine zv_iconst hx hb dL_hangs_617 ?_
                                                  refine zv_isub hx hb dL_hangs_618 ?_
                                                  refine zv_iconst hx hb dL_hangs_619 ?_
                                                  refine zc_V (As := [.int (zI (i - 1)), .int (zI 0)]) (rest := []) S hK (kX9_at l g ad w n ee en hc u un hs tc tn (i - 1) 0 (by omega) (by omega)) (cwV 2 hts gL_hangs_X9_at rfl rfl rfl (by decide +kernel) ⟨Nat.le_of_ble_eq_true rfl, Nat.le_of_ble_eq_true rfl⟩) (hpic) (hX.recvx hK) rfl hl.1 rfl (Nat.le_of_ble_eq_true rfl) dL_hangs_620 ⟨Nat.zero_le _, Nat.zero_le _⟩ (fun r620 hr620 => ?_)
                                                  obtain rfl := hr620
                                                  rw [zAt_0 (by omega)]
                                                  refine lv_aload_n hx hb dL_hangs_623 rfl (lv_at hl 4 rfl) ?_
                                                  refine lv_iload hx hb dL_hangs_624 (lv_at hl 3 rfl) ?_
                                                  refine zv_iconst hx hb dL_hangs_626 ?_
                                                  refine zv_isub hx hb dL_hangs_627 ?_
                                                  refine lv_iload hx hb dL_hangs_628 (lv_at hl 1 rfl) ?_
                                                  refine zv_iadd hx hb dL_hangs_630 ?_
                                                  refine zv_iconst hx hb dL_hangs_631 ?_
                                                  refine zc_V (As := [.int (zI ((i - 1) + d)), .int (zI 0)]) (rest := [.int (zI (w (i - 1)))]) S hK (kX9_at l g ad w n ee en hc u un hs tc tn ((i - 1) + d) 0 (by omega) (by omega)) (cwV 2 hts gL_hangs_X9_at rfl rfl rfl (by decide +kernel) ⟨Nat.le_of_ble_eq_true rfl, Nat.le_of_ble_eq_true rfl⟩) (hpic) (hX.recvx hK) rfl hl.1 rfl (Nat.le_of_ble_eq_true rfl) dL_hangs_632 ⟨Nat.zero_le _, Nat.zero_le _⟩ (fun r632 hr632 => ?_)
                                                  obtain rfl := hr632
                                                  rw [zAt_0 (by omega)]
                                                  refine zv_icmp_eq (tgt := 737) hx hb dL_hangs_635 (by decide) (by omega) (by omega) (fun c635 => ?_) (fun c635 => ?_)
                                                  · exact absurd c635 ne1
                                                  · exact jn638 ()  _ (lv_sub hl [0, 1, 2, 3, 4, 5, 6, 7, 8, 9, 10, 11, 12, 13, 14] rfl)
                                  exact lp529 _ (-1) 0 0 (by omega) (⟨by omega, zBf_0 _ _ _⟩) ((zS_nil _ (by omega)).symm) (Nat.lt_succ_self _) _ (lv_sub hl [6, 7, 1, 8, 9, 10, 2, 5, 4, 3, 0] rfl)
                            · refine lv_iload_n hx hb dL_hangs_385 rfl (lv_at hl 2 rfl) ?_
                              refine zv_if_eq (tgt := 488) hx hb dL_hangs_386 (by decide) (by omega) (fun c386 => ?_) (fun c386 => ?_)
                              · exfalso; omega
                              · obtain ⟨i, d, hrk, s0, s1, s2, s3⟩ := zSq_at (w := w) (n := n) (k := k) hn0.1 (by omega) (by omega)
                                have ho := zBf_ord hn0.2 h6.2 hrk
                                have ss : zSameP w n i (i + d) d := zSame_of (by omega) (by omega) s3
                                refine lv_aload_n hx hb dL_hangs_389 rfl (lv_at hl 0 rfl) ?_
                                refine lv_iload hx hb dL_hangs_390 (lv_at hl 7 rfl) ?_
                                refine zv_iconst hx hb dL_hangs_392 ?_
                                refine zc_V (As := [.int (zI k), .int (zI 0)]) (rest := []) S hK (kX9_square l g ad w n ee en hc u un hs tc tn k 0 (by omega) (by omega)) (cwV 2 hts gL_hangs_X9_square rfl rfl rfl (by decide +kernel) ⟨Nat.le_of_ble_eq_true rfl, Nat.le_of_ble_eq_true rfl⟩) (hpic) (hX.recvx hK) rfl hl.1 rfl (Nat.le_of_ble_eq_true rfl) dL_hangs_393 ⟨Nat.zero_le _, Nat.zero_le _⟩ (fun r393 hr393 => ?_)
                                obtain rfl := hr393
                                rw [s0]
                                refine lv_istore (lv' := [(10, .int (zI i)), (0, .ref (ad 16)), (1, .int (zI n)), (2, .int (zI 1)), (3, .int (zI tw)), (4, .int (zI le)), (7, .int (zI S9)), (8, .int (zI bf)), (9, .int (zI k))]) hx hb dL_hangs_396 hl (by decide) rfl (fun ls hl => ?_)
                                refine lv_aload_n hx hb dL_hangs_398 rfl (lv_at hl 1 rfl) ?_
                                refine lv_iload hx hb dL_hangs_399 (lv_at hl 8 rfl) ?_
                                refine zv_iconst hx hb dL_hangs_401 ?_
                                refine zc_V (As := [.int (zI k), .int (zI 1)]) (rest := []) S hK (kX9_square l g ad w n ee en hc u un hs tc tn k 1 (by omega) (by omega)) (cwV 2 hts gL_hangs_X9_square rfl rfl rfl (by decide +kernel) ⟨Nat.le_of_ble_eq_true rfl, Nat.le_of_ble_eq_true rfl⟩) (hpic) (hX.recvx hK) rfl hl.1 rfl (Nat.le_of_ble_eq_true rfl) dL_hangs_402 ⟨Nat.zero_le _, Nat.zero_le _⟩ (fun r402 hr402 => ?_)
                                obtain rfl := hr402
                                rw [s1]
                                refine lv_istore (lv' := [(11, .int (zI d)), (10, .int (zI i)), (0, .ref (ad 16)), (1, .int (zI n)), (2, .int (zI 1)), (3, .int (zI tw)), (4, .int (zI le)), (7, .int (zI S9)), (8, .int (zI bf)), (9, .int (zI k))]) hx hb dL_hangs_405 hl (by decide) rfl (fun ls hl => ?_)
                                refine lv_iload hx hb dL_hangs_407 (lv_at hl 1 rfl) ?_
                                refine zv_if_lt (tgt := 461) hx hb dL_hangs_409 (by decide) (by omega) (fun c409 => ?_) (fun c409 => ?_)
                                · exfalso; omega
                                · refine lv_iload hx hb dL_hangs_412 (lv_at hl 0 rfl) ?_
                                  refine zv_if_le (tgt := 461) hx hb dL_hangs_414 (by decide) (by omega) (fun c414 => ?_) (fun c414 => ?_)
                                  · exfalso; omega
                                  · refine lv_iload hx hb dL_hangs_417 (lv_at hl 1 rfl) ?_
                                    refine zv_iconst hx hb dL_hangs_419 ?_
                                    refine lv_iload hx hb dL_hangs_420 (lv_at hl 0 rfl) ?_
                                    refine zv_imul hx hb dL_hangs_422 ?_
                                    refine zv_iadd hx hb dL_hangs_423 ?_
                                    refine lv_iload_n hx hb dL_hangs_424 rfl (lv_at hl 3 rfl) ?_
                                    refine zv_icmp_gt (tgt := 461) hx hb dL_hangs_425 (by decide) (by omega) (by omega) (fun c425 => ?_) (fun c425 => ?_)
                                    · exfalso; omega
                                    · refine lv_aload_n hx hb dL_hangs_428 rfl (lv_at hl 2 rfl) ?_
                                      refine lv_iload hx hb dL_hangs_429 (lv_at hl 1 rfl) ?_
                                      refine lv_iload hx hb dL_hangs_431 (lv_at hl 1 rfl) ?_
                                      refine lv_iload hx hb dL_hangs_433 (lv_at hl 0 rfl) ?_
                                      refine zv_iadd hx hb dL_hangs_435 ?_
                                      refine lv_iload hx hb dL_hangs_436 (lv_at hl 0 rfl) ?_
                                      refine zc_S (As := [.ref (ad 16), .int (zI i), .int (zI (i + d)), .int (zI d)]) (rest := []) S hK (kL_same l g ad w n ee en hc u un hs tc tn i (i + d) d (by omega)) (va_cwS 4 hts gL_hangs_L_same rfl rfl rfl (by decide +kernel) ⟨Nat.le_of_ble_eq_true rfl, Nat.le_of_ble_eq_true rfl⟩) (hpic) rfl hl.1 rfl (Nat.le_of_ble_eq_true rfl) dL_hangs_438 ⟨Nat.zero_le _, Nat.zero_le _⟩ (fun r438 hr438 => ?_)
                                      obtain rfl := hr438
                                      rw [zB_t ss]
                                      refine zv_if_eq (tgt := 461) hx hb dL_hangs_441 (by decide) (by omega) (fun c441 => ?_) (fun c441 => ?_)
                                      · exfalso; omega
                                      · refine zv_bipush hx hb dL_hangs_444 (by decide +kernel) ?_
                                        refine lv_iload hx hb dL_hangs_446 (lv_at hl 1 rfl) ?_
                                        refine zv_imul hx hb dL_hangs_448 ?_
                                        refine lv_iload hx hb dL_hangs_449 (lv_at hl 0 rfl) ?_
                                        refine zv_iadd hx hb dL_hangs_451 ?_
                                        refine lv_iload hx hb dL_hangs_452 (lv_at hl 8 rfl) ?_
                                        refine zv_icmp_le (tgt := 461) hx hb dL_hangs_454 (by decide) (by omega) (by omega) (fun c454 => ?_) (fun c454 => ?_)
                                        · exfalso; omega
                                        · refine zv_iconst hx hb dL_hangs_457 ?_
                                          refine lv_goto (tgt := 462) hx hb dL_hangs_458 (by decide) ?_
                                          refine lv_istore_n (lv' := [(2, .int (zI 1)), (11, .int (zI d)), (10, .int (zI i)), (0, .ref (ad 16)), (1, .int (zI n)), (3, .int (zI tw)), (4, .int (zI le)), (7, .int (zI S9)), (8, .int (zI bf)), (9, .int (zI k))]) hx hb dL_hangs_462 rfl hl (by decide) rfl (fun ls hl => ?_)
                                          refine zv_bipush hx hb dL_hangs_463 (by decide +kernel) ?_
                                          refine lv_iload hx hb dL_hangs_465 (lv_at hl 2 rfl) ?_
                                          refine zv_imul hx hb dL_hangs_467 ?_
                                          refine lv_iload hx hb dL_hangs_468 (lv_at hl 1 rfl) ?_
                                          refine zv_iadd hx hb dL_hangs_470 ?_
                                          refine lv_istore (lv' := [(8, .int (zI ((50 * i) + d))), (2, .int (zI 1)), (11, .int (zI d)), (10, .int (zI i)), (0, .ref (ad 16)), (1, .int (zI n)), (3, .int (zI tw)), (4, .int (zI le)), (7, .int (zI S9)), (9, .int (zI k))]) hx hb dL_hangs_471 hl (by decide) rfl (fun ls hl => ?_)
                                          refine lv_iload hx hb dL_hangs_473 (lv_at hl 9 rfl) ?_
                                          refine zv_iconst hx hb dL_hangs_475 ?_
                                          refine lv_iload hx hb dL_hangs_476 (lv_at hl 8 rfl) ?_
                                          refine zv_bipush hx hb dL_hangs_478 (by decide +kernel) ?_
                                          refine zv_idiv hx hb dL_hangs_480 (by omega) (by omega) ?_
                                          refine zv_iadd hx hb dL_hangs_481 ?_
                                          refine zv_iadd hx hb dL_hangs_482 ?_
                                          refine lv_istore (lv' := [(9, .int (zI (k + (1 + (S9 / 16))))), (8, .int (zI ((50 * i) + d))), (2, .int (zI 1)), (11, .int (zI d)), (10, .int (zI i)), (0, .ref (ad 16)), (1, .int (zI n)), (3, .int (zI tw)), (4, .int (zI le)), (7, .int (zI S9))]) hx hb dL_hangs_483 hl (by decide) rfl (fun ls hl => ?_)
                                          refine lv_goto (tgt := 378) hx hb dL_hangs_485 (by decide) ?_
                                          exact ih378 ((50 * i) + d) (k + (1 + (S9 / 16))) (by omega) (⟨by omega, zBf_up hrk (by omega)⟩) (by omega) _ (lv_sub hl [5, 6, 2, 7, 8, 9, 1, 0] rfl)
                        exact lp378 _ (-1) 0 (by omega) (⟨by omega, zBf_0 _ _ _⟩) (Nat.lt_succ_self _) _ (lv_sub hl [4, 5, 1, 6, 7, 3, 2, 0] rfl)
                  refine lv_iload_n hx hb dL_hangs_266 rfl (lv_at hl 1 rfl) ?_
                  refine lv_istore (lv' := [(5, .int (zI n)), (0, .ref (ad 16)), (1, .int (zI n)), (2, .int (zI 1)), (3, .int (zI tw)), (4, .int (zI le))]) hx hb dL_hangs_267 hl (by decide) rfl (fun ls hl => ?_)
                  refine zv_iconst hx hb dL_hangs_269 ?_
                  refine lv_istore (lv' := [(6, .int (zI 0)), (5, .int (zI n)), (0, .ref (ad 16)), (1, .int (zI n)), (2, .int (zI 1)), (3, .int (zI tw)), (4, .int (zI le))]) hx hb dL_hangs_270 hl (by decide) rfl (fun ls hl => ?_)
                  have lp272 : ∀ (z_f : Nat) (b : Int) (r : Int), ((0 ≤ r ∧ r ≤ 100) ∧ (-4 ≤ b ∧ b ≤ n) ∧ (0 < b → r + b ≤ n)) → (0 < b → b = zch w 0 n r.toNat n) → ((b + 5).toNat) < z_f → ∀ (ls : Array Slot), lv_has ls 17 [(0, .ref (ad 16)), (1, .int (zI n)), (2, .int (zI 1)), (3, .int (zI tw)), (4, .int (zI le)), (5, .int (zI b)), (6, .int (zI r))] → W p l e (zRm 7 164) s m args below meth c s.heap [] 0 0 (MQ below (vp_Si (fun r => r = zI 1)) args s 0 0 (fun _ => False)) (F0 m 272 ls []) := by
                    intro z_f
                    induction z_f with
                    | zero => intro b r h3 h4 z_m; exact absurd z_m (Nat.not_lt_zero _)
                    | succ z_f ih272 =>
                      intro b r h3 h4 z_m272 ls hl
                      refine lv_iload_n hx hb dL_hangs_272 rfl (lv_at hl 2 rfl) ?_
                      refine zv_if_eq (tgt := 343) hx hb dL_hangs_273 (by decide) (by omega) (fun c273 => ?_) (fun c273 => ?_)
                      · exfalso; omega
                      · refine lv_iload_n hx hb dL_hangs_276 rfl (lv_at hl 1 rfl) ?_
                        refine zv_if_le (tgt := 343) hx hb dL_hangs_277 (by decide) (by omega) (fun c277 => ?_) (fun c277 => ?_)
                        · exact jn343 ()  _ (lv_sub hl [0, 1, 2, 3, 4] rfl)
                        · refine lv_iload hx hb dL_hangs_280 (lv_at hl 5 rfl) ?_
                          refine zv_if_le (tgt := 343) hx hb dL_hangs_282 (by decide) (by omega) (fun c282 => ?_) (fun c282 => ?_)
                          · exact jn343 ()  _ (lv_sub hl [0, 1, 2, 3, 4] rfl)
                          · have hst := zBd_step (w := w) (n := n) (b := b) (r := r) (by omega) (h4 (by omega)) (by omega)
                            obtain ⟨o, eo⟩ : ∃ o : Int, o = zBorder w n r := ⟨_, rfl⟩
                            have bo : o = -4 ∨ (0 < o ∧ o < b) := by omega
                            have so : ¬ o = -4 → zSameP w n 0 (n - o) o := fun v => by
                              rcases hst with z | z
                              · exact absurd (eo.trans z) v
                              · rw [← eo] at z; exact zSame_of (by omega) (by omega) z.2.2.1
                            refine lv_aload_n hx hb dL_hangs_285 rfl (lv_at hl 0 rfl) ?_
                            refine lv_iload_n hx hb dL_hangs_286 rfl (lv_at hl 1 rfl) ?_
                            refine lv_iload hx hb dL_hangs_287 (lv_at hl 6 rfl) ?_
                            refine zc_V (As := [.int (zI n), .int (zI r)]) (rest := []) S hK (kX9_border l g ad w n ee en hc u un hs tc tn n r (by omega) (by omega)) (cwV 2 hts gL_hangs_X9_border rfl rfl rfl (by decide +kernel) ⟨Nat.le_of_ble_eq_true rfl, Nat.le_of_ble_eq_true rfl⟩) (hpic) (hX.recvx hK) rfl hl.1 rfl (Nat.le_of_ble_eq_true rfl) dL_hangs_289 ⟨Nat.zero_le _, Nat.zero_le _⟩ (fun r289 hr289 => ?_)
                            obtain rfl := hr289
                            rw [aBorder_in (by omega) (by omega), ← eo]
                            refine lv_istore (lv' := [(7, .int (zI o)), (0, .ref (ad 16)), (1, .int (zI n)), (2, .int (zI 1)), (3, .int (zI tw)), (4, .int (zI le)), (5, .int (zI b)), (6, .int (zI r))]) hx hb dL_hangs_292 hl (by decide) rfl (fun ls hl => ?_)
                            refine lv_iload hx hb dL_hangs_294 (lv_at hl 0 rfl) ?_
                            refine zv_bipush hx hb dL_hangs_296 (by decide +kernel) ?_
                            refine zv_icmp_eq (tgt := 327) hx hb dL_hangs_298 (by decide) (by omega) (by omega) (fun c298 => ?_) (fun c298 => ?_)
                            · refine zv_iconst hx hb dL_hangs_327 ?_
                              refine lv_goto (tgt := 332) hx hb dL_hangs_328 (by decide) ?_
                              refine lv_istore_n (lv' := [(2, .int (zI 1)), (7, .int (zI o)), (0, .ref (ad 16)), (1, .int (zI n)), (3, .int (zI tw)), (4, .int (zI le)), (5, .int (zI b)), (6, .int (zI r))]) hx hb dL_hangs_332 rfl hl (by decide) rfl (fun ls hl => ?_)
                              refine lv_iload hx hb dL_hangs_333 (lv_at hl 1 rfl) ?_
                              refine lv_istore (lv' := [(5, .int (zI o)), (2, .int (zI 1)), (7, .int (zI o)), (0, .ref (ad 16)), (1, .int (zI n)), (3, .int (zI tw)), (4, .int (zI le)), (6, .int (zI r))]) hx hb dL_hangs_335 hl (by decide) rfl (fun ls hl => ?_)
                              refine zv_iinc (lv' := [(6, .int (zI (r + 1))), (5, .int (zI o)), (2, .int (zI 1)), (7, .int (zI o)), (0, .ref (ad 16)), (1, .int (zI n)), (3, .int (zI tw)), (4, .int (zI le))]) hx hb dL_hangs_337 hl (k := 7) rfl (by decide) rfl (fun ls hl => ?_)
                              refine lv_goto (tgt := 272) hx hb dL_hangs_340 (by decide) ?_
                              exact ih272 o (r + 1) (by omega) (fun v => (show zBorder w n r = -4 ∨ (0 < zBorder w n r ∧ zBorder w n r < b ∧ zSm w 0 (n - zBorder w n r) (zBorder w n r) ∧ zBorder w n r = zch w 0 n (r + 1).toNat n) from hst).elim (fun z => absurd z (by omega)) (fun z => by rw [eo]; exact z.2.2.2)) (by omega) _ (lv_sub hl [4, 5, 2, 6, 7, 1, 0] rfl)
                            · refine lv_iload hx hb dL_hangs_301 (lv_at hl 0 rfl) ?_
                              refine zv_if_le (tgt := 331) hx hb dL_hangs_303 (by decide) (by omega) (fun c303 => ?_) (fun c303 => ?_)
                              · exfalso; omega
                              · refine lv_iload hx hb dL_hangs_306 (lv_at hl 0 rfl) ?_
                                refine lv_iload hx hb dL_hangs_308 (lv_at hl 6 rfl) ?_
                                refine zv_icmp_ge (tgt := 331) hx hb dL_hangs_310 (by decide) (by omega) (by omega) (fun c310 => ?_) (fun c310 => ?_)
                                · exfalso; omega
                                · refine lv_aload_n hx hb dL_hangs_313 rfl (lv_at hl 1 rfl) ?_
                                  refine zv_iconst hx hb dL_hangs_314 ?_
                                  refine lv_iload_n hx hb dL_hangs_315 rfl (lv_at hl 2 rfl) ?_
                                  refine lv_iload hx hb dL_hangs_316 (lv_at hl 0 rfl) ?_
                                  refine zv_isub hx hb dL_hangs_318 ?_
                                  refine lv_iload hx hb dL_hangs_319 (lv_at hl 0 rfl) ?_
                                  refine zc_S (As := [.ref (ad 16), .int (zI 0), .int (zI (n - o)), .int (zI o)]) (rest := []) S hK (kL_same l g ad w n ee en hc u un hs tc tn 0 (n - o) o (by omega)) (va_cwS 4 hts gL_hangs_L_same rfl rfl rfl (by decide +kernel) ⟨Nat.le_of_ble_eq_true rfl, Nat.le_of_ble_eq_true rfl⟩) (hpic) rfl hl.1 rfl (Nat.le_of_ble_eq_true rfl) dL_hangs_321 ⟨Nat.zero_le _, Nat.zero_le _⟩ (fun r321 hr321 => ?_)
                                  obtain rfl := hr321
                                  rw [zB_t (so (by omega))]
                                  refine zv_if_eq (tgt := 331) hx hb dL_hangs_324 (by decide) (by omega) (fun c324 => ?_) (fun c324 => ?_)
                                  · exfalso; omega
                                  · refine zv_iconst hx hb dL_hangs_327 ?_
                                    refine lv_goto (tgt := 332) hx hb dL_hangs_328 (by decide) ?_
                                    refine lv_istore_n (lv' := [(2, .int (zI 1)), (7, .int (zI o)), (0, .ref (ad 16)), (1, .int (zI n)), (3, .int (zI tw)), (4, .int (zI le)), (5, .int (zI b)), (6, .int (zI r))]) hx hb dL_hangs_332 rfl hl (by decide) rfl (fun ls hl => ?_)
                                    refine lv_iload hx hb dL_hangs_333 (lv_at hl 1 rfl) ?_
                                    refine lv_istore (lv' := [(5, .int (zI o)), (2, .int (zI 1)), (7, .int (zI o)), (0, .ref (ad 16)), (1, .int (zI n)), (3, .int (zI tw)), (4, .int (zI le)), (6, .int (zI r))]) hx hb dL_hangs_335 hl (by decide) rfl (fun ls hl => ?_)
                                    refine zv_iinc (lv' := [(6, .int (zI (r + 1))), (5, .int (zI o)), (2, .int (zI 1)), (7, .int (zI o)), (0, .ref (ad 16)), (1, .int (zI n)), (3, .int (zI tw)), (4, .int (zI le))]) hx hb dL_hangs_337 hl (k := 7) rfl (by decide) rfl (fun ls hl => ?_)
                                    refine lv_goto (tgt := 272) hx hb dL_hangs_340 (by decide) ?_
                                    exact ih272 o (r + 1) (by omega) (fun v => (show zBorder w n r = -4 ∨ (0 < zBorder w n r ∧ zBorder w n r < b ∧ zSm w 0 (n - zBorder w n r) (zBorder w n r) ∧ zBorder w n r = zch w 0 n (r + 1).toNat n) from hst).elim (fun z => absurd z (by omega)) (fun z => by rw [eo]; exact z.2.2.2)) (by omega) _ (lv_sub hl [4, 5, 2, 6, 7, 1, 0] rfl)
                  exact lp272 _ n 0 (by omega) (fun _ => rfl) (Nat.lt_succ_self _) _ (lv_sub hl [2, 3, 4, 5, 6, 1, 0] rfl)
                · refine lv_iload_n hx hb dL_hangs_78 rfl (lv_at hl 2 rfl) ?_
                  refine zv_if_eq (tgt := 266) hx hb dL_hangs_79 (by decide) (by omega) (fun c79 => ?_) (fun c79 => ?_)
                  · exfalso; omega
                  · have hk : 0 ≤ k ∧ k < n := by omega
                    obtain ⟨p9, al, q, p0, p1, p2, p3, eal, p5, p6⟩ := zSuf_at (w := w) hn0.2 hk.1 hk.2
                    have bz : (al = 0 → zB (zAdj w n k = 0) = 1) ∧ (¬ al = 0 → zB (zAdj w n k = 0) = 0) := ⟨fun v => zB_t (by omega), fun v => zB_f (by omega)⟩
                    have bu1 := zUn_bd (w := w) (k := k) (by omega)
                    have bu2 := zUn_bd (w := w) (k := k + 1) (by omega)
                    have bu3 := zUn_up (w := w) (k := k) hk.1
                    refine lv_aload_n hx hb dL_hangs_82 rfl (lv_at hl 0 rfl) ?_
                    refine lv_iload hx hb dL_hangs_83 (lv_at hl 5 rfl) ?_
                    refine zc_V (As := [.int (zI k)]) (rest := []) S hK (kX9_suffix l g ad w n ee en hc u un hs tc tn k (by omega)) (cwV 1 hts gL_hangs_X9_suffix rfl rfl rfl (by decide +kernel) ⟨Nat.le_of_ble_eq_true rfl, Nat.le_of_ble_eq_true rfl⟩) (hpic) (hX.recvx hK) rfl hl.1 rfl (Nat.le_of_ble_eq_true rfl) dL_hangs_85 ⟨Nat.zero_le _, Nat.zero_le _⟩ (fun r85 hr85 => ?_)
                    obtain rfl := hr85
                    rw [p0]
                    refine lv_istore (lv' := [(6, .int (zI p9)), (0, .ref (ad 16)), (1, .int (zI n)), (2, .int (zI 1)), (3, .int (zI tw)), (4, .int (zI le)), (5, .int (zI k))]) hx hb dL_hangs_88 hl (by decide) rfl (fun ls hl => ?_)
                    refine lv_iload hx hb dL_hangs_90 (lv_at hl 6 rfl) ?_
                    refine zv_iconst hx hb dL_hangs_92 ?_
                    refine zv_iadd hx hb dL_hangs_93 ?_
                    refine lv_iload_n hx hb dL_hangs_94 rfl (lv_at hl 2 rfl) ?_
                    refine zv_icmp_ge (tgt := 109) hx hb dL_hangs_95 (by decide) (by omega) (by omega) (fun c95 => ?_) (fun c95 => ?_)
                    · refine zv_iconst hx hb dL_hangs_109 ?_
                      refine lv_istore (lv' := [(7, .int (zI (-1))), (6, .int (zI p9)), (0, .ref (ad 16)), (1, .int (zI n)), (2, .int (zI 1)), (3, .int (zI tw)), (4, .int (zI le)), (5, .int (zI k))]) hx hb dL_hangs_110 hl (by decide) rfl (fun ls hl => ?_)
                      refine lv_iload hx hb dL_hangs_112 (lv_at hl 0 rfl) ?_
                      refine zv_if_ge (tgt := 121) hx hb dL_hangs_114 (by decide) (by omega) (fun c114 => ?_) (fun c114 => ?_)
                      · exfalso; omega
                      · have p7 : al = 0 := p5 (by omega)
                        refine zv_iconst hx hb dL_hangs_117 ?_
                        refine lv_goto (tgt := 129) hx hb dL_hangs_118 (by decide) ?_
                        refine lv_istore (lv' := [(8, .int (zI 0)), (7, .int (zI (-1))), (6, .int (zI p9)), (0, .ref (ad 16)), (1, .int (zI n)), (2, .int (zI 1)), (3, .int (zI tw)), (4, .int (zI le)), (5, .int (zI k))]) hx hb dL_hangs_129 hl (by decide) rfl (fun ls hl => ?_)
                        refine lv_aload_n hx hb dL_hangs_131 rfl (lv_at hl 3 rfl) ?_
                        refine lv_iload hx hb dL_hangs_132 (lv_at hl 2 rfl) ?_
                        refine zv_iconst hx hb dL_hangs_134 ?_
                        refine zc_V (As := [.int (zI p9), .int (zI 1)]) (rest := []) S hK (kX9_at l g ad w n ee en hc u un hs tc tn p9 1 (by omega) (by omega)) (cwV 2 hts gL_hangs_X9_at rfl rfl rfl (by decide +kernel) ⟨Nat.le_of_ble_eq_true rfl, Nat.le_of_ble_eq_true rfl⟩) (hpic) (hX.recvx hK) rfl hl.1 rfl (Nat.le_of_ble_eq_true rfl) dL_hangs_135 ⟨Nat.zero_le _, Nat.zero_le _⟩ (fun r135 hr135 => ?_)
                        obtain rfl := hr135
                        rw [p2]
                        refine lv_iload hx hb dL_hangs_138 (lv_at hl 8 rfl) ?_
                        refine zv_icmp_ne (tgt := 225) hx hb dL_hangs_140 (by decide) (by omega) (by omega) (fun c140 => ?_) (fun c140 => ?_)
                        · exfalso; omega
                        · refine lv_aload_n hx hb dL_hangs_143 rfl (lv_at hl 3 rfl) ?_
                          refine lv_iload hx hb dL_hangs_144 (lv_at hl 2 rfl) ?_
                          refine lv_iload hx hb dL_hangs_146 (lv_at hl 2 rfl) ?_
                          refine zc_V (As := [.int (zI p9), .int (zI p9)]) (rest := []) S hK (kX9_alike l g ad w n ee en hc u un hs tc tn p9 p9 (by omega) (by omega)) (cwV 2 hts gL_hangs_X9_alike rfl rfl rfl (by decide +kernel) ⟨Nat.le_of_ble_eq_true rfl, Nat.le_of_ble_eq_true rfl⟩) (hpic) (hX.recvx hK) rfl hl.1 rfl (Nat.le_of_ble_eq_true rfl) dL_hangs_148 ⟨Nat.zero_le _, Nat.zero_le _⟩ (fun r148 hr148 => ?_)
                          obtain rfl := hr148
                          rw [p3]
                          refine lv_iload_n hx hb dL_hangs_151 rfl (lv_at hl 4 rfl) ?_
                          refine lv_iload hx hb dL_hangs_152 (lv_at hl 2 rfl) ?_
                          refine zv_isub hx hb dL_hangs_154 ?_
                          refine zv_icmp_ne (tgt := 225) hx hb dL_hangs_155 (by decide) (by omega) (by omega) (fun c155 => ?_) (fun c155 => ?_)
                          · exfalso; omega
                          · refine lv_iload hx hb dL_hangs_158 (lv_at hl 1 rfl) ?_
                            refine zv_if_lt (tgt := 204) hx hb dL_hangs_160 (by decide) (by omega) (fun c160 => ?_) (fun c160 => ?_)
                            · refine lv_aload_n hx hb dL_hangs_204 rfl (lv_at hl 3 rfl) ?_
                              refine lv_iload hx hb dL_hangs_205 (lv_at hl 8 rfl) ?_
                              refine zv_iconst hx hb dL_hangs_207 ?_
                              refine zv_iadd hx hb dL_hangs_208 ?_
                              refine zc_V (As := [.int (zI (k + 1))]) (rest := []) S hK (kX9_unlike l g ad w n ee en hc u un hs tc tn (k + 1) (by omega)) (cwV 1 hts gL_hangs_X9_unlike rfl rfl rfl (by decide +kernel) ⟨Nat.le_of_ble_eq_true rfl, Nat.le_of_ble_eq_true rfl⟩) (hpic) (hX.recvx hK) rfl hl.1 rfl (Nat.le_of_ble_eq_true rfl) dL_hangs_209 ⟨Nat.zero_le _, Nat.zero_le _⟩ (fun r209 hr209 => ?_)
                              obtain rfl := hr209
                              rw [aUnlike_in (by omega)]
                              refine lv_aload_n hx hb dL_hangs_212 rfl (lv_at hl 3 rfl) ?_
                              refine lv_iload hx hb dL_hangs_213 (lv_at hl 8 rfl) ?_
                              refine zc_V (As := [.int (zI k)]) (rest := [.int (zI (zUn w (k + 1)))]) S hK (kX9_unlike l g ad w n ee en hc u un hs tc tn k (by omega)) (cwV 1 hts gL_hangs_X9_unlike rfl rfl rfl (by decide +kernel) ⟨Nat.le_of_ble_eq_true rfl, Nat.le_of_ble_eq_true rfl⟩) (hpic) (hX.recvx hK) rfl hl.1 rfl (Nat.le_of_ble_eq_true rfl) dL_hangs_215 ⟨Nat.zero_le _, Nat.zero_le _⟩ (fun r215 hr215 => ?_)
                              obtain rfl := hr215
                              rw [aUnlike_in (by omega)]
                              refine zv_icmp_le (tgt := 225) hx hb dL_hangs_218 (by decide) (by omega) (by omega) (fun c218 => ?_) (fun c218 => ?_)
                              · exfalso; omega
                              · refine zv_iconst hx hb dL_hangs_221 ?_
                                refine lv_goto (tgt := 226) hx hb dL_hangs_222 (by decide) ?_
                                refine lv_istore_n (lv' := [(2, .int (zI 1)), (8, .int (zI 0)), (7, .int (zI (-1))), (6, .int (zI p9)), (0, .ref (ad 16)), (1, .int (zI n)), (3, .int (zI tw)), (4, .int (zI le)), (5, .int (zI k))]) hx hb dL_hangs_226 rfl hl (by decide) rfl (fun ls hl => ?_)
                                refine lv_iload hx hb dL_hangs_227 (lv_at hl 1 rfl) ?_
                                refine lv_iload_n hx hb dL_hangs_229 rfl (lv_at hl 6 rfl) ?_
                                refine zv_icmp_le (tgt := 238) hx hb dL_hangs_230 (by decide) (by omega) (by omega) (fun c230 => ?_) (fun c230 => ?_)
                                · refine lv_iload_n hx hb dL_hangs_238 rfl (lv_at hl 6 rfl) ?_
                                  refine lv_istore_n (lv' := [(3, .int (zI tw)), (2, .int (zI 1)), (8, .int (zI 0)), (7, .int (zI (-1))), (6, .int (zI p9)), (0, .ref (ad 16)), (1, .int (zI n)), (4, .int (zI le)), (5, .int (zI k))]) hx hb dL_hangs_239 rfl hl (by decide) rfl (fun ls hl => ?_)
                                  refine lv_iload hx hb dL_hangs_240 (lv_at hl 7 rfl) ?_
                                  refine lv_iload hx hb dL_hangs_242 (lv_at hl 3 rfl) ?_
                                  refine zv_if_lt (tgt := 252) hx hb dL_hangs_244 (by decide) (by omega) (fun c244 => ?_) (fun c244 => ?_)
                                  · refine zv_iconst hx hb dL_hangs_252 ?_
                                    refine lv_goto (tgt := 257) hx hb dL_hangs_253 (by decide) ?_
                                    refine zv_iadd hx hb dL_hangs_257 ?_
                                    refine lv_istore (lv' := [(4, .int (zI (le + 1))), (3, .int (zI tw)), (2, .int (zI 1)), (8, .int (zI 0)), (7, .int (zI (-1))), (6, .int (zI p9)), (0, .ref (ad 16)), (1, .int (zI n)), (5, .int (zI k))]) hx hb dL_hangs_258 hl (by decide) rfl (fun ls hl => ?_)
                                    refine zv_iinc (lv' := [(5, .int (zI (k + 1))), (4, .int (zI (le + 1))), (3, .int (zI tw)), (2, .int (zI 1)), (8, .int (zI 0)), (7, .int (zI (-1))), (6, .int (zI p9)), (0, .ref (ad 16)), (1, .int (zI n))]) hx hb dL_hangs_260 hl (k := 8) rfl (by decide) rfl (fun ls hl => ?_)
                                    refine lv_goto (tgt := 72) hx hb dL_hangs_263 (by decide) ?_
                                    exact ih72 tw (le + 1) (k + 1) (by omega) (by rw [zM_succ _ (by omega), ← h1, ← eal]; omega) (by rw [zAdj_step (by omega), ← h2]; omega) (by omega) _ (lv_sub hl [7, 8, 3, 2, 1, 0] rfl)
                                  · exfalso; omega
                                · refine lv_iload hx hb dL_hangs_233 (lv_at hl 1 rfl) ?_
                                  refine lv_goto (tgt := 239) hx hb dL_hangs_235 (by decide) ?_
                                  refine lv_istore_n (lv' := [(3, .int (zI 0)), (2, .int (zI 1)), (8, .int (zI 0)), (7, .int (zI (-1))), (6, .int (zI p9)), (0, .ref (ad 16)), (1, .int (zI n)), (4, .int (zI le)), (5, .int (zI k))]) hx hb dL_hangs_239 rfl hl (by decide) rfl (fun ls hl => ?_)
                                  refine lv_iload hx hb dL_hangs_240 (lv_at hl 7 rfl) ?_
                                  refine lv_iload hx hb dL_hangs_242 (lv_at hl 3 rfl) ?_
                                  refine zv_if_lt (tgt := 252) hx hb dL_hangs_244 (by decide) (by omega) (fun c244 => ?_) (fun c244 => ?_)
                                  · refine zv_iconst hx hb dL_hangs_252 ?_
                                    refine lv_goto (tgt := 257) hx hb dL_hangs_253 (by decide) ?_
                                    refine zv_iadd hx hb dL_hangs_257 ?_
                                    refine lv_istore (lv' := [(4, .int (zI (le + 1))), (3, .int (zI 0)), (2, .int (zI 1)), (8, .int (zI 0)), (7, .int (zI (-1))), (6, .int (zI p9)), (0, .ref (ad 16)), (1, .int (zI n)), (5, .int (zI k))]) hx hb dL_hangs_258 hl (by decide) rfl (fun ls hl => ?_)
                                    refine zv_iinc (lv' := [(5, .int (zI (k + 1))), (4, .int (zI (le + 1))), (3, .int (zI 0)), (2, .int (zI 1)), (8, .int (zI 0)), (7, .int (zI (-1))), (6, .int (zI p9)), (0, .ref (ad 16)), (1, .int (zI n))]) hx hb dL_hangs_260 hl (k := 8) rfl (by decide) rfl (fun ls hl => ?_)
                                    refine lv_goto (tgt := 72) hx hb dL_hangs_263 (by decide) ?_
                                    exact ih72 0 (le + 1) (k + 1) (by omega) (by rw [zM_succ _ (by omega), ← h1, ← eal]; omega) (by rw [zAdj_step (by omega), ← h2]; omega) (by omega) _ (lv_sub hl [7, 8, 3, 2, 1, 0] rfl)
                                  · exfalso; omega
                            · exfalso; omega
                    · obtain ⟨q0, q1, q2, q3⟩ := p6 (by omega)
                      refine lv_aload_n hx hb dL_hangs_98 rfl (lv_at hl 1 rfl) ?_
                      refine lv_iload hx hb dL_hangs_99 (lv_at hl 6 rfl) ?_
                      refine zv_iconst hx hb dL_hangs_101 ?_
                      refine zv_iadd hx hb dL_hangs_102 ?_
                      refine zc_V (As := [.int (zI (k + 1))]) (rest := []) S hK (kX9_suffix l g ad w n ee en hc u un hs tc tn (k + 1) (by omega)) (cwV 1 hts gL_hangs_X9_suffix rfl rfl rfl (by decide +kernel) ⟨Nat.le_of_ble_eq_true rfl, Nat.le_of_ble_eq_true rfl⟩) (hpic) (hX.recvx hK) rfl hl.1 rfl (Nat.le_of_ble_eq_true rfl) dL_hangs_103 ⟨Nat.zero_le _, Nat.zero_le _⟩ (fun r103 hr103 => ?_)
                      obtain rfl := hr103
                      rw [q0]
                      refine lv_goto (tgt := 110) hx hb dL_hangs_106 (by decide) ?_
                      refine lv_istore (lv' := [(7, .int (zI q)), (6, .int (zI p9)), (0, .ref (ad 16)), (1, .int (zI n)), (2, .int (zI 1)), (3, .int (zI tw)), (4, .int (zI le)), (5, .int (zI k))]) hx hb dL_hangs_110 hl (by decide) rfl (fun ls hl => ?_)
                      refine lv_iload hx hb dL_hangs_112 (lv_at hl 0 rfl) ?_
                      refine zv_if_ge (tgt := 121) hx hb dL_hangs_114 (by decide) (by omega) (fun c114 => ?_) (fun c114 => ?_)
                      · refine lv_aload_n hx hb dL_hangs_121 rfl (lv_at hl 2 rfl) ?_
                        refine lv_iload hx hb dL_hangs_122 (lv_at hl 1 rfl) ?_
                        refine lv_iload hx hb dL_hangs_124 (lv_at hl 0 rfl) ?_
                        refine zc_V (As := [.int (zI p9), .int (zI q)]) (rest := []) S hK (kX9_alike l g ad w n ee en hc u un hs tc tn p9 q (by omega) (by omega)) (cwV 2 hts gL_hangs_X9_alike rfl rfl rfl (by decide +kernel) ⟨Nat.le_of_ble_eq_true rfl, Nat.le_of_ble_eq_true rfl⟩) (hpic) (hX.recvx hK) rfl hl.1 rfl (Nat.le_of_ble_eq_true rfl) dL_hangs_126 ⟨Nat.zero_le _, Nat.zero_le _⟩ (fun r126 hr126 => ?_)
                        obtain rfl := hr126
                        rw [q2]
                        refine lv_istore (lv' := [(8, .int (zI al)), (7, .int (zI q)), (6, .int (zI p9)), (0, .ref (ad 16)), (1, .int (zI n)), (2, .int (zI 1)), (3, .int (zI tw)), (4, .int (zI le)), (5, .int (zI k))]) hx hb dL_hangs_129 hl (by decide) rfl (fun ls hl => ?_)
                        refine lv_aload_n hx hb dL_hangs_131 rfl (lv_at hl 3 rfl) ?_
                        refine lv_iload hx hb dL_hangs_132 (lv_at hl 2 rfl) ?_
                        refine zv_iconst hx hb dL_hangs_134 ?_
                        refine zc_V (As := [.int (zI p9), .int (zI 1)]) (rest := []) S hK (kX9_at l g ad w n ee en hc u un hs tc tn p9 1 (by omega) (by omega)) (cwV 2 hts gL_hangs_X9_at rfl rfl rfl (by decide +kernel) ⟨Nat.le_of_ble_eq_true rfl, Nat.le_of_ble_eq_true rfl⟩) (hpic) (hX.recvx hK) rfl hl.1 rfl (Nat.le_of_ble_eq_true rfl) dL_hangs_135 ⟨Nat.zero_le _, Nat.zero_le _⟩ (fun r135 hr135 => ?_)
                        obtain rfl := hr135
                        rw [p2]
                        refine lv_iload hx hb dL_hangs_138 (lv_at hl 8 rfl) ?_
                        refine zv_icmp_ne (tgt := 225) hx hb dL_hangs_140 (by decide) (by omega) (by omega) (fun c140 => ?_) (fun c140 => ?_)
                        · exfalso; omega
                        · refine lv_aload_n hx hb dL_hangs_143 rfl (lv_at hl 3 rfl) ?_
                          refine lv_iload hx hb dL_hangs_144 (lv_at hl 2 rfl) ?_
                          refine lv_iload hx hb dL_hangs_146 (lv_at hl 2 rfl) ?_
                          refine zc_V (As := [.int (zI p9), .int (zI p9)]) (rest := []) S hK (kX9_alike l g ad w n ee en hc u un hs tc tn p9 p9 (by omega) (by omega)) (cwV 2 hts gL_hangs_X9_alike rfl rfl rfl (by decide +kernel) ⟨Nat.le_of_ble_eq_true rfl, Nat.le_of_ble_eq_true rfl⟩) (hpic) (hX.recvx hK) rfl hl.1 rfl (Nat.le_of_ble_eq_true rfl) dL_hangs_148 ⟨Nat.zero_le _, Nat.zero_le _⟩ (fun r148 hr148 => ?_)
                          obtain rfl := hr148
                          rw [p3]
                          refine lv_iload_n hx hb dL_hangs_151 rfl (lv_at hl 4 rfl) ?_
                          refine lv_iload hx hb dL_hangs_152 (lv_at hl 2 rfl) ?_
                          refine zv_isub hx hb dL_hangs_154 ?_
                          refine zv_icmp_ne (tgt := 225) hx hb dL_hangs_155 (by decide) (by omega) (by omega) (fun c155 => ?_) (fun c155 => ?_)
                          · exfalso; omega
                          · refine lv_iload hx hb dL_hangs_158 (lv_at hl 1 rfl) ?_
                            refine zv_if_lt (tgt := 204) hx hb dL_hangs_160 (by decide) (by omega) (fun c160 => ?_) (fun c160 => ?_)
                            · refine lv_aload_n hx hb dL_hangs_204 rfl (lv_at hl 3 rfl) ?_
                              refine lv_iload hx hb dL_hangs_205 (lv_at hl 8 rfl) ?_
                              refine zv_iconst hx hb dL_hangs_207 ?_
                              refine zv_iadd hx hb dL_hangs_208 ?_
                              refine zc_V (As := [.int (zI (k + 1))]) (rest := []) S hK (kX9_unlike l g ad w n ee en hc u un hs tc tn (k + 1) (by omega)) (cwV 1 hts gL_hangs_X9_unlike rfl rfl rfl (by decide +kernel) ⟨Nat.le_of_ble_eq_true rfl, Nat.le_of_ble_eq_true rfl⟩) (hpic) (hX.recvx hK) rfl hl.1 rfl (Nat.le_of_ble_eq_true rfl) dL_hangs_209 ⟨Nat.zero_le _, Nat.zero_le _⟩ (fun r209 hr209 => ?_)
                              obtain rfl := hr209
                              rw [aUnlike_in (by omega)]
                              refine lv_aload_n hx hb dL_hangs_212 rfl (lv_at hl 3 rfl) ?_
                              refine lv_iload hx hb dL_hangs_213 (lv_at hl 8 rfl) ?_
                              refine zc_V (As := [.int (zI k)]) (rest := [.int (zI (zUn w (k + 1)))]) S hK (kX9_unlike l g ad w n ee en hc u un hs tc tn k (by omega)) (cwV 1 hts gL_hangs_X9_unlike rfl rfl rfl (by decide +kernel) ⟨Nat.le_of_ble_eq_true rfl, Nat.le_of_ble_eq_true rfl⟩) (hpic) (hX.recvx hK) rfl hl.1 rfl (Nat.le_of_ble_eq_true rfl) dL_hangs_215 ⟨Nat.zero_le _, Nat.zero_le _⟩ (fun r215 hr215 => ?_)
                              obtain rfl := hr215
                              rw [aUnlike_in (by omega)]
                              refine zv_icmp_le (tgt := 225) hx hb dL_hangs_218 (by decide) (by omega) (by omega) (fun c218 => ?_) (fun c218 => ?_)
                              · exfalso; omega
                              · refine zv_iconst hx hb dL_hangs_221 ?_
                                refine lv_goto (tgt := 226) hx hb dL_hangs_222 (by decide) ?_
                                refine lv_istore_n (lv' := [(2, .int (zI 1)), (8, .int (zI al)), (7, .int (zI q)), (6, .int (zI p9)), (0, .ref (ad 16)), (1, .int (zI n)), (3, .int (zI tw)), (4, .int (zI le)), (5, .int (zI k))]) hx hb dL_hangs_226 rfl hl (by decide) rfl (fun ls hl => ?_)
                                refine lv_iload hx hb dL_hangs_227 (lv_at hl 1 rfl) ?_
                                refine lv_iload_n hx hb dL_hangs_229 rfl (lv_at hl 6 rfl) ?_
                                refine zv_icmp_le (tgt := 238) hx hb dL_hangs_230 (by decide) (by omega) (by omega) (fun c230 => ?_) (fun c230 => ?_)
                                · refine lv_iload_n hx hb dL_hangs_238 rfl (lv_at hl 6 rfl) ?_
                                  refine lv_istore_n (lv' := [(3, .int (zI tw)), (2, .int (zI 1)), (8, .int (zI al)), (7, .int (zI q)), (6, .int (zI p9)), (0, .ref (ad 16)), (1, .int (zI n)), (4, .int (zI le)), (5, .int (zI k))]) hx hb dL_hangs_239 rfl hl (by decide) rfl (fun ls hl => ?_)
                                  refine lv_iload hx hb dL_hangs_240 (lv_at hl 7 rfl) ?_
                                  refine lv_iload hx hb dL_hangs_242 (lv_at hl 3 rfl) ?_
                                  refine zv_if_lt (tgt := 252) hx hb dL_hangs_244 (by decide) (by omega) (fun c244 => ?_) (fun c244 => ?_)
                                  · refine zv_iconst hx hb dL_hangs_252 ?_
                                    refine lv_goto (tgt := 257) hx hb dL_hangs_253 (by decide) ?_
                                    refine zv_iadd hx hb dL_hangs_257 ?_
                                    refine lv_istore (lv' := [(4, .int (zI (le + 1))), (3, .int (zI tw)), (2, .int (zI 1)), (8, .int (zI al)), (7, .int (zI q)), (6, .int (zI p9)), (0, .ref (ad 16)), (1, .int (zI n)), (5, .int (zI k))]) hx hb dL_hangs_258 hl (by decide) rfl (fun ls hl => ?_)
                                    refine zv_iinc (lv' := [(5, .int (zI (k + 1))), (4, .int (zI (le + 1))), (3, .int (zI tw)), (2, .int (zI 1)), (8, .int (zI al)), (7, .int (zI q)), (6, .int (zI p9)), (0, .ref (ad 16)), (1, .int (zI n))]) hx hb dL_hangs_260 hl (k := 8) rfl (by decide) rfl (fun ls hl => ?_)
                                    refine lv_goto (tgt := 72) hx hb dL_hangs_263 (by decide) ?_
                                    exact ih72 tw (le + 1) (k + 1) (by omega) (by rw [zM_succ _ (by omega), ← h1, ← eal]; omega) (by rw [zAdj_step (by omega), ← h2]; omega) (by omega) _ (lv_sub hl [7, 8, 3, 2, 1, 0] rfl)
                                  · refine lv_iload hx hb dL_hangs_247 (lv_at hl 2 rfl) ?_
                                    refine zv_if_ne (tgt := 256) hx hb dL_hangs_249 (by decide) (by omega) (fun c249 => ?_) (fun c249 => ?_)
                                    · refine zv_iconst hx hb dL_hangs_256 ?_
                                      refine zv_iadd hx hb dL_hangs_257 ?_
                                      refine lv_istore (lv' := [(4, .int (zI (le + 0))), (3, .int (zI tw)), (2, .int (zI 1)), (8, .int (zI al)), (7, .int (zI q)), (6, .int (zI p9)), (0, .ref (ad 16)), (1, .int (zI n)), (5, .int (zI k))]) hx hb dL_hangs_258 hl (by decide) rfl (fun ls hl => ?_)
                                      refine zv_iinc (lv' := [(5, .int (zI (k + 1))), (4, .int (zI (le + 0))), (3, .int (zI tw)), (2, .int (zI 1)), (8, .int (zI al)), (7, .int (zI q)), (6, .int (zI p9)), (0, .ref (ad 16)), (1, .int (zI n))]) hx hb dL_hangs_260 hl (k := 8) rfl (by decide) rfl (fun ls hl => ?_)
                                      refine lv_goto (tgt := 72) hx hb dL_hangs_263 (by decide) ?_
                                      exact ih72 tw (le + 0) (k + 1) (by omega) (by rw [zM_succ _ (by omega), ← h1, ← eal]; omega) (by rw [zAdj_step (by omega), ← h2]; omega) (by omega) _ (lv_sub hl [7, 8, 3, 2, 1, 0] rfl)
                                    · refine zv_iconst hx hb dL_hangs_252 ?_
                                      refine lv_goto (tgt := 257) hx hb dL_hangs_253 (by decide) ?_
                                      refine zv_iadd hx hb dL_hangs_257 ?_
                                      refine lv_istore (lv' := [(4, .int (zI (le + 1))), (3, .int (zI tw)), (2, .int (zI 1)), (8, .int (zI al)), (7, .int (zI q)), (6, .int (zI p9)), (0, .ref (ad 16)), (1, .int (zI n)), (5, .int (zI k))]) hx hb dL_hangs_258 hl (by decide) rfl (fun ls hl => ?_)
                                      refine zv_iinc (lv' := [(5, .int (zI (k + 1))), (4, .int (zI (le + 1))), (3, .int (zI tw)), (2, .int (zI 1)), (8, .int (zI al)), (7, .int (zI q)), (6, .int (zI p9)), (0, .ref (ad 16)), (1, .int (zI n))]) hx hb dL_hangs_260 hl (k := 8) rfl (by decide) rfl (fun ls hl => ?_)
                                      refine lv_goto (tgt := 72) hx hb dL_hangs_263 (by decide) ?_
                                      exact ih72 tw (le + 1) (k + 1) (by omega) (by rw [zM_succ _ (by omega), ← h1, ← eal]; omega) (by rw [zAdj_step (by omega), ← h2]; omega) (by omega) _ (lv_sub hl [7, 8, 3, 2, 1, 0] rfl)
                                · refine lv_iload hx hb dL_hangs_233 (lv_at hl 1 rfl) ?_
                                  refine lv_goto (tgt := 239) hx hb dL_hangs_235 (by decide) ?_
                                  refine lv_istore_n (lv' := [(3, .int (zI al)), (2, .int (zI 1)), (8, .int (zI al)), (7, .int (zI q)), (6, .int (zI p9)), (0, .ref (ad 16)), (1, .int (zI n)), (4, .int (zI le)), (5, .int (zI k))]) hx hb dL_hangs_239 rfl hl (by decide) rfl (fun ls hl => ?_)
                                  refine lv_iload hx hb dL_hangs_240 (lv_at hl 7 rfl) ?_
                                  refine lv_iload hx hb dL_hangs_242 (lv_at hl 3 rfl) ?_
                                  refine zv_if_lt (tgt := 252) hx hb dL_hangs_244 (by decide) (by omega) (fun c244 => ?_) (fun c244 => ?_)
                                  · refine zv_iconst hx hb dL_hangs_252 ?_
                                    refine lv_goto (tgt := 257) hx hb dL_hangs_253 (by decide) ?_
                                    refine zv_iadd hx hb dL_hangs_257 ?_
                                    refine lv_istore (lv' := [(4, .int (zI (le + 1))), (3, .int (zI al)), (2, .int (zI 1)), (8, .int (zI al)), (7, .int (zI q)), (6, .int (zI p9)), (0, .ref (ad 16)), (1, .int (zI n)), (5, .int (zI k))]) hx hb dL_hangs_258 hl (by decide) rfl (fun ls hl => ?_)
                                    refine zv_iinc (lv' := [(5, .int (zI (k + 1))), (4, .int (zI (le + 1))), (3, .int (zI al)), (2, .int (zI 1)), (8, .int (zI al)), (7, .int (zI q)), (6, .int (zI p9)), (0, .ref (ad 16)), (1, .int (zI n))]) hx hb dL_hangs_260 hl (k := 8) rfl (by decide) rfl (fun ls hl => ?_)
                                    refine lv_goto (tgt := 72) hx hb dL_hangs_263 (by decide) ?_
                                    exact ih72 al (le + 1) (k + 1) (by omega) (by rw [zM_succ _ (by omega), ← h1, ← eal]; omega) (by rw [zAdj_step (by omega), ← h2]; omega) (by omega) _ (lv_sub hl [7, 8, 3, 2, 1, 0] rfl)
                                  · refine lv_iload hx hb dL_hangs_247 (lv_at hl 2 rfl) ?_
                                    refine zv_if_ne (tgt := 256) hx hb dL_hangs_249 (by decide) (by omega) (fun c249 => ?_) (fun c249 => ?_)
                                    · refine zv_iconst hx hb dL_hangs_256 ?_
                                      refine zv_iadd hx hb dL_hangs_257 ?_
                                      refine lv_istore (lv' := [(4, .int (zI (le + 0))), (3, .int (zI al)), (2, .int (zI 1)), (8, .int (zI al)), (7, .int (zI q)), (6, .int (zI p9)), (0, .ref (ad 16)), (1, .int (zI n)), (5, .int (zI k))]) hx hb dL_hangs_258 hl (by decide) rfl (fun ls hl => ?_)
                                      refine zv_iinc (lv' := [(5, .int (zI (k + 1))), (4, .int (zI (le + 0))), (3, .int (zI al)), (2, .int (zI 1)), (8, .int (zI al)), (7, .int (zI q)), (6, .int (zI p9)), (0, .ref (ad 16)), (1, .int (zI n))]) hx hb dL_hangs_260 hl (k := 8) rfl (by decide) rfl (fun ls hl => ?_)
                                      refine lv_goto (tgt := 72) hx hb dL_hangs_263 (by decide) ?_
                                      exact ih72 al (le + 0) (k + 1) (by omega) (by rw [zM_succ _ (by omega), ← h1, ← eal]; omega) (by rw [zAdj_step (by omega), ← h2]; omega) (by omega) _ (lv_sub hl [7, 8, 3, 2, 1, 0] rfl)
                                    · refine zv_iconst hx hb dL_hangs_252 ?_
                                      refine lv_goto (tgt := 257) hx hb dL_hangs_253 (by decide) ?_
                                      refine zv_iadd hx hb dL_hangs_257 ?_
                                      refine lv_istore (lv' := [(4, .int (zI (le + 1))), (3, .int (zI al)), (2, .int (zI 1)), (8, .int (zI al)), (7, .int (zI q)), (6, .int (zI p9)), (0, .ref (ad 16)), (1, .int (zI n)), (5, .int (zI k))]) hx hb dL_hangs_258 hl (by decide) rfl (fun ls hl => ?_)
                                      refine zv_iinc (lv' := [(5, .int (zI (k + 1))), (4, .int (zI (le + 1))), (3, .int (zI al)), (2, .int (zI 1)), (8, .int (zI al)), (7, .int (zI q)), (6, .int (zI p9)), (0, .ref (ad 16)), (1, .int (zI n))]) hx hb dL_hangs_260 hl (k := 8) rfl (by decide) rfl (fun ls hl => ?_)
                                      refine lv_goto (tgt := 72) hx hb dL_hangs_263 (by decide) ?_
                                      exact ih72 al (le + 1) (k + 1) (by omega) (by rw [zM_succ _ (by omega), ← h1, ← eal]; omega) (by rw [zAdj_step (by omega), ← h2]; omega) (by omega) _ (lv_sub hl [7, 8, 3, 2, 1, 0] rfl)
                            · refine lv_iload hx hb dL_hangs_163 (lv_at hl 2 rfl) ?_
                              refine lv_iload hx hb dL_hangs_165 (lv_at hl 0 rfl) ?_
                              refine zv_iadd hx hb dL_hangs_167 ?_
                              refine lv_iload_n hx hb dL_hangs_168 rfl (lv_at hl 4 rfl) ?_
                              refine zv_icmp_eq (tgt := 204) hx hb dL_hangs_169 (by decide) (by omega) (by omega) (fun c169 => ?_) (fun c169 => ?_)
                              · refine lv_aload_n hx hb dL_hangs_204 rfl (lv_at hl 3 rfl) ?_
                                refine lv_iload hx hb dL_hangs_205 (lv_at hl 8 rfl) ?_
                                refine zv_iconst hx hb dL_hangs_207 ?_
                                refine zv_iadd hx hb dL_hangs_208 ?_
                                refine zc_V (As := [.int (zI (k + 1))]) (rest := []) S hK (kX9_unlike l g ad w n ee en hc u un hs tc tn (k + 1) (by omega)) (cwV 1 hts gL_hangs_X9_unlike rfl rfl rfl (by decide +kernel) ⟨Nat.le_of_ble_eq_true rfl, Nat.le_of_ble_eq_true rfl⟩) (hpic) (hX.recvx hK) rfl hl.1 rfl (Nat.le_of_ble_eq_true rfl) dL_hangs_209 ⟨Nat.zero_le _, Nat.zero_le _⟩ (fun r209 hr209 => ?_)
                                obtain rfl := hr209
                                rw [aUnlike_in (by omega)]
                                refine lv_aload_n hx hb dL_hangs_212 rfl (lv_at hl 3 rfl) ?_
                                refine lv_iload hx hb dL_hangs_213 (lv_at hl 8 rfl) ?_
                                refine zc_V (As := [.int (zI k)]) (rest := [.int (zI (zUn w (k + 1)))]) S hK (kX9_unlike l g ad w n ee en hc u un hs tc tn k (by omega)) (cwV 1 hts gL_hangs_X9_unlike rfl rfl rfl (by decide +kernel) ⟨Nat.le_of_ble_eq_true rfl, Nat.le_of_ble_eq_true rfl⟩) (hpic) (hX.recvx hK) rfl hl.1 rfl (Nat.le_of_ble_eq_true rfl) dL_hangs_215 ⟨Nat.zero_le _, Nat.zero_le _⟩ (fun r215 hr215 => ?_)
                                obtain rfl := hr215
                                rw [aUnlike_in (by omega)]
                                refine zv_icmp_le (tgt := 225) hx hb dL_hangs_218 (by decide) (by omega) (by omega) (fun c218 => ?_) (fun c218 => ?_)
                                · exfalso; omega
                                · refine zv_iconst hx hb dL_hangs_221 ?_
                                  refine lv_goto (tgt := 226) hx hb dL_hangs_222 (by decide) ?_
                                  refine lv_istore_n (lv' := [(2, .int (zI 1)), (8, .int (zI al)), (7, .int (zI q)), (6, .int (zI p9)), (0, .ref (ad 16)), (1, .int (zI n)), (3, .int (zI tw)), (4, .int (zI le)), (5, .int (zI k))]) hx hb dL_hangs_226 rfl hl (by decide) rfl (fun ls hl => ?_)
                                  refine lv_iload hx hb dL_hangs_227 (lv_at hl 1 rfl) ?_
                                  refine lv_iload_n hx hb dL_hangs_229 rfl (lv_at hl 6 rfl) ?_
                                  refine zv_icmp_le (tgt := 238) hx hb dL_hangs_230 (by decide) (by omega) (by omega) (fun c230 => ?_) (fun c230 => ?_)
                                  · refine lv_iload_n hx hb dL_hangs_238 rfl (lv_at hl 6 rfl) ?_
                                    refine lv_istore_n (lv' := [(3, .int (zI tw)), (2, .int (zI 1)), (8, .int (zI al)), (7, .int (zI q)), (6, .int (zI p9)), (0, .ref (ad 16)), (1, .int (zI n)), (4, .int (zI le)), (5, .int (zI k))]) hx hb dL_hangs_239 rfl hl (by decide) rfl (fun ls hl => ?_)
                                    refine lv_iload hx hb dL_hangs_240 (lv_at hl 7 rfl) ?_
                                    refine lv_iload hx hb dL_hangs_242 (lv_at hl 3 rfl) ?_
                                    refine zv_if_lt (tgt := 252) hx hb dL_hangs_244 (by decide) (by omega) (fun c244 => ?_) (fun c244 => ?_)
                                    · refine zv_iconst hx hb dL_hangs_252 ?_
                                      refine lv_goto (tgt := 257) hx hb dL_hangs_253 (by decide) ?_
                                      refine zv_iadd hx hb dL_hangs_257 ?_
                                      refine lv_istore (lv' := [(4, .int (zI (le + 1))), (3, .int (zI tw)), (2, .int (zI 1)), (8, .int (zI al)), (7, .int (zI q)), (6, .int (zI p9)), (0, .ref (ad 16)), (1, .int (zI n)), (5, .int (zI k))]) hx hb dL_hangs_258 hl (by decide) rfl (fun ls hl => ?_)
                                      refine zv_iinc (lv' := [(5, .int (zI (k + 1))), (4, .int (zI (le + 1))), (3, .int (zI tw)), (2, .int (zI 1)), (8, .int (zI al)), (7, .int (zI q)), (6, .int (zI p9)), (0, .ref (ad 16)), (1, .int (zI n))]) hx hb dL_hangs_260 hl (k := 8) rfl (by decide) rfl (fun ls hl => ?_)
                                      refine lv_goto (tgt := 72) hx hb dL_hangs_263 (by decide) ?_
                                      exact ih72 tw (le + 1) (k + 1) (by omega) (by rw [zM_succ _ (by omega), ← h1, ← eal]; omega) (by rw [zAdj_step (by omega), ← h2]; omega) (by omega) _ (lv_sub hl [7, 8, 3, 2, 1, 0] rfl)
                                    · refine lv_iload hx hb dL_hangs_247 (lv_at hl 2 rfl) ?_
                                      refine zv_if_ne (tgt := 256) hx hb dL_hangs_249 (by decide) (by omega) (fun c249 => ?_) (fun c249 => ?_)
                                      · refine zv_iconst hx hb dL_hangs_256 ?_
                                        refine zv_iadd hx hb dL_hangs_257 ?_
                                        refine lv_istore (lv' := [(4, .int (zI (le + 0))), (3, .int (zI tw)), (2, .int (zI 1)), (8, .int (zI al)), (7, .int (zI q)), (6, .int (zI p9)), (0, .ref (ad 16)), (1, .int (zI n)), (5, .int (zI k))]) hx hb dL_hangs_258 hl (by decide) rfl (fun ls hl => ?_)
                                        refine zv_iinc (lv' := [(5, .int (zI (k + 1))), (4, .int (zI (le + 0))), (3, .int (zI tw)), (2, .int (zI 1)), (8, .int (zI al)), (7, .int (zI q)), (6, .int (zI p9)), (0, .ref (ad 16)), (1, .int (zI n))]) hx hb dL_hangs_260 hl (k := 8) rfl (by decide) rfl (fun ls hl => ?_)
                                        refine lv_goto (tgt := 72) hx hb dL_hangs_263 (by decide) ?_
                                        exact ih72 tw (le + 0) (k + 1) (by omega) (by rw [zM_succ _ (by omega), ← h1, ← eal]; omega) (by rw [zAdj_step (by omega), ← h2]; omega) (by omega) _ (lv_sub hl [7, 8, 3, 2, 1, 0] rfl)
                                      · refine zv_iconst hx hb dL_hangs_252 ?_
                                        refine lv_goto (tgt := 257) hx hb dL_hangs_253 (by decide) ?_
                                        refine zv_iadd hx hb dL_hangs_257 ?_
                                        refine lv_istore (lv' := [(4, .int (zI (le + 1))), (3, .int (zI tw)), (2, .int (zI 1)), (8, .int (zI al)), (7, .int (zI q)), (6, .int (zI p9)), (0, .ref (ad 16)), (1, .int (zI n)), (5, .int (zI k))]) hx hb dL_hangs_258 hl (by decide) rfl (fun ls hl => ?_)
                                        refine zv_iinc (lv' := [(5, .int (zI (k + 1))), (4, .int (zI (le + 1))), (3, .int (zI tw)), (2, .int (zI 1)), (8, .int (zI al)), (7, .int (zI q)), (6, .int (zI p9)), (0, .ref (ad 16)), (1, .int (zI n))]) hx hb dL_hangs_260 hl (k := 8) rfl (by decide) rfl (fun ls hl => ?_)
                                        refine lv_goto (tgt := 72) hx hb dL_hangs_263 (by decide) ?_
                                        exact ih72 tw (le + 1) (k + 1) (by omega) (by rw [zM_succ _ (by omega), ← h1, ← eal]; omega) (by rw [zAdj_step (by omega), ← h2]; omega) (by omega) _ (lv_sub hl [7, 8, 3, 2, 1, 0] rfl)
                                  · refine lv_iload hx hb dL_hangs_233 (lv_at hl 1 rfl) ?_
                                    refine lv_goto (tgt := 239) hx hb dL_hangs_235 (by decide) ?_
                                    refine lv_istore_n (lv' := [(3, .int (zI al)), (2, .int (zI 1)), (8, .int (zI al)), (7, .int (zI q)), (6, .int (zI p9)), (0, .ref (ad 16)), (1, .int (zI n)), (4, .int (zI le)), (5, .int (zI k))]) hx hb dL_hangs_239 rfl hl (by decide) rfl (fun ls hl => ?_)
                                    refine lv_iload hx hb dL_hangs_240 (lv_at hl 7 rfl) ?_
                                    refine lv_iload hx hb dL_hangs_242 (lv_at hl 3 rfl) ?_
                                    refine zv_if_lt (tgt := 252) hx hb dL_hangs_244 (by decide) (by omega) (fun c244 => ?_) (fun c244 => ?_)
                                    · refine zv_iconst hx hb dL_hangs_252 ?_
                                      refine lv_goto (tgt := 257) hx hb dL_hangs_253 (by decide) ?_
                                      refine zv_iadd hx hb dL_hangs_257 ?_
                                      refine lv_istore (lv' := [(4, .int (zI (le + 1))), (3, .int (zI al)), (2, .int (zI 1)), (8, .int (zI al)), (7, .int (zI q)), (6, .int (zI p9)), (0, .ref (ad 16)), (1, .int (zI n)), (5, .int (zI k))]) hx hb dL_hangs_258 hl (by decide) rfl (fun ls hl => ?_)
                                      refine zv_iinc (lv' := [(5, .int (zI (k + 1))), (4, .int (zI (le + 1))), (3, .int (zI al)), (2, .int (zI 1)), (8, .int (zI al)), (7, .int (zI q)), (6, .int (zI p9)), (0, .ref (ad 16)), (1, .int (zI n))]) hx hb dL_hangs_260 hl (k := 8) rfl (by decide) rfl (fun ls hl => ?_)
                                      refine lv_goto (tgt := 72) hx hb dL_hangs_263 (by decide) ?_
                                      exact ih72 al (le + 1) (k + 1) (by omega) (by rw [zM_succ _ (by omega), ← h1, ← eal]; omega) (by rw [zAdj_step (by omega), ← h2]; omega) (by omega) _ (lv_sub hl [7, 8, 3, 2, 1, 0] rfl)
                                    · refine lv_iload hx hb dL_hangs_247 (lv_at hl 2 rfl) ?_
                                      refine zv_if_ne (tgt := 256) hx hb dL_hangs_249 (by decide) (by omega) (fun c249 => ?_) (fun c249 => ?_)
                                      · refine zv_iconst hx hb dL_hangs_256 ?_
                                        refine zv_iadd hx hb dL_hangs_257 ?_
                                        refine lv_istore (lv' := [(4, .int (zI (le + 0))), (3, .int (zI al)), (2, .int (zI 1)), (8, .int (zI al)), (7, .int (zI q)), (6, .int (zI p9)), (0, .ref (ad 16)), (1, .int (zI n)), (5, .int (zI k))]) hx hb dL_hangs_258 hl (by decide) rfl (fun ls hl => ?_)
                                        refine zv_iinc (lv' := [(5, .int (zI (k + 1))), (4, .int (zI (le + 0))), (3, .int (zI al)), (2, .int (zI 1)), (8, .int (zI al)), (7, .int (zI q)), (6, .int (zI p9)), (0, .ref (ad 16)), (1, .int (zI n))]) hx hb dL_hangs_260 hl (k := 8) rfl (by decide) rfl (fun ls hl => ?_)
                                        refine lv_goto (tgt := 72) hx hb dL_hangs_263 (by decide) ?_
                                        exact ih72 al (le + 0) (k + 1) (by omega) (by rw [zM_succ _ (by omega), ← h1, ← eal]; omega) (by rw [zAdj_step (by omega), ← h2]; omega) (by omega) _ (lv_sub hl [7, 8, 3, 2, 1, 0] rfl)
                                      · refine zv_iconst hx hb dL_hangs_252 ?_
                                        refine lv_goto (tgt := 257) hx hb dL_hangs_253 (by decide) ?_
                                        refine zv_iadd hx hb dL_hangs_257 ?_
                                        refine lv_istore (lv' := [(4, .int (zI (le + 1))), (3, .int (zI al)), (2, .int (zI 1)), (8, .int (zI al)), (7, .int (zI q)), (6, .int (zI p9)), (0, .ref (ad 16)), (1, .int (zI n)), (5, .int (zI k))]) hx hb dL_hangs_258 hl (by decide) rfl (fun ls hl => ?_)
                                        refine zv_iinc (lv' := [(5, .int (zI (k + 1))), (4, .int (zI (le + 1))), (3, .int (zI al)), (2, .int (zI 1)), (8, .int (zI al)), (7, .int (zI q)), (6, .int (zI p9)), (0, .ref (ad 16)), (1, .int (zI n))]) hx hb dL_hangs_260 hl (k := 8) rfl (by decide) rfl (fun ls hl => ?_)
                                        refine lv_goto (tgt := 72) hx hb dL_hangs_263 (by decide) ?_
                                        exact ih72 al (le + 1) (k + 1) (by omega) (by rw [zM_succ _ (by omega), ← h1, ← eal]; omega) (by rw [zAdj_step (by omega), ← h2]; omega) (by omega) _ (lv_sub hl [7, 8, 3, 2, 1, 0] rfl)
                              · have q5 : q + al < n := by
                                  rcases q3 with v | v
                                  · exact absurd v (by omega)
                                  · exact v.1
                                refine lv_iload hx hb dL_hangs_172 (lv_at hl 1 rfl) ?_
                                refine lv_iload hx hb dL_hangs_174 (lv_at hl 0 rfl) ?_
                                refine zv_iadd hx hb dL_hangs_176 ?_
                                refine lv_iload_n hx hb dL_hangs_177 rfl (lv_at hl 4 rfl) ?_
                                refine zv_icmp_ge (tgt := 225) hx hb dL_hangs_178 (by decide) (by omega) (by omega) (fun c178 => ?_) (fun c178 => ?_)
                                · exfalso; omega
                                · have q4 : zAt w n (p9 + al) 0 < zAt w n (q + al) 0 := by
                                    rcases q3 with v | v
                                    · exact absurd v (by omega)
                                    · exact v.2
                                  refine lv_aload_n hx hb dL_hangs_181 rfl (lv_at hl 3 rfl) ?_
                                  refine lv_iload hx hb dL_hangs_182 (lv_at hl 2 rfl) ?_
                                  refine lv_iload hx hb dL_hangs_184 (lv_at hl 0 rfl) ?_
                                  refine zv_iadd hx hb dL_hangs_186 ?_
                                  refine zv_iconst hx hb dL_hangs_187 ?_
                                  refine zc_V (As := [.int (zI (p9 + al)), .int (zI 0)]) (rest := []) S hK (kX9_at l g ad w n ee en hc u un hs tc tn (p9 + al) 0 (by omega) (by omega)) (cwV 2 hts gL_hangs_X9_at rfl rfl rfl (by decide +kernel) ⟨Nat.le_of_ble_eq_true rfl, Nat.le_of_ble_eq_true rfl⟩) (hpic) (hX.recvx hK) rfl hl.1 rfl (Nat.le_of_ble_eq_true rfl) dL_hangs_188 ⟨Nat.zero_le _, Nat.zero_le _⟩ (fun r188 hr188 => ?_)
                                  obtain rfl := hr188
                                  have b188 := zAt0_bd (n := n) hw (p9 + al)
                                  refine lv_aload_n hx hb dL_hangs_191 rfl (lv_at hl 3 rfl) ?_
                                  refine lv_iload hx hb dL_hangs_192 (lv_at hl 1 rfl) ?_
                                  refine lv_iload hx hb dL_hangs_194 (lv_at hl 0 rfl) ?_
                                  refine zv_iadd hx hb dL_hangs_196 ?_
                                  refine zv_iconst hx hb dL_hangs_197 ?_
                                  refine zc_V (As := [.int (zI (q + al)), .int (zI 0)]) (rest := [.int (zI (zAt w n (p9 + al) 0))]) S hK (kX9_at l g ad w n ee en hc u un hs tc tn (q + al) 0 (by omega) (by omega)) (cwV 2 hts gL_hangs_X9_at rfl rfl rfl (by decide +kernel) ⟨Nat.le_of_ble_eq_true rfl, Nat.le_of_ble_eq_true rfl⟩) (hpic) (hX.recvx hK) rfl hl.1 rfl (Nat.le_of_ble_eq_true rfl) dL_hangs_198 ⟨Nat.zero_le _, Nat.zero_le _⟩ (fun r198 hr198 => ?_)
                                  obtain rfl := hr198
                                  have b198 := zAt0_bd (n := n) hw (q + al)
                                  refine zv_icmp_ge (tgt := 225) hx hb dL_hangs_201 (by decide) (by omega) (by omega) (fun c201 => ?_) (fun c201 => ?_)
                                  · exfalso; omega
                                  · refine lv_aload_n hx hb dL_hangs_204 rfl (lv_at hl 3 rfl) ?_
                                    refine lv_iload hx hb dL_hangs_205 (lv_at hl 8 rfl) ?_
                                    refine zv_iconst hx hb dL_hangs_207 ?_
                                    refine zv_iadd hx hb dL_hangs_208 ?_
                                    refine zc_V (As := [.int (zI (k + 1))]) (rest := []) S hK (kX9_unlike l g ad w n ee en hc u un hs tc tn (k + 1) (by omega)) (cwV 1 hts gL_hangs_X9_unlike rfl rfl rfl (by decide +kernel) ⟨Nat.le_of_ble_eq_true rfl, Nat.le_of_ble_eq_true rfl⟩) (hpic) (hX.recvx hK) rfl hl.1 rfl (Nat.le_of_ble_eq_true rfl) dL_hangs_209 ⟨Nat.zero_le _, Nat.zero_le _⟩ (fun r209 hr209 => ?_)
                                    obtain rfl := hr209
                                    rw [aUnlike_in (by omega)]
                                    refine lv_aload_n hx hb dL_hangs_212 rfl (lv_at hl 3 rfl) ?_
                                    refine lv_iload hx hb dL_hangs_213 (lv_at hl 8 rfl) ?_
                                    refine zc_V (As := [.int (zI k)]) (rest := [.int (zI (zUn w (k + 1)))]) S hK (kX9_unlike l g ad w n ee en hc u un hs tc tn k (by omega)) (cwV 1 hts gL_hangs_X9_unlike rfl rfl rfl (by decide +kernel) ⟨Nat.le_of_ble_eq_true rfl, Nat.le_of_ble_eq_true rfl⟩) (hpic) (hX.recvx hK) rfl hl.1 rfl (Nat.le_of_ble_eq_true rfl) dL_hangs_215 ⟨Nat.zero_le _, Nat.zero_le _⟩ (fun r215 hr215 => ?_)
                                    obtain rfl := hr215
                                    rw [aUnlike_in (by omega)]
                                    refine zv_icmp_le (tgt := 225) hx hb dL_hangs_218 (by decide) (by omega) (by omega) (fun c218 => ?_) (fun c218 => ?_)
                                    · exfalso; omega
                                    · refine zv_iconst hx hb dL_hangs_221 ?_
                                      refine lv_goto (tgt := 226) hx hb dL_hangs_222 (by decide) ?_
                                      refine lv_istore_n (lv' := [(2, .int (zI 1)), (8, .int (zI al)), (7, .int (zI q)), (6, .int (zI p9)), (0, .ref (ad 16)), (1, .int (zI n)), (3, .int (zI tw)), (4, .int (zI le)), (5, .int (zI k))]) hx hb dL_hangs_226 rfl hl (by decide) rfl (fun ls hl => ?_)
                                      refine lv_iload hx hb dL_hangs_227 (lv_at hl 1 rfl) ?_
                                      refine lv_iload_n hx hb dL_hangs_229 rfl (lv_at hl 6 rfl) ?_
                                      refine zv_icmp_le (tgt := 238) hx hb dL_hangs_230 (by decide) (by omega) (by omega) (fun c230 => ?_) (fun c230 => ?_)
                                      · refine lv_iload_n hx hb dL_hangs_238 rfl (lv_at hl 6 rfl) ?_
                                        refine lv_istore_n (lv' := [(3, .int (zI tw)), (2, .int (zI 1)), (8, .int (zI al)), (7, .int (zI q)), (6, .int (zI p9)), (0, .ref (ad 16)), (1, .int (zI n)), (4, .int (zI le)), (5, .int (zI k))]) hx hb dL_hangs_239 rfl hl (by decide) rfl (fun ls hl => ?_)
                                        refine lv_iload hx hb dL_hangs_240 (lv_at hl 7 rfl) ?_
                                        refine lv_iload hx hb dL_hangs_242 (lv_at hl 3 rfl) ?_
                                        refine zv_if_lt (tgt := 252) hx hb dL_hangs_244 (by decide) (by omega) (fun c244 => ?_) (fun c244 => ?_)
                                        · refine zv_iconst hx hb dL_hangs_252 ?_
                                          refine lv_goto (tgt := 257) hx hb dL_hangs_253 (by decide) ?_
                                          refine zv_iadd hx hb dL_hangs_257 ?_
                                          refine lv_istore (lv' := [(4, .int (zI (le + 1))), (3, .int (zI tw)), (2, .int (zI 1)), (8, .int (zI al)), (7, .int (zI q)), (6, .int (zI p9)), (0, .ref (ad 16)), (1, .int (zI n)), (5, .int (zI k))]) hx hb dL_hangs_258 hl (by decide) rfl (fun ls hl => ?_)
                                          refine zv_iinc (lv' := [(5, .int (zI (k + 1))), (4, .int (zI (le + 1))), (3, .int (zI tw)), (2, .int (zI 1)), (8, .int (zI al)), (7, .int (zI q)), (6, .int (zI p9)), (0, .ref (ad 16)), (1, .int (zI n))]) hx hb dL_hangs_260 hl (k := 8) rfl (by decide) rfl (fun ls hl => ?_)
                                          refine lv_goto (tgt := 72) hx hb dL_hangs_263 (by decide) ?_
                                          exact ih72 tw (le + 1) (k + 1) (by omega) (by rw [zM_succ _ (by omega), ← h1, ← eal]; omega) (by rw [zAdj_step (by omega), ← h2]; omega) (by omega) _ (lv_sub hl [7, 8, 3, 2, 1, 0] rfl)
                                        · refine lv_iload hx hb dL_hangs_247 (lv_at hl 2 rfl) ?_
                                          refine zv_if_ne (tgt := 256) hx hb dL_hangs_249 (by decide) (by omega) (fun c249 => ?_) (fun c249 => ?_)
                                          · refine zv_iconst hx hb dL_hangs_256 ?_
                                            refine zv_iadd hx hb dL_hangs_257 ?_
                                            refine lv_istore (lv' := [(4, .int (zI (le + 0))), (3, .int (zI tw)), (2, .int (zI 1)), (8, .int (zI al)), (7, .int (zI q)), (6, .int (zI p9)), (0, .ref (ad 16)), (1, .int (zI n)), (5, .int (zI k))]) hx hb dL_hangs_258 hl (by decide) rfl (fun ls hl => ?_)
                                            refine zv_iinc (lv' := [(5, .int (zI (k + 1))), (4, .int (zI (le + 0))), (3, .int (zI tw)), (2, .int (zI 1)), (8, .int (zI al)), (7, .int (zI q)), (6, .int (zI p9)), (0, .ref (ad 16)), (1, .int (zI n))]) hx hb dL_hangs_260 hl (k := 8) rfl (by decide) rfl (fun ls hl => ?_)
                                            refine lv_goto (tgt := 72) hx hb dL_hangs_263 (by decide) ?_
                                            exact ih72 tw (le + 0) (k + 1) (by omega) (by rw [zM_succ _ (by omega), ← h1, ← eal]; omega) (by rw [zAdj_step (by omega), ← h2]; omega) (by omega) _ (lv_sub hl [7, 8, 3, 2, 1, 0] rfl)
                                          · refine zv_iconst hx hb dL_hangs_252 ?_
                                            refine lv_goto (tgt := 257) hx hb dL_hangs_253 (by decide) ?_
                                            refine zv_iadd hx hb dL_hangs_257 ?_
                                            refine lv_istore (lv' := [(4, .int (zI (le + 1))), (3, .int (zI tw)), (2, .int (zI 1)), (8, .int (zI al)), (7, .int (zI q)), (6, .int (zI p9)), (0, .ref (ad 16)), (1, .int (zI n)), (5, .int (zI k))]) hx hb dL_hangs_258 hl (by decide) rfl (fun ls hl => ?_)
                                            refine zv_iinc (lv' := [(5, .int (zI (k + 1))), (4, .int (zI (le + 1))), (3, .int (zI tw)), (2, .int (zI 1)), (8, .int (zI al)), (7, .int (zI q)), (6, .int (zI p9)), (0, .ref (ad 16)), (1, .int (zI n))]) hx hb dL_hangs_260 hl (k := 8) rfl (by decide) rfl (fun ls hl => ?_)
                                            refine lv_goto (tgt := 72) hx hb dL_hangs_263 (by decide) ?_
                                            exact ih72 tw (le + 1) (k + 1) (by omega) (by rw [zM_succ _ (by omega), ← h1, ← eal]; omega) (by rw [zAdj_step (by omega), ← h2]; omega) (by omega) _ (lv_sub hl [7, 8, 3, 2, 1, 0] rfl)
                                      · refine lv_iload hx hb dL_hangs_233 (lv_at hl 1 rfl) ?_
                                        refine lv_goto (tgt := 239) hx hb dL_hangs_235 (by decide) ?_
                                        refine lv_istore_n (lv' := [(3, .int (zI al)), (2, .int (zI 1)), (8, .int (zI al)), (7, .int (zI q)), (6, .int (zI p9)), (0, .ref (ad 16)), (1, .int (zI n)), (4, .int (zI le)), (5, .int (zI k))]) hx hb dL_hangs_239 rfl hl (by decide) rfl (fun ls hl => ?_)
                                        refine lv_iload hx hb dL_hangs_240 (lv_at hl 7 rfl) ?_
                                        refine lv_iload hx hb dL_hangs_242 (lv_at hl 3 rfl) ?_
                                        refine zv_if_lt (tgt := 252) hx hb dL_hangs_244 (by decide) (by omega) (fun c244 => ?_) (fun c244 => ?_)
                                        · refine zv_iconst hx hb dL_hangs_252 ?_
                                          refine lv_goto (tgt := 257) hx hb dL_hangs_253 (by decide) ?_
                                          refine zv_iadd hx hb dL_hangs_257 ?_
                                          refine lv_istore (lv' := [(4, .int (zI (le + 1))), (3, .int (zI al)), (2, .int (zI 1)), (8, .int (zI al)), (7, .int (zI q)), (6, .int (zI p9)), (0, .ref (ad 16)), (1, .int (zI n)), (5, .int (zI k))]) hx hb dL_hangs_258 hl (by decide) rfl (fun ls hl => ?_)
                                          refine zv_iinc (lv' := [(5, .int (zI (k + 1))), (4, .int (zI (le + 1))), (3, .int (zI al)), (2, .int (zI 1)), (8, .int (zI al)), (7, .int (zI q)), (6, .int (zI p9)), (0, .ref (ad 16)), (1, .int (zI n))]) hx hb dL_hangs_260 hl (k := 8) rfl (by decide) rfl (fun ls hl => ?_)
                                          refine lv_goto (tgt := 72) hx hb dL_hangs_263 (by decide) ?_
                                          exact ih72 al (le + 1) (k + 1) (by omega) (by rw [zM_succ _ (by omega), ← h1, ← eal]; omega) (by rw [zAdj_step (by omega), ← h2]; omega) (by omega) _ (lv_sub hl [7, 8, 3, 2, 1, 0] rfl)
                                        · refine lv_iload hx hb dL_hangs_247 (lv_at hl 2 rfl) ?_
                                          refine zv_if_ne (tgt := 256) hx hb dL_hangs_249 (by decide) (by omega) (fun c249 => ?_) (fun c249 => ?_)
                                          · refine zv_iconst hx hb dL_hangs_256 ?_
                                            refine zv_iadd hx hb dL_hangs_257 ?_
                                            refine lv_istore (lv' := [(4, .int (zI (le + 0))), (3, .int (zI al)), (2, .int (zI 1)), (8, .int (zI al)), (7, .int (zI q)), (6, .int (zI p9)), (0, .ref (ad 16)), (1, .int (zI n)), (5, .int (zI k))]) hx hb dL_hangs_258 hl (by decide) rfl (fun ls hl => ?_)
                                            refine zv_iinc (lv' := [(5, .int (zI (k + 1))), (4, .int (zI (le + 0))), (3, .int (zI al)), (2, .int (zI 1)), (8, .int (zI al)), (7, .int (zI q)), (6, .int (zI p9)), (0, .ref (ad 16)), (1, .int (zI n))]) hx hb dL_hangs_260 hl (k := 8) rfl (by decide) rfl (fun ls hl => ?_)
                                            refine lv_goto (tgt := 72) hx hb dL_hangs_263 (by decide) ?_
                                            exact ih72 al (le + 0) (k + 1) (by omega) (by rw [zM_succ _ (by omega), ← h1, ← eal]; omega) (by rw [zAdj_step (by omega), ← h2]; omega) (by omega) _ (lv_sub hl [7, 8, 3, 2, 1, 0] rfl)
                                          · refine zv_iconst hx hb dL_hangs_252 ?_
                                            refine lv_goto (tgt := 257) hx hb dL_hangs_253 (by decide) ?_
                                            refine zv_iadd hx hb dL_hangs_257 ?_
                                            refine lv_istore (lv' := [(4, .int (zI (le + 1))), (3, .int (zI al)), (2, .int (zI 1)), (8, .int (zI al)), (7, .int (zI q)), (6, .int (zI p9)), (0, .ref (ad 16)), (1, .int (zI n)), (5, .int (zI k))]) hx hb dL_hangs_258 hl (by decide) rfl (fun ls hl => ?_)
                                            refine zv_iinc (lv' := [(5, .int (zI (k + 1))), (4, .int (zI (le + 1))), (3, .int (zI al)), (2, .int (zI 1)), (8, .int (zI al)), (7, .int (zI q)), (6, .int (zI p9)), (0, .ref (ad 16)), (1, .int (zI n))]) hx hb dL_hangs_260 hl (k := 8) rfl (by decide) rfl (fun ls hl => ?_)
                                            refine lv_goto (tgt := 72) hx hb dL_hangs_263 (by decide) ?_
                                            exact ih72 al (le + 1) (k + 1) (by omega) (by rw [zM_succ _ (by omega), ← h1, ← eal]; omega) (by rw [zAdj_step (by omega), ← h2]; omega) (by omega) _ (lv_sub hl [7, 8, 3, 2, 1, 0] rfl)
                      · have p7 : al = 0 := p5 (by omega)
                        refine zv_iconst hx hb dL_hangs_117 ?_
                        refine lv_goto (tgt := 129) hx hb dL_hangs_118 (by decide) ?_
                        refine lv_istore (lv' := [(8, .int (zI 0)), (7, .int (zI q)), (6, .int (zI p9)), (0, .ref (ad 16)), (1, .int (zI n)), (2, .int (zI 1)), (3, .int (zI tw)), (4, .int (zI le)), (5, .int (zI k))]) hx hb dL_hangs_129 hl (by decide) rfl (fun ls hl => ?_)
                        refine lv_aload_n hx hb dL_hangs_131 rfl (lv_at hl 3 rfl) ?_
                        refine lv_iload hx hb dL_hangs_132 (lv_at hl 2 rfl) ?_
                        refine zv_iconst hx hb dL_hangs_134 ?_
                        refine zc_V (As := [.int (zI p9), .int (zI 1)]) (rest := []) S hK (kX9_at l g ad w n ee en hc u un hs tc tn p9 1 (by omega) (by omega)) (cwV 2 hts gL_hangs_X9_at rfl rfl rfl (by decide +kernel) ⟨Nat.le_of_ble_eq_true rfl, Nat.le_of_ble_eq_true rfl⟩) (hpic) (hX.recvx hK) rfl hl.1 rfl (Nat.le_of_ble_eq_true rfl) dL_hangs_135 ⟨Nat.zero_le _, Nat.zero_le _⟩ (fun r135 hr135 => ?_)
                        obtain rfl := hr135
                        rw [p2]
                        refine lv_iload hx hb dL_hangs_138 (lv_at hl 8 rfl) ?_
                        refine zv_icmp_ne (tgt := 225) hx hb dL_hangs_140 (by decide) (by omega) (by omega) (fun c140 => ?_) (fun c140 => ?_)
                        · exfalso; omega
                        · refine lv_aload_n hx hb dL_hangs_143 rfl (lv_at hl 3 rfl) ?_
                          refine lv_iload hx hb dL_hangs_144 (lv_at hl 2 rfl) ?_
                          refine lv_iload hx hb dL_hangs_146 (lv_at hl 2 rfl) ?_
                          refine zc_V (As := [.int (zI p9), .int (zI p9)]) (rest := []) S hK (kX9_alike l g ad w n ee en hc u un hs tc tn p9 p9 (by omega) (by omega)) (cwV 2 hts gL_hangs_X9_alike rfl rfl rfl (by decide +kernel) ⟨Nat.le_of_ble_eq_true rfl, Nat.le_of_ble_eq_true rfl⟩) (hpic) (hX.recvx hK) rfl hl.1 rfl (Nat.le_of_ble_eq_true rfl) dL_hangs_148 ⟨Nat.zero_le _, Nat.zero_le _⟩ (fun r148 hr148 => ?_)
                          obtain rfl := hr148
                          rw [p3]
                          refine lv_iload_n hx hb dL_hangs_151 rfl (lv_at hl 4 rfl) ?_
                          refine lv_iload hx hb dL_hangs_152 (lv_at hl 2 rfl) ?_
                          refine zv_isub hx hb dL_hangs_154 ?_
                          refine zv_icmp_ne (tgt := 225) hx hb dL_hangs_155 (by decide) (by omega) (by omega) (fun c155 => ?_) (fun c155 => ?_)
                          · exfalso; omega
                          · refine lv_iload hx hb dL_hangs_158 (lv_at hl 1 rfl) ?_
                            refine zv_if_lt (tgt := 204) hx hb dL_hangs_160 (by decide) (by omega) (fun c160 => ?_) (fun c160 => ?_)
                            · refine lv_aload_n hx hb dL_hangs_204 rfl (lv_at hl 3 rfl) ?_
                              refine lv_iload hx hb dL_hangs_205 (lv_at hl 8 rfl) ?_
                              refine zv_iconst hx hb dL_hangs_207 ?_
                              refine zv_iadd hx hb dL_hangs_208 ?_
                              refine zc_V (As := [.int (zI (k + 1))]) (rest := []) S hK (kX9_unlike l g ad w n ee en hc u un hs tc tn (k + 1) (by omega)) (cwV 1 hts gL_hangs_X9_unlike rfl rfl rfl (by decide +kernel) ⟨Nat.le_of_ble_eq_true rfl, Nat.le_of_ble_eq_true rfl⟩) (hpic) (hX.recvx hK) rfl hl.1 rfl (Nat.le_of_ble_eq_true rfl) dL_hangs_209 ⟨Nat.zero_le _, Nat.zero_le _⟩ (fun r209 hr209 => ?_)
                              obtain rfl := hr209
                              rw [aUnlike_in (by omega)]
                              refine lv_aload_n hx hb dL_hangs_212 rfl (lv_at hl 3 rfl) ?_
                              refine lv_iload hx hb dL_hangs_213 (lv_at hl 8 rfl) ?_
                              refine zc_V (As := [.int (zI k)]) (rest := [.int (zI (zUn w (k + 1)))]) S hK (kX9_unlike l g ad w n ee en hc u un hs tc tn k (by omega)) (cwV 1 hts gL_hangs_X9_unlike rfl rfl rfl (by decide +kernel) ⟨Nat.le_of_ble_eq_true rfl, Nat.le_of_ble_eq_true rfl⟩) (hpic) (hX.recvx hK) rfl hl.1 rfl (Nat.le_of_ble_eq_true rfl) dL_hangs_215 ⟨Nat.zero_le _, Nat.zero_le _⟩ (fun r215 hr215 => ?_)
                              obtain rfl := hr215
                              rw [aUnlike_in (by omega)]
                              refine zv_icmp_le (tgt := 225) hx hb dL_hangs_218 (by decide) (by omega) (by omega) (fun c218 => ?_) (fun c218 => ?_)
                              · exfalso; omega
                              · refine zv_iconst hx hb dL_hangs_221 ?_
                                refine lv_goto (tgt := 226) hx hb dL_hangs_222 (by decide) ?_
                                refine lv_istore_n (lv' := [(2, .int (zI 1)), (8, .int (zI 0)), (7, .int (zI q)), (6, .int (zI p9)), (0, .ref (ad 16)), (1, .int (zI n)), (3, .int (zI tw)), (4, .int (zI le)), (5, .int (zI k))]) hx hb dL_hangs_226 rfl hl (by decide) rfl (fun ls hl => ?_)
                                refine lv_iload hx hb dL_hangs_227 (lv_at hl 1 rfl) ?_
                                refine lv_iload_n hx hb dL_hangs_229 rfl (lv_at hl 6 rfl) ?_
                                refine zv_icmp_le (tgt := 238) hx hb dL_hangs_230 (by decide) (by omega) (by omega) (fun c230 => ?_) (fun c230 => ?_)
                                · refine lv_iload_n hx hb dL_hangs_238 rfl (lv_at hl 6 rfl) ?_
                                  refine lv_istore_n (lv' := [(3, .int (zI tw)), (2, .int (zI 1)), (8, .int (zI 0)), (7, .int (zI q)), (6, .int (zI p9)), (0, .ref (ad 16)), (1, .int (zI n)), (4, .int (zI le)), (5, .int (zI k))]) hx hb dL_hangs_239 rfl hl (by decide) rfl (fun ls hl => ?_)
                                  refine lv_iload hx hb dL_hangs_240 (lv_at hl 7 rfl) ?_
                                  refine lv_iload hx hb dL_hangs_242 (lv_at hl 3 rfl) ?_
                                  refine zv_if_lt (tgt := 252) hx hb dL_hangs_244 (by decide) (by omega) (fun c244 => ?_) (fun c244 => ?_)
                                  · refine zv_iconst hx hb dL_hangs_252 ?_
                                    refine lv_goto (tgt := 257) hx hb dL_hangs_253 (by decide) ?_
                                    refine zv_iadd hx hb dL_hangs_257 ?_
                                    refine lv_istore (lv' := [(4, .int (zI (le + 1))), (3, .int (zI tw)), (2, .int (zI 1)), (8, .int (zI 0)), (7, .int (zI q)), (6, .int (zI p9)), (0, .ref (ad 16)), (1, .int (zI n)), (5, .int (zI k))]) hx hb dL_hangs_258 hl (by decide) rfl (fun ls hl => ?_)
                                    refine zv_iinc (lv' := [(5, .int (zI (k + 1))), (4, .int (zI (le + 1))), (3, .int (zI tw)), (2, .int (zI 1)), (8, .int (zI 0)), (7, .int (zI q)), (6, .int (zI p9)), (0, .ref (ad 16)), (1, .int (zI n))]) hx hb dL_hangs_260 hl (k := 8) rfl (by decide) rfl (fun ls hl => ?_)
                                    refine lv_goto (tgt := 72) hx hb dL_hangs_263 (by decide) ?_
                                    exact ih72 tw (le + 1) (k + 1) (by omega) (by rw [zM_succ _ (by omega), ← h1, ← eal]; omega) (by rw [zAdj_step (by omega), ← h2]; omega) (by omega) _ (lv_sub hl [7, 8, 3, 2, 1, 0] rfl)
                                  · refine lv_iload hx hb dL_hangs_247 (lv_at hl 2 rfl) ?_
                                    refine zv_if_ne (tgt := 256) hx hb dL_hangs_249 (by decide) (by omega) (fun c249 => ?_) (fun c249 => ?_)
                                    · exfalso; omega
                                    · refine zv_iconst hx hb dL_hangs_252 ?_
                                      refine lv_goto (tgt := 257) hx hb dL_hangs_253 (by decide) ?_
                                      refine zv_iadd hx hb dL_hangs_257 ?_
                                      refine lv_istore (lv' := [(4, .int (zI (le + 1))), (3, .int (zI tw)), (2, .int (zI 1)), (8, .int (zI 0)), (7, .int (zI q)), (6, .int (zI p9)), (0, .ref (ad 16)), (1, .int (zI n)), (5, .int (zI k))]) hx hb dL_hangs_258 hl (by decide) rfl (fun ls hl => ?_)
                                      refine zv_iinc (lv' := [(5, .int (zI (k + 1))), (4, .int (zI (le + 1))), (3, .int (zI tw)), (2, .int (zI 1)), (8, .int (zI 0)), (7, .int (zI q)), (6, .int (zI p9)), (0, .ref (ad 16)), (1, .int (zI n))]) hx hb dL_hangs_260 hl (k := 8) rfl (by decide) rfl (fun ls hl => ?_)
                                      refine lv_goto (tgt := 72) hx hb dL_hangs_263 (by decide) ?_
                                      exact ih72 tw (le + 1) (k + 1) (by omega) (by rw [zM_succ _ (by omega), ← h1, ← eal]; omega) (by rw [zAdj_step (by omega), ← h2]; omega) (by omega) _ (lv_sub hl [7, 8, 3, 2, 1, 0] rfl)
                                · refine lv_iload hx hb dL_hangs_233 (lv_at hl 1 rfl) ?_
                                  refine lv_goto (tgt := 239) hx hb dL_hangs_235 (by decide) ?_
                                  refine lv_istore_n (lv' := [(3, .int (zI 0)), (2, .int (zI 1)), (8, .int (zI 0)), (7, .int (zI q)), (6, .int (zI p9)), (0, .ref (ad 16)), (1, .int (zI n)), (4, .int (zI le)), (5, .int (zI k))]) hx hb dL_hangs_239 rfl hl (by decide) rfl (fun ls hl => ?_)
                                  refine lv_iload hx hb dL_hangs_240 (lv_at hl 7 rfl) ?_
                                  refine lv_iload hx hb dL_hangs_242 (lv_at hl 3 rfl) ?_
                                  refine zv_if_lt (tgt := 252) hx hb dL_hangs_244 (by decide) (by omega) (fun c244 => ?_) (fun c244 => ?_)
                                  · refine zv_iconst hx hb dL_hangs_252 ?_
                                    refine lv_goto (tgt := 257) hx hb dL_hangs_253 (by decide) ?_
                                    refine zv_iadd hx hb dL_hangs_257 ?_
                                    refine lv_istore (lv' := [(4, .int (zI (le + 1))), (3, .int (zI 0)), (2, .int (zI 1)), (8, .int (zI 0)), (7, .int (zI q)), (6, .int (zI p9)), (0, .ref (ad 16)), (1, .int (zI n)), (5, .int (zI k))]) hx hb dL_hangs_258 hl (by decide) rfl (fun ls hl => ?_)
                                    refine zv_iinc (lv' := [(5, .int (zI (k + 1))), (4, .int (zI (le + 1))), (3, .int (zI 0)), (2, .int (zI 1)), (8, .int (zI 0)), (7, .int (zI q)), (6, .int (zI p9)), (0, .ref (ad 16)), (1, .int (zI n))]) hx hb dL_hangs_260 hl (k := 8) rfl (by decide) rfl (fun ls hl => ?_)
                                    refine lv_goto (tgt := 72) hx hb dL_hangs_263 (by decide) ?_
                                    exact ih72 0 (le + 1) (k + 1) (by omega) (by rw [zM_succ _ (by omega), ← h1, ← eal]; omega) (by rw [zAdj_step (by omega), ← h2]; omega) (by omega) _ (lv_sub hl [7, 8, 3, 2, 1, 0] rfl)
                                  · refine lv_iload hx hb dL_hangs_247 (lv_at hl 2 rfl) ?_
                                    refine zv_if_ne (tgt := 256) hx hb dL_hangs_249 (by decide) (by omega) (fun c249 => ?_) (fun c249 => ?_)
                                    · exfalso; omega
                                    · refine zv_iconst hx hb dL_hangs_252 ?_
                                      refine lv_goto (tgt := 257) hx hb dL_hangs_253 (by decide) ?_
                                      refine zv_iadd hx hb dL_hangs_257 ?_
                                      refine lv_istore (lv' := [(4, .int (zI (le + 1))), (3, .int (zI 0)), (2, .int (zI 1)), (8, .int (zI 0)), (7, .int (zI q)), (6, .int (zI p9)), (0, .ref (ad 16)), (1, .int (zI n)), (5, .int (zI k))]) hx hb dL_hangs_258 hl (by decide) rfl (fun ls hl => ?_)
                                      refine zv_iinc (lv' := [(5, .int (zI (k + 1))), (4, .int (zI (le + 1))), (3, .int (zI 0)), (2, .int (zI 1)), (8, .int (zI 0)), (7, .int (zI q)), (6, .int (zI p9)), (0, .ref (ad 16)), (1, .int (zI n))]) hx hb dL_hangs_260 hl (k := 8) rfl (by decide) rfl (fun ls hl => ?_)
                                      refine lv_goto (tgt := 72) hx hb dL_hangs_263 (by decide) ?_
                                      exact ih72 0 (le + 1) (k + 1) (by omega) (by rw [zM_succ _ (by omega), ← h1, ← eal]; omega) (by rw [zAdj_step (by omega), ← h2]; omega) (by omega) _ (lv_sub hl [7, 8, 3, 2, 1, 0] rfl)
                            · refine lv_iload hx hb dL_hangs_163 (lv_at hl 2 rfl) ?_
                              refine lv_iload hx hb dL_hangs_165 (lv_at hl 0 rfl) ?_
                              refine zv_iadd hx hb dL_hangs_167 ?_
                              refine lv_iload_n hx hb dL_hangs_168 rfl (lv_at hl 4 rfl) ?_
                              refine zv_icmp_eq (tgt := 204) hx hb dL_hangs_169 (by decide) (by omega) (by omega) (fun c169 => ?_) (fun c169 => ?_)
                              · refine lv_aload_n hx hb dL_hangs_204 rfl (lv_at hl 3 rfl) ?_
                                refine lv_iload hx hb dL_hangs_205 (lv_at hl 8 rfl) ?_
                                refine zv_iconst hx hb dL_hangs_207 ?_
                                refine zv_iadd hx hb dL_hangs_208 ?_
                                refine zc_V (As := [.int (zI (k + 1))]) (rest := []) S hK (kX9_unlike l g ad w n ee en hc u un hs tc tn (k + 1) (by omega)) (cwV 1 hts gL_hangs_X9_unlike rfl rfl rfl (by decide +kernel) ⟨Nat.le_of_ble_eq_true rfl, Nat.le_of_ble_eq_true rfl⟩) (hpic) (hX.recvx hK) rfl hl.1 rfl (Nat.le_of_ble_eq_true rfl) dL_hangs_209 ⟨Nat.zero_le _, Nat.zero_le _⟩ (fun r209 hr209 => ?_)
                                obtain rfl := hr209
                                rw [aUnlike_in (by omega)]
                                refine lv_aload_n hx hb dL_hangs_212 rfl (lv_at hl 3 rfl) ?_
                                refine lv_iload hx hb dL_hangs_213 (lv_at hl 8 rfl) ?_
                                refine zc_V (As := [.int (zI k)]) (rest := [.int (zI (zUn w (k + 1)))]) S hK (kX9_unlike l g ad w n ee en hc u un hs tc tn k (by omega)) (cwV 1 hts gL_hangs_X9_unlike rfl rfl rfl (by decide +kernel) ⟨Nat.le_of_ble_eq_true rfl, Nat.le_of_ble_eq_true rfl⟩) (hpic) (hX.recvx hK) rfl hl.1 rfl (Nat.le_of_ble_eq_true rfl) dL_hangs_215 ⟨Nat.zero_le _, Nat.zero_le _⟩ (fun r215 hr215 => ?_)
                                obtain rfl := hr215
                                rw [aUnlike_in (by omega)]
                                refine zv_icmp_le (tgt := 225) hx hb dL_hangs_218 (by decide) (by omega) (by omega) (fun c218 => ?_) (fun c218 => ?_)
                                · exfalso; omega
                                · refine zv_iconst hx hb dL_hangs_221 ?_
                                  refine lv_goto (tgt := 226) hx hb dL_hangs_222 (by decide) ?_
                                  refine lv_istore_n (lv' := [(2, .int (zI 1)), (8, .int (zI 0)), (7, .int (zI q)), (6, .int (zI p9)), (0, .ref (ad 16)), (1, .int (zI n)), (3, .int (zI tw)), (4, .int (zI le)), (5, .int (zI k))]) hx hb dL_hangs_226 rfl hl (by decide) rfl (fun ls hl => ?_)
                                  refine lv_iload hx hb dL_hangs_227 (lv_at hl 1 rfl) ?_
                                  refine lv_iload_n hx hb dL_hangs_229 rfl (lv_at hl 6 rfl) ?_
                                  refine zv_icmp_le (tgt := 238) hx hb dL_hangs_230 (by decide) (by omega) (by omega) (fun c230 => ?_) (fun c230 => ?_)
                                  · refine lv_iload_n hx hb dL_hangs_238 rfl (lv_at hl 6 rfl) ?_
                                    refine lv_istore_n (lv' := [(3, .int (zI tw)), (2, .int (zI 1)), (8, .int (zI 0)), (7, .int (zI q)), (6, .int (zI p9)), (0, .ref (ad 16)), (1, .int (zI n)), (4, .int (zI le)), (5, .int (zI k))]) hx hb dL_hangs_239 rfl hl (by decide) rfl (fun ls hl => ?_)
                                    refine lv_iload hx hb dL_hangs_240 (lv_at hl 7 rfl) ?_
                                    refine lv_iload hx hb dL_hangs_242 (lv_at hl 3 rfl) ?_
                                    refine zv_if_lt (tgt := 252) hx hb dL_hangs_244 (by decide) (by omega) (fun c244 => ?_) (fun c244 => ?_)
                                    · refine zv_iconst hx hb dL_hangs_252 ?_
                                      refine lv_goto (tgt := 257) hx hb dL_hangs_253 (by decide) ?_
                                      refine zv_iadd hx hb dL_hangs_257 ?_
                                      refine lv_istore (lv' := [(4, .int (zI (le + 1))), (3, .int (zI tw)), (2, .int (zI 1)), (8, .int (zI 0)), (7, .int (zI q)), (6, .int (zI p9)), (0, .ref (ad 16)), (1, .int (zI n)), (5, .int (zI k))]) hx hb dL_hangs_258 hl (by decide) rfl (fun ls hl => ?_)
                                      refine zv_iinc (lv' := [(5, .int (zI (k + 1))), (4, .int (zI (le + 1))), (3, .int (zI tw)), (2, .int (zI 1)), (8, .int (zI 0)), (7, .int (zI q)), (6, .int (zI p9)), (0, .ref (ad 16)), (1, .int (zI n))]) hx hb dL_hangs_260 hl (k := 8) rfl (by decide) rfl (fun ls hl => ?_)
                                      refine lv_goto (tgt := 72) hx hb dL_hangs_263 (by decide) ?_
                                      exact ih72 tw (le + 1) (k + 1) (by omega) (by rw [zM_succ _ (by omega), ← h1, ← eal]; omega) (by rw [zAdj_step (by omega), ← h2]; omega) (by omega) _ (lv_sub hl [7, 8, 3, 2, 1, 0] rfl)
                                    · refine lv_iload hx hb dL_hangs_247 (lv_at hl 2 rfl) ?_
                                      refine zv_if_ne (tgt := 256) hx hb dL_hangs_249 (by decide) (by omega) (fun c249 => ?_) (fun c249 => ?_)
                                      · exfalso; omega
                                      · refine zv_iconst hx hb dL_hangs_252 ?_
                                        refine lv_goto (tgt := 257) hx hb dL_hangs_253 (by decide) ?_
                                        refine zv_iadd hx hb dL_hangs_257 ?_
                                        refine lv_istore (lv' := [(4, .int (zI (le + 1))), (3, .int (zI tw)), (2, .int (zI 1)), (8, .int (zI 0)), (7, .int (zI q)), (6, .int (zI p9)), (0, .ref (ad 16)), (1, .int (zI n)), (5, .int (zI k))]) hx hb dL_hangs_258 hl (by decide) rfl (fun ls hl => ?_)
                                        refine zv_iinc (lv' := [(5, .int (zI (k + 1))), (4, .int (zI (le + 1))), (3, .int (zI tw)), (2, .int (zI 1)), (8, .int (zI 0)), (7, .int (zI q)), (6, .int (zI p9)), (0, .ref (ad 16)), (1, .int (zI n))]) hx hb dL_hangs_260 hl (k := 8) rfl (by decide) rfl (fun ls hl => ?_)
                                        refine lv_goto (tgt := 72) hx hb dL_hangs_263 (by decide) ?_
                                        exact ih72 tw (le + 1) (k + 1) (by omega) (by rw [zM_succ _ (by omega), ← h1, ← eal]; omega) (by rw [zAdj_step (by omega), ← h2]; omega) (by omega) _ (lv_sub hl [7, 8, 3, 2, 1, 0] rfl)
                                  · refine lv_iload hx hb dL_hangs_233 (lv_at hl 1 rfl) ?_
                                    refine lv_goto (tgt := 239) hx hb dL_hangs_235 (by decide) ?_
                                    refine lv_istore_n (lv' := [(3, .int (zI 0)), (2, .int (zI 1)), (8, .int (zI 0)), (7, .int (zI q)), (6, .int (zI p9)), (0, .ref (ad 16)), (1, .int (zI n)), (4, .int (zI le)), (5, .int (zI k))]) hx hb dL_hangs_239 rfl hl (by decide) rfl (fun ls hl => ?_)
                                    refine lv_iload hx hb dL_hangs_240 (lv_at hl 7 rfl) ?_
                                    refine lv_iload hx hb dL_hangs_242 (lv_at hl 3 rfl) ?_
                                    refine zv_if_lt (tgt := 252) hx hb dL_hangs_244 (by decide) (by omega) (fun c244 => ?_) (fun c244 => ?_)
                                    · refine zv_iconst hx hb dL_hangs_252 ?_
                                      refine lv_goto (tgt := 257) hx hb dL_hangs_253 (by decide) ?_
                                      refine zv_iadd hx hb dL_hangs_257 ?_
                                      refine lv_istore (lv' := [(4, .int (zI (le + 1))), (3, .int (zI 0)), (2, .int (zI 1)), (8, .int (zI 0)), (7, .int (zI q)), (6, .int (zI p9)), (0, .ref (ad 16)), (1, .int (zI n)), (5, .int (zI k))]) hx hb dL_hangs_258 hl (by decide) rfl (fun ls hl => ?_)
                                      refine zv_iinc (lv' := [(5, .int (zI (k + 1))), (4, .int (zI (le + 1))), (3, .int (zI 0)), (2, .int (zI 1)), (8, .int (zI 0)), (7, .int (zI q)), (6, .int (zI p9)), (0, .ref (ad 16)), (1, .int (zI n))]) hx hb dL_hangs_260 hl (k := 8) rfl (by decide) rfl (fun ls hl => ?_)
                                      refine lv_goto (tgt := 72) hx hb dL_hangs_263 (by decide) ?_
                                      exact ih72 0 (le + 1) (k + 1) (by omega) (by rw [zM_succ _ (by omega), ← h1, ← eal]; omega) (by rw [zAdj_step (by omega), ← h2]; omega) (by omega) _ (lv_sub hl [7, 8, 3, 2, 1, 0] rfl)
                                    · refine lv_iload hx hb dL_hangs_247 (lv_at hl 2 rfl) ?_
                                      refine zv_if_ne (tgt := 256) hx hb dL_hangs_249 (by decide) (by omega) (fun c249 => ?_) (fun c249 => ?_)
                                      · exfalso; omega
                                      · refine zv_iconst hx hb dL_hangs_252 ?_
                                        refine lv_goto (tgt := 257) hx hb dL_hangs_253 (by decide) ?_
                                        refine zv_iadd hx hb dL_hangs_257 ?_
                                        refine lv_istore (lv' := [(4, .int (zI (le + 1))), (3, .int (zI 0)), (2, .int (zI 1)), (8, .int (zI 0)), (7, .int (zI q)), (6, .int (zI p9)), (0, .ref (ad 16)), (1, .int (zI n)), (5, .int (zI k))]) hx hb dL_hangs_258 hl (by decide) rfl (fun ls hl => ?_)
                                        refine zv_iinc (lv' := [(5, .int (zI (k + 1))), (4, .int (zI (le + 1))), (3, .int (zI 0)), (2, .int (zI 1)), (8, .int (zI 0)), (7, .int (zI q)), (6, .int (zI p9)), (0, .ref (ad 16)), (1, .int (zI n))]) hx hb dL_hangs_260 hl (k := 8) rfl (by decide) rfl (fun ls hl => ?_)
                                        refine lv_goto (tgt := 72) hx hb dL_hangs_263 (by decide) ?_
                                        exact ih72 0 (le + 1) (k + 1) (by omega) (by rw [zM_succ _ (by omega), ← h1, ← eal]; omega) (by rw [zAdj_step (by omega), ← h2]; omega) (by omega) _ (lv_sub hl [7, 8, 3, 2, 1, 0] rfl)
                              · have q5 : q + al < n := by
                                  rcases q3 with v | v
                                  · exact absurd v (by omega)
                                  · exact v.1
                                refine lv_iload hx hb dL_hangs_172 (lv_at hl 1 rfl) ?_
                                refine lv_iload hx hb dL_hangs_174 (lv_at hl 0 rfl) ?_
                                refine zv_iadd hx hb dL_hangs_176 ?_
                                refine lv_iload_n hx hb dL_hangs_177 rfl (lv_at hl 4 rfl) ?_
                                refine zv_icmp_ge (tgt := 225) hx hb dL_hangs_178 (by decide) (by omega) (by omega) (fun c178 => ?_) (fun c178 => ?_)
                                · exfalso; omega
                                · have q4 : zAt w n (p9 + al) 0 < zAt w n (q + al) 0 := by
                                    rcases q3 with v | v
                                    · exact absurd v (by omega)
                                    · exact v.2
                                  refine lv_aload_n hx hb dL_hangs_181 rfl (lv_at hl 3 rfl) ?_
                                  refine lv_iload hx hb dL_hangs_182 (lv_at hl 2 rfl) ?_
                                  refine lv_iload hx hb dL_hangs_184 (lv_at hl 0 rfl) ?_
                                  refine zv_iadd hx hb dL_hangs_186 ?_
                                  refine zv_iconst hx hb dL_hangs_187 ?_
                                  refine zc_V (As := [.int (zI (p9 + 0)), .int (zI 0)]) (rest := []) S hK (kX9_at l g ad w n ee en hc u un hs tc tn (p9 + 0) 0 (by omega) (by omega)) (cwV 2 hts gL_hangs_X9_at rfl rfl rfl (by decide +kernel) ⟨Nat.le_of_ble_eq_true rfl, Nat.le_of_ble_eq_true rfl⟩) (hpic) (hX.recvx hK) rfl hl.1 rfl (Nat.le_of_ble_eq_true rfl) dL_hangs_188 ⟨Nat.zero_le _, Nat.zero_le _⟩ (fun r188 hr188 => ?_)
                                  obtain rfl := hr188
                                  have b188 := zAt0_bd (n := n) hw (p9 + al)
                                  refine lv_aload_n hx hb dL_hangs_191 rfl (lv_at hl 3 rfl) ?_
                                  refine lv_iload hx hb dL_hangs_192 (lv_at hl 1 rfl) ?_
                                  refine lv_iload hx hb dL_hangs_194 (lv_at hl 0 rfl) ?_
                                  refine zv_iadd hx hb dL_hangs_196 ?_
                                  refine zv_iconst hx hb dL_hangs_197 ?_
                                  refine zc_V (As := [.int (zI (q + 0)), .int (zI 0)]) (rest := [.int (zI (zAt w n (p9 + 0) 0))]) S hK (kX9_at l g ad w n ee en hc u un hs tc tn (q + 0) 0 (by omega) (by omega)) (cwV 2 hts gL_hangs_X9_at rfl rfl rfl (by decide +kernel) ⟨Nat.le_of_ble_eq_true rfl, Nat.le_of_ble_eq_true rfl⟩) (hpic) (hX.recvx hK) rfl hl.1 rfl (Nat.le_of_ble_eq_true rfl) dL_hangs_198 ⟨Nat.zero_le _, Nat.zero_le _⟩ (fun r198 hr198 => ?_)
                                  obtain rfl := hr198
                                  have b198 := zAt0_bd (n := n) hw (q + al)
                                  refine zv_icmp_ge (tgt := 225) hx hb dL_hangs_201 (by decide) (by omega) (by omega) (fun c201 => ?_) (fun c201 => ?_)
                                  · exfalso; omega
                                  · refine lv_aload_n hx hb dL_hangs_204 rfl (lv_at hl 3 rfl) ?_
                                    refine lv_iload hx hb dL_hangs_205 (lv_at hl 8 rfl) ?_
                                    refine zv_iconst hx hb dL_hangs_207 ?_
                                    refine zv_iadd hx hb dL_hangs_208 ?_
                                    refine zc_V (As := [.int (zI (k + 1))]) (rest := []) S hK (kX9_unlike l g ad w n ee en hc u un hs tc tn (k + 1) (by omega)) (cwV 1 hts gL_hangs_X9_unlike rfl rfl rfl (by decide +kernel) ⟨Nat.le_of_ble_eq_true rfl, Nat.le_of_ble_eq_true rfl⟩) (hpic) (hX.recvx hK) rfl hl.1 rfl (Nat.le_of_ble_eq_true rfl) dL_hangs_209 ⟨Nat.zero_le _, Nat.zero_le _⟩ (fun r209 hr209 => ?_)
                                    obtain rfl := hr209
                                    rw [aUnlike_in (by omega)]
                                    refine lv_aload_n hx hb dL_hangs_212 rfl (lv_at hl 3 rfl) ?_
                                    refine lv_iload hx hb dL_hangs_213 (lv_at hl 8 rfl) ?_
                                    refine zc_V (As := [.int (zI k)]) (rest := [.int (zI (zUn w (k + 1)))]) S hK (kX9_unlike l g ad w n ee en hc u un hs tc tn k (by omega)) (cwV 1 hts gL_hangs_X9_unlike rfl rfl rfl (by decide +kernel) ⟨Nat.le_of_ble_eq_true rfl, Nat.le_of_ble_eq_true rfl⟩) (hpic) (hX.recvx hK) rfl hl.1 rfl (Nat.le_of_ble_eq_true rfl) dL_hangs_215 ⟨Nat.zero_le _, Nat.zero_le _⟩ (fun r215 hr215 => ?_)
                                    obtain rfl := hr215
                                    rw [aUnlike_in (by omega)]
                                    refine zv_icmp_le (tgt := 225) hx hb dL_hangs_218 (by decide) (by omega) (by omega) (fun c218 => ?_) (fun c218 => ?_)
                                    · exfalso; omega
                                    · refine zv_iconst hx hb dL_hangs_221 ?_
                                      refine lv_goto (tgt := 226) hx hb dL_hangs_222 (by decide) ?_
                                      refine lv_istore_n (lv' := [(2, .int (zI 1)), (8, .int (zI 0)), (7, .int (zI q)), (6, .int (zI p9)), (0, .ref (ad 16)), (1, .int (zI n)), (3, .int (zI tw)), (4, .int (zI le)), (5, .int (zI k))]) hx hb dL_hangs_226 rfl hl (by decide) rfl (fun ls hl => ?_)
                                      refine lv_iload hx hb dL_hangs_227 (lv_at hl 1 rfl) ?_
                                      refine lv_iload_n hx hb dL_hangs_229 rfl (lv_at hl 6 rfl) ?_
                                      refine zv_icmp_le (tgt := 238) hx hb dL_hangs_230 (by decide) (by omega) (by omega) (fun c230 => ?_) (fun c230 => ?_)
                                      · refine lv_iload_n hx hb dL_hangs_238 rfl (lv_at hl 6 rfl) ?_
                                        refine lv_istore_n (lv' := [(3, .int (zI tw)), (2, .int (zI 1)), (8, .int (zI 0)), (7, .int (zI q)), (6, .int (zI p9)), (0, .ref (ad 16)), (1, .int (zI n)), (4, .int (zI le)), (5, .int (zI k))]) hx hb dL_hangs_239 rfl hl (by decide) rfl (fun ls hl => ?_)
                                        refine lv_iload hx hb dL_hangs_240 (lv_at hl 7 rfl) ?_
                                        refine lv_iload hx hb dL_hangs_242 (lv_at hl 3 rfl) ?_
                                        refine zv_if_lt (tgt := 252) hx hb dL_hangs_244 (by decide) (by omega) (fun c244 => ?_) (fun c244 => ?_)
                                        · refine zv_iconst hx hb dL_hangs_252 ?_
                                          refine lv_goto (tgt := 257) hx hb dL_hangs_253 (by decide) ?_
                                          refine zv_iadd hx hb dL_hangs_257 ?_
                                          refine lv_istore (lv' := [(4, .int (zI (le + 1))), (3, .int (zI tw)), (2, .int (zI 1)), (8, .int (zI 0)), (7, .int (zI q)), (6, .int (zI p9)), (0, .ref (ad 16)), (1, .int (zI n)), (5, .int (zI k))]) hx hb dL_hangs_258 hl (by decide) rfl (fun ls hl => ?_)
                                          refine zv_iinc (lv' := [(5, .int (zI (k + 1))), (4, .int (zI (le + 1))), (3, .int (zI tw)), (2, .int (zI 1)), (8, .int (zI 0)), (7, .int (zI q)), (6, .int (zI p9)), (0, .ref (ad 16)), (1, .int (zI n))]) hx hb dL_hangs_260 hl (k := 8) rfl (by decide) rfl (fun ls hl => ?_)
                                          refine lv_goto (tgt := 72) hx hb dL_hangs_263 (by decide) ?_
                                          exact ih72 tw (le + 1) (k + 1) (by omega) (by rw [zM_succ _ (by omega), ← h1, ← eal]; omega) (by rw [zAdj_step (by omega), ← h2]; omega) (by omega) _ (lv_sub hl [7, 8, 3, 2, 1, 0] rfl)
                                        · refine lv_iload hx hb dL_hangs_247 (lv_at hl 2 rfl) ?_
                                          refine zv_if_ne (tgt := 256) hx hb dL_hangs_249 (by decide) (by omega) (fun c249 => ?_) (fun c249 => ?_)
                                          · exfalso; omega
                                          · refine zv_iconst hx hb dL_hangs_252 ?_
                                            refine lv_goto (tgt := 257) hx hb dL_hangs_253 (by decide) ?_
                                            refine zv_iadd hx hb dL_hangs_257 ?_
                                            refine lv_istore (lv' := [(4, .int (zI (le + 1))), (3, .int (zI tw)), (2, .int (zI 1)), (8, .int (zI 0)), (7, .int (zI q)), (6, .int (zI p9)), (0, .ref (ad 16)), (1, .int (zI n)), (5, .int (zI k))]) hx hb dL_hangs_258 hl (by decide) rfl (fun ls hl => ?_)
                                            refine zv_iinc (lv' := [(5, .int (zI (k + 1))), (4, .int (zI (le + 1))), (3, .int (zI tw)), (2, .int (zI 1)), (8, .int (zI 0)), (7, .int (zI q)), (6, .int (zI p9)), (0, .ref (ad 16)), (1, .int (zI n))]) hx hb dL_hangs_260 hl (k := 8) rfl (by decide) rfl (fun ls hl => ?_)
                                            refine lv_goto (tgt := 72) hx hb dL_hangs_263 (by decide) ?_
                                            exact ih72 tw (le + 1) (k + 1) (by omega) (by rw [zM_succ _ (by omega), ← h1, ← eal]; omega) (by rw [zAdj_step (by omega), ← h2]; omega) (by omega) _ (lv_sub hl [7, 8, 3, 2, 1, 0] rfl)
                                      · refine lv_iload hx hb dL_hangs_233 (lv_at hl 1 rfl) ?_
                                        refine lv_goto (tgt := 239) hx hb dL_hangs_235 (by decide) ?_
                                        refine lv_istore_n (lv' := [(3, .int (zI 0)), (2, .int (zI 1)), (8, .int (zI 0)), (7, .int (zI q)), (6, .int (zI p9)), (0, .ref (ad 16)), (1, .int (zI n)), (4, .int (zI le)), (5, .int (zI k))]) hx hb dL_hangs_239 rfl hl (by decide) rfl (fun ls hl => ?_)
                                        refine lv_iload hx hb dL_hangs_240 (lv_at hl 7 rfl) ?_
                                        refine lv_iload hx hb dL_hangs_242 (lv_at hl 3 rfl) ?_
                                        refine zv_if_lt (tgt := 252) hx hb dL_hangs_244 (by decide) (by omega) (fun c244 => ?_) (fun c244 => ?_)
                                        · refine zv_iconst hx hb dL_hangs_252 ?_
                                          refine lv_goto (tgt := 257) hx hb dL_hangs_253 (by decide) ?_
                                          refine zv_iadd hx hb dL_hangs_257 ?_
                                          refine lv_istore (lv' := [(4, .int (zI (le + 1))), (3, .int (zI 0)), (2, .int (zI 1)), (8, .int (zI 0)), (7, .int (zI q)), (6, .int (zI p9)), (0, .ref (ad 16)), (1, .int (zI n)), (5, .int (zI k))]) hx hb dL_hangs_258 hl (by decide) rfl (fun ls hl => ?_)
                                          refine zv_iinc (lv' := [(5, .int (zI (k + 1))), (4, .int (zI (le + 1))), (3, .int (zI 0)), (2, .int (zI 1)), (8, .int (zI 0)), (7, .int (zI q)), (6, .int (zI p9)), (0, .ref (ad 16)), (1, .int (zI n))]) hx hb dL_hangs_260 hl (k := 8) rfl (by decide) rfl (fun ls hl => ?_)
                                          refine lv_goto (tgt := 72) hx hb dL_hangs_263 (by decide) ?_
                                          exact ih72 0 (le + 1) (k + 1) (by omega) (by rw [zM_succ _ (by omega), ← h1, ← eal]; omega) (by rw [zAdj_step (by omega), ← h2]; omega) (by omega) _ (lv_sub hl [7, 8, 3, 2, 1, 0] rfl)
                                        · refine lv_iload hx hb dL_hangs_247 (lv_at hl 2 rfl) ?_
                                          refine zv_if_ne (tgt := 256) hx hb dL_hangs_249 (by decide) (by omega) (fun c249 => ?_) (fun c249 => ?_)
                                          · exfalso; omega
                                          · refine zv_iconst hx hb dL_hangs_252 ?_
                                            refine lv_goto (tgt := 257) hx hb dL_hangs_253 (by decide) ?_
                                            refine zv_iadd hx hb dL_hangs_257 ?_
                                            refine lv_istore (lv' := [(4, .int (zI (le + 1))), (3, .int (zI 0)), (2, .int (zI 1)), (8, .int (zI 0)), (7, .int (zI q)), (6, .int (zI p9)), (0, .ref (ad 16)), (1, .int (zI n)), (5, .int (zI k))]) hx hb dL_hangs_258 hl (by decide) rfl (fun ls hl => ?_)
                                            refine zv_iinc (lv' := [(5, .int (zI (k + 1))), (4, .int (zI (le + 1))), (3, .int (zI 0)), (2, .int (zI 1)), (8, .int (zI 0)), (7, .int (zI q)), (6, .int (zI p9)), (0, .ref (ad 16)), (1, .int (zI n))]) hx hb dL_hangs_260 hl (k := 8) rfl (by decide) rfl (fun ls hl => ?_)
                                            refine lv_goto (tgt := 72) hx hb dL_hangs_263 (by decide) ?_
                                            exact ih72 0 (le + 1) (k + 1) (by omega) (by rw [zM_succ _ (by omega), ← h1, ← eal]; omega) (by rw [zAdj_step (by omega), ← h2]; omega) (by omega) _ (lv_sub hl [7, 8, 3, 2, 1, 0] rfl)
            exact lp72 _ 0 0 0 (by omega) ((zM_nil _ (by omega)).symm) ((zC_nil _ (by omega)).symm) (Nat.lt_succ_self _) _ (lv_sub hl [5, 4, 3, 2, 1, 0] rfl)

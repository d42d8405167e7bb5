theorem mX10_reads_0 : ∀ w ∈ wsX100, w ∈ wsX10_reads := by decide +kernel
theorem mX10_reads_1 : (Cond.fieldLink RX10 7 "BorderRunsModel" "s" "[I") ∈ wsX10_reads := by decide +kernel
theorem mX10_reads_2 : (Cond.fieldLink RX10 88 "BorderRunsModel" "typed" "I") ∈ wsX10_reads := by decide +kernel
theorem mX10_reads_3 : (Cond.fieldLink RX10 13 "BorderRunsModel" "text" "[C") ∈ wsX10_reads := by decide +kernel
set_option maxHeartbeats 4000000 in
set_option maxRecDepth 100000 in
/-- X10_reads -/
theorem kX10_reads (l : Launch) (g : zG) (y sa ta oa : Nat) (w : Int → Int) (n : Int) (ee : Nat → Int → Int) (en : Nat → Int) (hc : Int) (u : Int → Int) (un hs : Int) (tc : Int → Int) (tn : Int)  : Met l yX10_reads wsX10_reads (zRm 2 43) (zP g [.ref y] (AM g y sa ta oa w n ee en hc u un hs tc tn)) (zQi (fun r H => ∃ z : Int, r = zI z ∧ z = zFl tc tn ∧ -1 ≤ z ∧ z ≤ 60 ∧ ∃ f gt od : Int → Int, RM g y sa ta oa f gt od hc hs tn H ∧ MF f w n ee en hc u un hs ∧ (∀ k, 0 ≤ k → k < tn → gt k = tc k) ∧ (z = -1 → SL f 246 (zLdS tc tn).1 (zLdS tc tn).2.1)) (zA4 y sa ta oa)) 0 0 (zA4 y sa ta oa) := by
  refine Met.ofZ (cc := cX10_reads) (maxL := 9) (ret := (some .int)) (by decide) rfl (Nat.le_of_ble_eq_true rfl) ?_
  intro p e s m args below meth c ls hx hb hr hlocks S hin hK hpic hl
  have hown := S.2.2.2.1
  have hts := S.2.2.2.2
  have hl : lv_has ls 9 [(0, .ref y)] := hl
  obtain ⟨f, gt, od, hX, hm, hgt⟩ := hpic
  have hR := hX.rg
  have hsl := hm.1
  have hs0 := hsl.1
  have hn := hsl.2.1
  have hS : va_S (zA4 y sa ta oa) s.heap s.heap [] := va_S.rf
  refine zv_sipush hx hb dX10_reads_0 (by decide +kernel) ?_
  refine lv_istore_n (lv' := [(1, .int (zI 246)), (0, .ref y)]) hx hb dX10_reads_3 rfl hl (by decide) rfl (fun ls hl => ?_)
  refine lv_aload_n hx hb dX10_reads_4 rfl (lv_at hl 1 rfl) ?_
  refine va_get (D := g.1) (ci := 5) (v := .ref sa) (C := RX10) (T := TX10) (N := 6) hx hb hts mX10_reads_0 hown hK (hX.gy) 0 rfl rfl 0 (by decide) (hts _ mX10_reads_1) (fun _ h9 => h9) rfl dX10_reads_5 ?_
  refine lv_iload_n hx hb dX10_reads_8 rfl (lv_at hl 0 rfl) ?_
  refine zv_iconst hx hb dX10_reads_9 ?_
  refine zy_ist hx hb hK hX hS (by omega) (by omega) dX10_reads_10 (fun H1 locs hX hS => ?_)
  obtain ⟨f10, e10⟩ : ∃ z9, z9 = zApp f 246 0 := ⟨_, rfl⟩
  rw [← e10] at hX
  have r10 : f10 246 = 0 := by rw [e10]; exact zApp_eq _ _ _
  have q10 : ∀ x9, x9 ≠ 246 → f10 x9 = f x9 := fun x9 h => by rw [e10]; exact zApp_ne h
  refine zv_iconst hx hb dX10_reads_11 ?_
  refine lv_istore_n (lv' := [(2, .int (zI 0)), (1, .int (zI 246)), (0, .ref y)]) hx hb dX10_reads_12 rfl hl (by decide) rfl (fun ls hl => ?_)
  have lp13 : ∀ (z_f : Nat) (i : Int) (f1 : Int → Int) (v1 : Int → Int) (vn1 : Int) (pf1 : Int) (bp1 : Int) (H1 : Heap) (locs : List Loc), (0 ≤ i ∧ i ≤ tn ∧ (i ≠ 0 → vn1 ≠ 0) ∧ (i = 0 → vn1 = 0)) → (zSt tc i.toNat = some (v1, vn1, pf1, 0, bp1)) → (SL f1 246 v1 vn1) → (bp1 ≠ 0 → i < tn → ¬ (50 ≤ tc i ∧ tc i ≤ 57)) → (∀ k, 0 ≤ k → k < 246 → f1 k = f k) → (RM g y sa ta oa f1 gt od hc hs tn H1) → (va_S (zA4 y sa ta oa) s.heap H1 locs) → ((tn - i).toNat) < z_f → ∀ (ls : Array Slot), lv_has ls 9 [(0, .ref y), (1, .int (zI 246)), (2, .int (zI i))] → W p l e (zRm 2 43) s m args below meth c H1 locs 0 0 (MQ below (zQi (fun r H => ∃ z : Int, r = zI z ∧ z = zFl tc tn ∧ -1 ≤ z ∧ z ≤ 60 ∧ ∃ f gt od : Int → Int, RM g y sa ta oa f gt od hc hs tn H ∧ MF f w n ee en hc u un hs ∧ (∀ k, 0 ≤ k → k < tn → gt k = tc k) ∧ (z = -1 → SL f 246 (zLdS tc tn).1 (zLdS tc tn).2.1)) (zA4 y sa ta oa)) args s 0 0 (zA4 y sa ta oa)) (F0 m 13 ls []) := by
    intro z_f
    induction z_f with
    | zero => intro i f1 v1 vn1 pf1 bp1 H1 locs h0 h1 h2 h3 hlo hX hS z_m; exact absurd z_m (Nat.not_lt_zero _)
    | succ z_f ih13 =>
      intro i f1 v1 vn1 pf1 bp1 H1 locs h0 h1 h2 h3 hlo hX hS z_m13 ls hl
      have l1 := h2.1
      have nb := h2.2.1
      refine lv_iload_n hx hb dX10_reads_13 rfl (lv_at hl 2 rfl) ?_
      refine lv_aload_n hx hb dX10_reads_14 rfl (lv_at hl 0 rfl) ?_
      refine va_get (D := g.1) (ci := 5) (v := .int (zI tn)) (C := RX10) (T := TX10) (N := 6) hx hb hts mX10_reads_0 hown hK (hX.gy) 0 rfl rfl 4 (by decide) (hts _ mX10_reads_2) (fun _ h9 => h9) rfl dX10_reads_15 ?_
      refine zv_icmp_lt (tgt := 25) hx hb dX10_reads_18 (by decide) (by omega) (by omega) (fun c18 => ?_) (fun c18 => ?_)
      · refine lv_aload_n hx hb dX10_reads_25 rfl (lv_at hl 0 rfl) ?_
        refine va_get (D := g.1) (ci := 5) (v := .ref sa) (C := RX10) (T := TX10) (N := 6) hx hb hts mX10_reads_0 hown hK (hX.gy) 0 rfl rfl 0 (by decide) (hts _ mX10_reads_1) (fun _ h9 => h9) rfl dX10_reads_26 ?_
        refine lv_iload_n hx hb dX10_reads_29 rfl (lv_at hl 1 rfl) ?_
        refine zy_ild hx hb hK hX (by omega) dX10_reads_30 ?_
        rw [l1]
        refine lv_istore_n (lv' := [(3, .int (zI vn1)), (0, .ref y), (1, .int (zI 246)), (2, .int (zI i))]) hx hb dX10_reads_31 rfl hl (by decide) rfl (fun ls hl => ?_)
        refine lv_iload_n hx hb dX10_reads_32 rfl (lv_at hl 3 rfl) ?_
        refine lv_aload_n hx hb dX10_reads_33 rfl (lv_at hl 1 rfl) ?_
        refine va_get (D := g.1) (ci := 5) (v := .int (zI tn)) (C := RX10) (T := TX10) (N := 6) hx hb hts mX10_reads_0 hown hK (hX.gy) 0 rfl rfl 4 (by decide) (hts _ mX10_reads_2) (fun _ h9 => h9) rfl dX10_reads_34 ?_
        refine zv_icmp_ge (tgt := 55) hx hb dX10_reads_37 (by decide) (by omega) (by omega) (fun c37 => ?_) (fun c37 => ?_)
        · have n40 : i < tn → tc i ≠ 40 := fun z => absurd z (by omega)
          refine zv_iconst hx hb dX10_reads_55 ?_
          refine lv_istore (lv' := [(4, .int (zI 0)), (3, .int (zI vn1)), (0, .ref y), (1, .int (zI 246)), (2, .int (zI i))]) hx hb dX10_reads_56 hl (by decide) rfl (fun ls hl => ?_)
          refine lv_iload_n hx hb dX10_reads_58 rfl (lv_at hl 4 rfl) ?_
          refine lv_iload hx hb dX10_reads_59 (lv_at hl 0 rfl) ?_
          refine zv_if_eq (tgt := 68) hx hb dX10_reads_61 (by decide) (by omega) (fun c61 => ?_) (fun c61 => ?_)
          · refine zv_iconst hx hb dX10_reads_68 ?_
            refine zv_iadd hx hb dX10_reads_69 ?_
            refine lv_istore_n (lv' := [(2, .int (zI (i + 0))), (4, .int (zI 0)), (3, .int (zI vn1)), (0, .ref y), (1, .int (zI 246))]) hx hb dX10_reads_70 rfl hl (by decide) rfl (fun ls hl => ?_)
            refine lv_iload_n hx hb dX10_reads_71 rfl (lv_at hl 0 rfl) ?_
            refine lv_istore (lv' := [(5, .int (zI (i + 0))), (2, .int (zI (i + 0))), (4, .int (zI 0)), (3, .int (zI vn1)), (0, .ref y), (1, .int (zI 246))]) hx hb dX10_reads_72 hl (by decide) rfl (fun ls hl => ?_)
            have lp74 : ∀ (z_f : Nat) (q : Int) (f2 : Int → Int) (v2 : Int → Int) (vn2 : Int) (pf2 : Int) (bp2 : Int) (H1 : Heap) (locs : List Loc), (i ≤ q ∧ q ≤ i + 1 ∧ q ≤ tn ∧ vn2 - vn1 = q - i) → (zSt tc q.toNat = some (v2, vn2, pf2, 0, bp2)) → (q = i + 1 → pf2 = vn1 ∧ bp2 = 1) → (q = i → bp2 ≠ 0 → i < tn → ¬ (50 ≤ tc i ∧ tc i ≤ 57)) → (SL f2 246 v2 vn2) → (∀ k, 0 ≤ k → k < 246 → f2 k = f k) → (RM g y sa ta oa f2 gt od hc hs tn H1) → (va_S (zA4 y sa ta oa) s.heap H1 locs) → ((tn - q).toNat) < z_f → ∀ (ls : Array Slot), lv_has ls 9 [(0, .ref y), (1, .int (zI 246)), (2, .int (zI q)), (3, .int (zI vn1)), (4, .int (zI 0)), (5, .int (zI (i + 0)))] → W p l e (zRm 2 43) s m args below meth c H1 locs 0 0 (MQ below (zQi (fun r H => ∃ z : Int, r = zI z ∧ z = zFl tc tn ∧ -1 ≤ z ∧ z ≤ 60 ∧ ∃ f gt od : Int → Int, RM g y sa ta oa f gt od hc hs tn H ∧ MF f w n ee en hc u un hs ∧ (∀ k, 0 ≤ k → k < tn → gt k = tc k) ∧ (z = -1 → SL f 246 (zLdS tc tn).1 (zLdS tc tn).2.1)) (zA4 y sa ta oa)) args s 0 0 (zA4 y sa ta oa)) (F0 m 74 ls []) := by
              intro z_f
              induction z_f with
              | zero => intro q f2 v2 vn2 pf2 bp2 H1 locs a0 a1 a3 a4 a2 alo hX hS z_m; exact absurd z_m (Nat.not_lt_zero _)
              | succ z_f ih74 =>
                intro q f2 v2 vn2 pf2 bp2 H1 locs a0 a1 a3 a4 a2 alo hX hS z_m74 ls hl
                have l2 := a2.1
                have nb2 := a2.2.1
                refine lv_aload_n hx hb dX10_reads_74 rfl (lv_at hl 0 rfl) ?_
                refine lv_iload_n hx hb dX10_reads_75 rfl (lv_at hl 2 rfl) ?_
                refine zc_V (As := [.int (zI q)]) (rest := []) S hK (kX10_isLetter l g y sa ta oa f2 gt od hc hs tn q (by omega)) (cwV 1 hts gX10_reads_X10_isLetter rfl rfl rfl (by decide +kernel) ⟨Nat.le_of_ble_eq_true rfl, Nat.le_of_ble_eq_true rfl⟩) (hX) (hX.recv hK) rfl hl.1 rfl (Nat.le_of_ble_eq_true rfl) dX10_reads_76 ⟨Nat.zero_le _, Nat.zero_le _⟩ (fun r76 hr76 => ?_)
                obtain rfl := hr76
                refine zv_ifB_eq (tgt := 142) hx hb dX10_reads_79 (by decide) (fun c79 => ?_) (fun c79 => ?_)
                · have hex : q < tn → 97 ≤ tc q ∧ tc q ≤ 122 → 40 ≤ vn2 := fun z v => absurd ⟨z, by rw [hgt q (by omega) z]; exact v⟩ c79
                  refine lv_iload_n hx hb dX10_reads_142 rfl (lv_at hl 2 rfl) ?_
                  refine lv_iload hx hb dX10_reads_143 (lv_at hl 5 rfl) ?_
                  refine zv_icmp_ne (tgt := 150) hx hb dX10_reads_145 (by decide) (by omega) (by omega) (fun c145 => ?_) (fun c145 => ?_)
                  · refine lv_iload hx hb dX10_reads_150 (lv_at hl 4 rfl) ?_
                    refine zv_if_eq (tgt := 176) hx hb dX10_reads_152 (by decide) (by omega) (fun c152 => ?_) (fun c152 => ?_)
                    · refine lv_iload_n hx hb dX10_reads_176 rfl (lv_at hl 2 rfl) ?_
                      refine lv_iload hx hb dX10_reads_177 (lv_at hl 4 rfl) ?_
                      refine zv_if_eq (tgt := 186) hx hb dX10_reads_179 (by decide) (by omega) (fun c179 => ?_) (fun c179 => ?_)
                      · refine zv_iconst hx hb dX10_reads_186 ?_
                        refine zv_iadd hx hb dX10_reads_187 ?_
                        refine lv_istore_n (lv' := [(2, .int (zI (q + 0))), (0, .ref y), (1, .int (zI 246)), (3, .int (zI vn1)), (4, .int (zI 0)), (5, .int (zI (i + 0)))]) hx hb dX10_reads_188 rfl hl (by decide) rfl (fun ls hl => ?_)
                        have eq1 : q = i + 1 := by omega
                        have s7 : zSt tc (q + 0).toNat = some (v2, vn2, vn1, 0, 1) := by rw [show q + 0 = q by omega, a1, (a3 eq1).1, (a3 eq1).2]
                        refine lv_aload_n hx hb dX10_reads_189 rfl (lv_at hl 1 rfl) ?_
                        refine va_get (D := g.1) (ci := 5) (v := .ref sa) (C := RX10) (T := TX10) (N := 6) hx hb hts mX10_reads_0 hown hK (hX.gy) 0 rfl rfl 0 (by decide) (hts _ mX10_reads_1) (fun _ h9 => h9) rfl dX10_reads_190 ?_
                        refine lv_iload_n hx hb dX10_reads_193 rfl (lv_at hl 2 rfl) ?_
                        refine zy_ild hx hb hK hX (by omega) dX10_reads_194 ?_
                        rw [l2]
                        refine lv_iload_n hx hb dX10_reads_195 rfl (lv_at hl 3 rfl) ?_
                        refine zv_isub hx hb dX10_reads_196 ?_
                        refine lv_istore (lv' := [(6, .int (zI (vn2 - vn1))), (2, .int (zI (q + 0))), (0, .ref y), (1, .int (zI 246)), (3, .int (zI vn1)), (4, .int (zI 0)), (5, .int (zI (i + 0)))]) hx hb dX10_reads_197 hl (by decide) rfl (fun ls hl => ?_)
                        refine lv_iload_n hx hb dX10_reads_199 rfl (lv_at hl 1 rfl) ?_
                        refine lv_aload_n hx hb dX10_reads_200 rfl (lv_at hl 2 rfl) ?_
                        refine va_get (D := g.1) (ci := 5) (v := .int (zI tn)) (C := RX10) (T := TX10) (N := 6) hx hb hts mX10_reads_0 hown hK (hX.gy) 0 rfl rfl 4 (by decide) (hts _ mX10_reads_2) (fun _ h9 => h9) rfl dX10_reads_201 ?_
                        refine zv_icmp_ge (tgt := 311) hx hb dX10_reads_204 (by decide) (by omega) (by omega) (fun c204 => ?_) (fun c204 => ?_)
                        · refine lv_goto (tgt := 13) hx hb dX10_reads_311 (by decide) ?_
                          exact ih13 (q + 0) f2 v2 vn2 vn1 1 _ _ (by omega) (s7) (a2) (fun _ z y => by first | omega | exact c220 (by rw [← hgt _ (by omega) z] at y; exact y)) (alo) (hX) (hS) (by omega) _ (lv_sub hl [2, 3, 1] rfl)
                        · refine lv_aload_n hx hb dX10_reads_207 rfl (lv_at hl 2 rfl) ?_
                          refine va_get (D := g.1) (ci := 5) (v := .ref ta) (C := RX10) (T := TX10) (N := 6) hx hb hts mX10_reads_0 hown hK (hX.gy) 0 rfl rfl 3 (by decide) (hts _ mX10_reads_3) (fun _ h9 => h9) rfl dX10_reads_208 ?_
                          refine lv_iload_n hx hb dX10_reads_211 rfl (lv_at hl 1 rfl) ?_
                          refine zy_tld hx hb hK hX (by omega) dX10_reads_212 ?_
                          have g8 := hX.gg (k := q + 0) (by omega)
                          refine zv_bipush hx hb dX10_reads_213 (by decide +kernel) ?_
                          refine zv_bipush hx hb dX10_reads_215 (by decide +kernel) ?_
                          refine zc_S (As := [.int (zI (gt (q + 0))), .int (zI 50), .int (zI 57)]) (rest := []) S hK (kX10_in l g (gt (q + 0)) 50 57 (by omega) (by omega) (by omega)) (va_cwS 3 hts gX10_reads_X10_in rfl rfl rfl (by decide +kernel) ⟨Nat.le_of_ble_eq_true rfl, Nat.le_of_ble_eq_true rfl⟩) (trivial) rfl hl.1 rfl (Nat.le_of_ble_eq_true rfl) dX10_reads_217 ⟨Nat.zero_le _, Nat.zero_le _⟩ (fun r217 hr217 => ?_)
                          obtain rfl := hr217
                          refine zv_ifB_eq (tgt := 311) hx hb dX10_reads_220 (by decide) (fun c220 => ?_) (fun c220 => ?_)
                          · refine lv_goto (tgt := 13) hx hb dX10_reads_311 (by decide) ?_
                            exact ih13 (q + 0) f2 v2 vn2 vn1 1 _ _ (by omega) (s7) (a2) (fun _ z y => by first | omega | exact c220 (by rw [← hgt _ (by omega) z] at y; exact y)) (alo) (hX) (hS) (by omega) _ (lv_sub hl [2, 3, 1] rfl)
                          · refine lv_aload_n hx hb dX10_reads_223 rfl (lv_at hl 2 rfl) ?_
                            refine va_get (D := g.1) (ci := 5) (v := .ref ta) (C := RX10) (T := TX10) (N := 6) hx hb hts mX10_reads_0 hown hK (hX.gy) 0 rfl rfl 3 (by decide) (hts _ mX10_reads_3) (fun _ h9 => h9) rfl dX10_reads_224 ?_
                            refine lv_iload_n hx hb dX10_reads_227 rfl (lv_at hl 1 rfl) ?_
                            refine zy_tld hx hb hK hX (by omega) dX10_reads_228 ?_
                            refine zv_bipush hx hb dX10_reads_229 (by decide +kernel) ?_
                            refine zv_isub hx hb dX10_reads_231 ?_
                            obtain ⟨x, ex⟩ : ∃ x, x = gt (q + 0) - 48 := ⟨_, rfl⟩
                            rw [← ex]
                            obtain ⟨mm, em⟩ : ∃ m, m = x * (vn2 - vn1) := ⟨_, rfl⟩
                            have hgq := hgt (q + 0) (by omega) (by omega)
                            have bm := zMulBd9 (a := x) (b := vn2 - vn1) (by omega) (by omega)
                            rw [← em] at bm
                            have bm2 := Int.mul_nonneg (show 0 ≤ x - 1 by omega) (show 0 ≤ vn2 - vn1 by omega)
                            rw [zSub1_mul, ← em] at bm2
                            refine lv_istore (lv' := [(7, .int (zI x)), (6, .int (zI (vn2 - vn1))), (2, .int (zI (q + 0))), (0, .ref y), (1, .int (zI 246)), (3, .int (zI vn1)), (4, .int (zI 0)), (5, .int (zI (i + 0)))]) hx hb dX10_reads_232 hl (by decide) rfl (fun ls hl => ?_)
                            refine lv_iload_n hx hb dX10_reads_234 rfl (lv_at hl 5 rfl) ?_
                            refine lv_iload hx hb dX10_reads_235 (lv_at hl 0 rfl) ?_
                            refine lv_iload hx hb dX10_reads_237 (lv_at hl 1 rfl) ?_
                            refine zv_imul hx hb dX10_reads_239 ?_
                            rw [← em]
                            refine zv_iadd hx hb dX10_reads_240 ?_
                            refine zv_bipush hx hb dX10_reads_241 (by decide +kernel) ?_
                            refine zv_icmp_le (tgt := 248) hx hb dX10_reads_243 (by decide) (by omega) (by omega) (fun c243 => ?_) (fun c243 => ?_)
                            · refine zv_iconst hx hb dX10_reads_248 ?_
                              refine lv_istore (lv' := [(8, .int (zI 0)), (7, .int (zI x)), (6, .int (zI (vn2 - vn1))), (2, .int (zI (q + 0))), (0, .ref y), (1, .int (zI 246)), (3, .int (zI vn1)), (4, .int (zI 0)), (5, .int (zI (i + 0)))]) hx hb dX10_reads_249 hl (by decide) rfl (fun ls hl => ?_)
                              have lp251 : ∀ (z_f : Nat) (j : Int) (f3 : Int → Int) (H1 : Heap) (locs : List Loc), (0 ≤ j ∧ j ≤ mm - (vn2 - vn1)) → (SL f3 246 (zRep v2 vn2 vn1) (vn2 + j)) → (∀ k, 0 ≤ k → k < 246 → f3 k = f k) → (RM g y sa ta oa f3 gt od hc hs tn H1) → (va_S (zA4 y sa ta oa) s.heap H1 locs) → ((mm - (vn2 - vn1) - j).toNat) < z_f → ∀ (ls : Array Slot), lv_has ls 9 [(0, .ref y), (1, .int (zI 246)), (2, .int (zI (q + 0))), (3, .int (zI vn1)), (4, .int (zI 0)), (5, .int (zI (i + 0))), (6, .int (zI (vn2 - vn1))), (7, .int (zI x)), (8, .int (zI j))] → W p l e (zRm 2 43) s m args below meth c H1 locs 0 0 (MQ below (zQi (fun r H => ∃ z : Int, r = zI z ∧ z = zFl tc tn ∧ -1 ≤ z ∧ z ≤ 60 ∧ ∃ f gt od : Int → Int, RM g y sa ta oa f gt od hc hs tn H ∧ MF f w n ee en hc u un hs ∧ (∀ k, 0 ≤ k → k < tn → gt k = tc k) ∧ (z = -1 → SL f 246 (zLdS tc tn).1 (zLdS tc tn).2.1)) (zA4 y sa ta oa)) args s 0 0 (zA4 y sa ta oa)) (F0 m 251 ls []) := by
                                intro z_f
                                induction z_f with
                                | zero => intro j f3 H1 locs b0 b1 blo hX hS z_m; exact absurd z_m (Nat.not_lt_zero _)
                                | succ z_f ih251 =>
                                  intro j f3 H1 locs b0 b1 blo hX hS z_m251 ls hl
                                  have l3 := b1.1
                                  have nb3 := b1.2.1
                                  refine lv_iload hx hb dX10_reads_251 (lv_at hl 8 rfl) ?_
                                  refine lv_iload hx hb dX10_reads_253 (lv_at hl 7 rfl) ?_
                                  refine zv_iconst hx hb dX10_reads_255 ?_
                                  refine zv_isub hx hb dX10_reads_256 ?_
                                  refine lv_iload hx hb dX10_reads_257 (lv_at hl 6 rfl) ?_
                                  refine zv_imul hx hb dX10_reads_259 ?_
                                  rw [show (x - 1) * (vn2 - vn1) = mm - (vn2 - vn1) by rw [zSub1_mul, ← em]]
                                  refine zv_icmp_ge (tgt := 308) hx hb dX10_reads_260 (by decide) (by omega) (by omega) (fun c260 => ?_) (fun c260 => ?_)
                                  · refine zv_iinc (lv' := [(2, .int (zI (q + 0 + 1))), (0, .ref y), (1, .int (zI 246)), (3, .int (zI vn1)), (4, .int (zI 0)), (5, .int (zI (i + 0))), (6, .int (zI (vn2 - vn1))), (7, .int (zI x)), (8, .int (zI j))]) hx hb dX10_reads_308 hl (k := 2) rfl (by decide) rfl (fun ls hl => ?_)
                                    refine lv_goto (tgt := 13) hx hb dX10_reads_311 (by decide) ?_
                                    exact ih13 (q + 0 + 1) f3 (zRep v2 vn2 vn1) (vn2 + j) vn1 0 _ _ (by omega) (by
                                      have ej : vn2 + j = vn2 + (tc (q + 0) - 48 - 1) * (vn2 - vn1) := by rw [← hgq, show gt (q + 0) - 48 = x from ex.symm, zSub1_mul, ← em]; omega
                                      rw [zSt_next (by omega) s7, ej]
                                      exact zTk_dig (by omega) rfl (by omega)) (b1) (fun z => absurd rfl z) (blo) (hX) (hS) (by omega) _ (lv_sub hl [1, 2, 0] rfl)
                                  · refine lv_aload_n hx hb dX10_reads_263 rfl (lv_at hl 0 rfl) ?_
                                    refine va_get (D := g.1) (ci := 5) (v := .ref sa) (C := RX10) (T := TX10) (N := 6) hx hb hts mX10_reads_0 hown hK (hX.gy) 0 rfl rfl 0 (by decide) (hts _ mX10_reads_1) (fun _ h9 => h9) rfl dX10_reads_264 ?_
                                    refine lv_iload_n hx hb dX10_reads_267 rfl (lv_at hl 1 rfl) ?_
                                    refine lv_dup2_11 hx hb dX10_reads_268 rfl rfl ?_
                                    refine zy_ild hx hb hK hX (by omega) dX10_reads_269 ?_
                                    refine zv_iconst hx hb dX10_reads_270 ?_
                                    refine zv_iadd hx hb dX10_reads_271 ?_
                                    refine zy_ist hx hb hK hX hS (by omega) (by omega) dX10_reads_272 (fun H1 locs hX hS => ?_)
                                    obtain ⟨f272, e272⟩ : ∃ z9, z9 = zApp f3 246 ((f3 246) + 1) := ⟨_, rfl⟩
                                    rw [← e272] at hX
                                    have r272 : f272 246 = (f3 246) + 1 := by rw [e272]; exact zApp_eq _ _ _
                                    have q272 : ∀ x9, x9 ≠ 246 → f272 x9 = f3 x9 := fun x9 h => by rw [e272]; exact zApp_ne h
                                    have l272 : f272 246 = vn2 + j + 1 := by omega
                                    refine lv_aload_n hx hb dX10_reads_273 rfl (lv_at hl 0 rfl) ?_
                                    refine va_get (D := g.1) (ci := 5) (v := .ref sa) (C := RX10) (T := TX10) (N := 6) hx hb hts mX10_reads_0 hown hK (hX.gy) 0 rfl rfl 0 (by decide) (hts _ mX10_reads_1) (fun _ h9 => h9) rfl dX10_reads_274 ?_
                                    refine lv_iload_n hx hb dX10_reads_277 rfl (lv_at hl 1 rfl) ?_
                                    refine lv_aload_n hx hb dX10_reads_278 rfl (lv_at hl 0 rfl) ?_
                                    refine va_get (D := g.1) (ci := 5) (v := .ref sa) (C := RX10) (T := TX10) (N := 6) hx hb hts mX10_reads_0 hown hK (hX.gy) 0 rfl rfl 0 (by decide) (hts _ mX10_reads_1) (fun _ h9 => h9) rfl dX10_reads_279 ?_
                                    refine lv_iload_n hx hb dX10_reads_282 rfl (lv_at hl 1 rfl) ?_
                                    refine zy_ild hx hb hK hX (by omega) dX10_reads_283 ?_
                                    refine zv_iadd hx hb dX10_reads_284 ?_
                                    refine lv_aload_n hx hb dX10_reads_285 rfl (lv_at hl 0 rfl) ?_
                                    refine va_get (D := g.1) (ci := 5) (v := .ref sa) (C := RX10) (T := TX10) (N := 6) hx hb hts mX10_reads_0 hown hK (hX.gy) 0 rfl rfl 0 (by decide) (hts _ mX10_reads_1) (fun _ h9 => h9) rfl dX10_reads_286 ?_
                                    refine lv_iload_n hx hb dX10_reads_289 rfl (lv_at hl 1 rfl) ?_
                                    refine lv_aload_n hx hb dX10_reads_290 rfl (lv_at hl 0 rfl) ?_
                                    refine va_get (D := g.1) (ci := 5) (v := .ref sa) (C := RX10) (T := TX10) (N := 6) hx hb hts mX10_reads_0 hown hK (hX.gy) 0 rfl rfl 0 (by decide) (hts _ mX10_reads_1) (fun _ h9 => h9) rfl dX10_reads_291 ?_
                                    refine lv_iload_n hx hb dX10_reads_294 rfl (lv_at hl 1 rfl) ?_
                                    refine zy_ild hx hb hK hX (by omega) dX10_reads_295 ?_
                                    refine zv_iadd hx hb dX10_reads_296 ?_
                                    refine lv_iload hx hb dX10_reads_297 (lv_at hl 6 rfl) ?_
                                    refine zv_isub hx hb dX10_reads_299 ?_
                                    refine zy_ild hx hb hK hX (by omega) dX10_reads_300 ?_
                                    refine zy_ist hx hb hK hX hS (by omega) (hX.gf (by omega)) dX10_reads_301 (fun H1 locs hX hS => ?_)
                                    obtain ⟨f301, e301⟩ : ∃ z9, z9 = zApp f272 (246 + (f272 246)) (f272 ((246 + (f272 246)) - (vn2 - vn1))) := ⟨_, rfl⟩
                                    rw [← e301] at hX
                                    have r301 : f301 (246 + (f272 246)) = f272 ((246 + (f272 246)) - (vn2 - vn1)) := by rw [e301]; exact zApp_eq _ _ _
                                    have q301 : ∀ x9, x9 ≠ 246 + (f272 246) → f301 x9 = f272 x9 := fun x9 h => by rw [e301]; exact zApp_ne h
                                    refine zv_iinc (lv' := [(8, .int (zI (j + 1))), (0, .ref y), (1, .int (zI 246)), (2, .int (zI (q + 0))), (3, .int (zI vn1)), (4, .int (zI 0)), (5, .int (zI (i + 0))), (6, .int (zI (vn2 - vn1))), (7, .int (zI x))]) hx hb dX10_reads_302 hl (k := 8) rfl (by decide) rfl (fun ls hl => ?_)
                                    refine lv_goto (tgt := 251) hx hb dX10_reads_305 (by decide) ?_
                                    exact ih251 (j + 1) f301 _ _ (by omega) (((b1.app (x := zRep v2 vn2 vn1 (vn2 + j)) (f2 := f301) (by omega) (zRep_bd ⟨by omega, by omega⟩ (fun k a b => (a2.2.2 k a b).2) _ (by omega)) (by rw [q301 246 (by omega), r272, l3]) (by rw [show (246 : Int) + 1 + (vn2 + j) = 246 + f272 246 by omega, r301, q272 _ (by omega), show 246 + f272 246 - (vn2 - vn1) = 246 + 1 + (vn2 + j - (vn2 - vn1)) by omega, (b1.2.2 (vn2 + j - (vn2 - vn1)) (by omega) (by omega)).1]; exact zRep_per ⟨by omega, by omega⟩ (by omega)) (fun k a b => by rw [q301 k (by omega), q272 k (by omega)])).word (n2 := vn2 + (j + 1)) (by omega) (fun k a b => zApp_self))) (fun k a b => by rw [q301 k (by omega), q272 k (by omega)]; exact blo k a b) (hX) (hS) (by omega) _ (lv_sub hl [1, 2, 3, 4, 5, 6, 7, 8, 0] rfl)
                              exact lp251 _ 0 f2 _ _ (by omega) (a2.word (by omega) (fun k a b => zRep_lo (by omega))) (alo) (hX) (hS) (Nat.lt_succ_self _) _ (lv_sub hl [4, 5, 3, 6, 7, 8, 2, 1, 0] rfl)
                            · refine lv_iload_n hx hb dX10_reads_246 rfl (lv_at hl 2 rfl) ?_
                              exact zw_i hx hb hr hlocks hS dX10_reads_247 (⟨_, rfl, (zFl_here s7 (by omega) (fun z => ⟨fun v => by omega, fun v => Or.inr (by rw [← hgq, show gt (q + 0) - 48 = x from ex.symm, zSub1_mul, ← em]; omega), fun v => by omega, fun v => by omega⟩) (fun v => by omega)).symm, by omega, by omega, _, _, _, hX, hm.scr hR.1 alo, hgt, fun z => absurd z (by omega)⟩)
                      · exfalso; omega
                    · exfalso; omega
                  · refine lv_iload_n hx hb dX10_reads_148 rfl (lv_at hl 2 rfl) ?_
                    exact zw_i hx hb hr hlocks hS dX10_reads_149 (⟨_, rfl, (zFl_here a1 (by omega) (fun z => ⟨hex z, fun v => Or.inl (Classical.byContradiction fun v2 => a4 (by omega) v2 (by omega) (by rw [← show q = i by omega]; exact v)), fun v => absurd v (by rw [show q = i by omega]; exact n40 (by omega)), fun _ => Or.inl rfl⟩) (fun z => Or.inr (by have := h0.2.2.2 (by omega); omega))).symm, by omega, by omega, _, _, _, hX, hm.scr hR.1 alo, hgt, fun z => absurd z (by omega)⟩)
                · refine lv_aload_n hx hb dX10_reads_82 rfl (lv_at hl 0 rfl) ?_
                  refine va_get (D := g.1) (ci := 5) (v := .ref sa) (C := RX10) (T := TX10) (N := 6) hx hb hts mX10_reads_0 hown hK (hX.gy) 0 rfl rfl 0 (by decide) (hts _ mX10_reads_1) (fun _ h9 => h9) rfl dX10_reads_83 ?_
                  refine lv_iload_n hx hb dX10_reads_86 rfl (lv_at hl 1 rfl) ?_
                  refine zy_ild hx hb hK hX (by omega) dX10_reads_87 ?_
                  refine zv_bipush hx hb dX10_reads_88 (by decide +kernel) ?_
                  refine zv_icmp_ge (tgt := 142) hx hb dX10_reads_90 (by decide) (by omega) (by omega) (fun c90 => ?_) (fun c90 => ?_)
                  · have hex : q < tn → 97 ≤ tc q ∧ tc q ≤ 122 → 40 ≤ vn2 := fun _ _ => by omega
                    refine lv_iload_n hx hb dX10_reads_142 rfl (lv_at hl 2 rfl) ?_
                    refine lv_iload hx hb dX10_reads_143 (lv_at hl 5 rfl) ?_
                    refine zv_icmp_ne (tgt := 150) hx hb dX10_reads_145 (by decide) (by omega) (by omega) (fun c145 => ?_) (fun c145 => ?_)
                    · refine lv_iload hx hb dX10_reads_150 (lv_at hl 4 rfl) ?_
                      refine zv_if_eq (tgt := 176) hx hb dX10_reads_152 (by decide) (by omega) (fun c152 => ?_) (fun c152 => ?_)
                      · refine lv_iload_n hx hb dX10_reads_176 rfl (lv_at hl 2 rfl) ?_
                        refine lv_iload hx hb dX10_reads_177 (lv_at hl 4 rfl) ?_
                        refine zv_if_eq (tgt := 186) hx hb dX10_reads_179 (by decide) (by omega) (fun c179 => ?_) (fun c179 => ?_)
                        · refine zv_iconst hx hb dX10_reads_186 ?_
                          refine zv_iadd hx hb dX10_reads_187 ?_
                          refine lv_istore_n (lv' := [(2, .int (zI (q + 0))), (0, .ref y), (1, .int (zI 246)), (3, .int (zI vn1)), (4, .int (zI 0)), (5, .int (zI (i + 0)))]) hx hb dX10_reads_188 rfl hl (by decide) rfl (fun ls hl => ?_)
                          have eq1 : q = i + 1 := by omega
                          have s7 : zSt tc (q + 0).toNat = some (v2, vn2, vn1, 0, 1) := by rw [show q + 0 = q by omega, a1, (a3 eq1).1, (a3 eq1).2]
                          refine lv_aload_n hx hb dX10_reads_189 rfl (lv_at hl 1 rfl) ?_
                          refine va_get (D := g.1) (ci := 5) (v := .ref sa) (C := RX10) (T := TX10) (N := 6) hx hb hts mX10_reads_0 hown hK (hX.gy) 0 rfl rfl 0 (by decide) (hts _ mX10_reads_1) (fun _ h9 => h9) rfl dX10_reads_190 ?_
                          refine lv_iload_n hx hb dX10_reads_193 rfl (lv_at hl 2 rfl) ?_
                          refine zy_ild hx hb hK hX (by omega) dX10_reads_194 ?_
                          rw [l2]
                          refine lv_iload_n hx hb dX10_reads_195 rfl (lv_at hl 3 rfl) ?_
                          refine zv_isub hx hb dX10_reads_196 ?_
                          refine lv_istore (lv' := [(6, .int (zI (vn2 - vn1))), (2, .int (zI (q + 0))), (0, .ref y), (1, .int (zI 246)), (3, .int (zI vn1)), (4, .int (zI 0)), (5, .int (zI (i + 0)))]) hx hb dX10_reads_197 hl (by decide) rfl (fun ls hl => ?_)
                          refine lv_iload_n hx hb dX10_reads_199 rfl (lv_at hl 1 rfl) ?_
                          refine lv_aload_n hx hb dX10_reads_200 rfl (lv_at hl 2 rfl) ?_
                          refine va_get (D := g.1) (ci := 5) (v := .int (zI tn)) (C := RX10) (T := TX10) (N := 6) hx hb hts mX10_reads_0 hown hK (hX.gy) 0 rfl rfl 4 (by decide) (hts _ mX10_reads_2) (fun _ h9 => h9) rfl dX10_reads_201 ?_
                          refine zv_icmp_ge (tgt := 311) hx hb dX10_reads_204 (by decide) (by omega) (by omega) (fun c204 => ?_) (fun c204 => ?_)
                          · refine lv_goto (tgt := 13) hx hb dX10_reads_311 (by decide) ?_
                            exact ih13 (q + 0) f2 v2 vn2 vn1 1 _ _ (by omega) (s7) (a2) (fun _ z y => by first | omega | exact c220 (by rw [← hgt _ (by omega) z] at y; exact y)) (alo) (hX) (hS) (by omega) _ (lv_sub hl [2, 3, 1] rfl)
                          · refine lv_aload_n hx hb dX10_reads_207 rfl (lv_at hl 2 rfl) ?_
                            refine va_get (D := g.1) (ci := 5) (v := .ref ta) (C := RX10) (T := TX10) (N := 6) hx hb hts mX10_reads_0 hown hK (hX.gy) 0 rfl rfl 3 (by decide) (hts _ mX10_reads_3) (fun _ h9 => h9) rfl dX10_reads_208 ?_
                            refine lv_iload_n hx hb dX10_reads_211 rfl (lv_at hl 1 rfl) ?_
                            refine zy_tld hx hb hK hX (by omega) dX10_reads_212 ?_
                            have g8 := hX.gg (k := q + 0) (by omega)
                            refine zv_bipush hx hb dX10_reads_213 (by decide +kernel) ?_
                            refine zv_bipush hx hb dX10_reads_215 (by decide +kernel) ?_
                            refine zc_S (As := [.int (zI (gt (q + 0))), .int (zI 50), .int (zI 57)]) (rest := []) S hK (kX10_in l g (gt (q + 0)) 50 57 (by omega) (by omega) (by omega)) (va_cwS 3 hts gX10_reads_X10_in rfl rfl rfl (by decide +kernel) ⟨Nat.le_of_ble_eq_true rfl, Nat.le_of_ble_eq_true rfl⟩) (trivial) rfl hl.1 rfl (Nat.le_of_ble_eq_true rfl) dX10_reads_217 ⟨Nat.zero_le _, Nat.zero_le _⟩ (fun r217 hr217 => ?_)
                            obtain rfl := hr217
                            refine zv_ifB_eq (tgt := 311) hx hb dX10_reads_220 (by decide) (fun c220 => ?_) (fun c220 => ?_)
                            · refine lv_goto (tgt := 13) hx hb dX10_reads_311 (by decide) ?_
                              exact ih13 (q + 0) f2 v2 vn2 vn1 1 _ _ (by omega) (s7) (a2) (fun _ z y => by first | omega | exact c220 (by rw [← hgt _ (by omega) z] at y; exact y)) (alo) (hX) (hS) (by omega) _ (lv_sub hl [2, 3, 1] rfl)
                            · refine lv_aload_n hx hb dX10_reads_223 rfl (lv_at hl 2 rfl) ?_
                              refine va_get (D := g.1) (ci := 5) (v := .ref ta) (C := RX10) (T := TX10) (N := 6) hx hb hts mX10_reads_0 hown hK (hX.gy) 0 rfl rfl 3 (by decide) (hts _ mX10_reads_3) (fun _ h9 => h9) rfl dX10_reads_224 ?_
                              refine lv_iload_n hx hb dX10_reads_227 rfl (lv_at hl 1 rfl) ?_
                              refine zy_tld hx hb hK hX (by omega) dX10_reads_228 ?_
                              refine zv_bipush hx hb dX10_reads_229 (by decide +kernel) ?_
                              refine zv_isub hx hb dX10_reads_231 ?_
                              obtain ⟨x, ex⟩ : ∃ x, x = gt (q + 0) - 48 := ⟨_, rfl⟩
                              rw [← ex]
                              obtain ⟨mm, em⟩ : ∃ m, m = x * (vn2 - vn1) := ⟨_, rfl⟩
                              have hgq := hgt (q + 0) (by omega) (by omega)
                              have bm := zMulBd9 (a := x) (b := vn2 - vn1) (by omega) (by omega)
                              rw [← em] at bm
                              have bm2 := Int.mul_nonneg (show 0 ≤ x - 1 by omega) (show 0 ≤ vn2 - vn1 by omega)
                              rw [zSub1_mul, ← em] at bm2
                              refine lv_istore (lv' := [(7, .int (zI x)), (6, .int (zI (vn2 - vn1))), (2, .int (zI (q + 0))), (0, .ref y), (1, .int (zI 246)), (3, .int (zI vn1)), (4, .int (zI 0)), (5, .int (zI (i + 0)))]) hx hb dX10_reads_232 hl (by decide) rfl (fun ls hl => ?_)
                              refine lv_iload_n hx hb dX10_reads_234 rfl (lv_at hl 5 rfl) ?_
                              refine lv_iload hx hb dX10_reads_235 (lv_at hl 0 rfl) ?_
                              refine lv_iload hx hb dX10_reads_237 (lv_at hl 1 rfl) ?_
                              refine zv_imul hx hb dX10_reads_239 ?_
                              rw [← em]
                              refine zv_iadd hx hb dX10_reads_240 ?_
                              refine zv_bipush hx hb dX10_reads_241 (by decide +kernel) ?_
                              refine zv_icmp_le (tgt := 248) hx hb dX10_reads_243 (by decide) (by omega) (by omega) (fun c243 => ?_) (fun c243 => ?_)
                              · refine zv_iconst hx hb dX10_reads_248 ?_
                                refine lv_istore (lv' := [(8, .int (zI 0)), (7, .int (zI x)), (6, .int (zI (vn2 - vn1))), (2, .int (zI (q + 0))), (0, .ref y), (1, .int (zI 246)), (3, .int (zI vn1)), (4, .int (zI 0)), (5, .int (zI (i + 0)))]) hx hb dX10_reads_249 hl (by decide) rfl (fun ls hl => ?_)
                                have lp251 : ∀ (z_f : Nat) (j : Int) (f3 : Int → Int) (H1 : Heap) (locs : List Loc), (0 ≤ j ∧ j ≤ mm - (vn2 - vn1)) → (SL f3 246 (zRep v2 vn2 vn1) (vn2 + j)) → (∀ k, 0 ≤ k → k < 246 → f3 k = f k) → (RM g y sa ta oa f3 gt od hc hs tn H1) → (va_S (zA4 y sa ta oa) s.heap H1 locs) → ((mm - (vn2 - vn1) - j).toNat) < z_f → ∀ (ls : Array Slot), lv_has ls 9 [(0, .ref y), (1, .int (zI 246)), (2, .int (zI (q + 0))), (3, .int (zI vn1)), (4, .int (zI 0)), (5, .int (zI (i + 0))), (6, .int (zI (vn2 - vn1))), (7, .int (zI x)), (8, .int (zI j))] → W p l e (zRm 2 43) s m args below meth c H1 locs 0 0 (MQ below (zQi (fun r H => ∃ z : Int, r = zI z ∧ z = zFl tc tn ∧ -1 ≤ z ∧ z ≤ 60 ∧ ∃ f gt od : Int → Int, RM g y sa ta oa f gt od hc hs tn H ∧ MF f w n ee en hc u un hs ∧ (∀ k, 0 ≤ k → k < tn → gt k = tc k) ∧ (z = -1 → SL f 246 (zLdS tc tn).1 (zLdS tc tn).2.1)) (zA4 y sa ta oa)) args s 0 0 (zA4 y sa ta oa)) (F0 m 251 ls []) := by
                                  intro z_f
                                  induction z_f with
                                  | zero => intro j f3 H1 locs b0 b1 blo hX hS z_m; exact absurd z_m (Nat.not_lt_zero _)
                                  | succ z_f ih251 =>
                                    intro j f3 H1 locs b0 b1 blo hX hS z_m251 ls hl
                                    have l3 := b1.1
                                    have nb3 := b1.2.1
                                    refine lv_iload hx hb dX10_reads_251 (lv_at hl 8 rfl) ?_
                                    refine lv_iload hx hb dX10_reads_253 (lv_at hl 7 rfl) ?_
                                    refine zv_iconst hx hb dX10_reads_255 ?_
                                    refine zv_isub hx hb dX10_reads_256 ?_
                                    refine lv_iload hx hb dX10_reads_257 (lv_at hl 6 rfl) ?_
                                    refine zv_imul hx hb dX10_reads_259 ?_
                                    rw [show (x - 1) * (vn2 - vn1) = mm - (vn2 - vn1) by rw [zSub1_mul, ← em]]
                                    refine zv_icmp_ge (tgt := 308) hx hb dX10_reads_260 (by decide) (by omega) (by omega) (fun c260 => ?_) (fun c260 => ?_)
                                    · refine zv_iinc (lv' := [(2, .int (zI (q + 0 + 1))), (0, .ref y), (1, .int (zI 246)), (3, .int (zI vn1)), (4, .int (zI 0)), (5, .int (zI (i + 0))), (6, .int (zI (vn2 - vn1))), (7, .int (zI x)), (8, .int (zI j))]) hx hb dX10_reads_308 hl (k := 2) rfl (by decide) rfl (fun ls hl => ?_)
                                      refine lv_goto (tgt := 13) hx hb dX10_reads_311 (by decide) ?_
                                      exact ih13 (q + 0 + 1) f3 (zRep v2 vn2 vn1) (vn2 + j) vn1 0 _ _ (by omega) (by
                                        have ej : vn2 + j = vn2 + (tc (q + 0) - 48 - 1) * (vn2 - vn1) := by rw [← hgq, show gt (q + 0) - 48 = x from ex.symm, zSub1_mul, ← em]; omega
                                        rw [zSt_next (by omega) s7, ej]
                                        exact zTk_dig (by omega) rfl (by omega)) (b1) (fun z => absurd rfl z) (blo) (hX) (hS) (by omega) _ (lv_sub hl [1, 2, 0] rfl)
                                    · refine lv_aload_n hx hb dX10_reads_263 rfl (lv_at hl 0 rfl) ?_
                                      refine va_get (D := g.1) (ci := 5) (v := .ref sa) (C := RX10) (T := TX10) (N := 6) hx hb hts mX10_reads_0 hown hK (hX.gy) 0 rfl rfl 0 (by decide) (hts _ mX10_reads_1) (fun _ h9 => h9) rfl dX10_reads_264 ?_
                                      refine lv_iload_n hx hb dX10_reads_267 rfl (lv_at hl 1 rfl) ?_
                                      refine lv_dup2_11 hx hb dX10_reads_268 rfl rfl ?_
                                      refine zy_ild hx hb hK hX (by omega) dX10_reads_269 ?_
                                      refine zv_iconst hx hb dX10_reads_270 ?_
                                      refine zv_iadd hx hb dX10_reads_271 ?_
                                      refine zy_ist hx hb hK hX hS (by omega) (by omega) dX10_reads_272 (fun H1 locs hX hS => ?_)
                                      obtain ⟨f272, e272⟩ : ∃ z9, z9 = zApp f3 246 ((f3 246) + 1) := ⟨_, rfl⟩
                                      rw [← e272] at hX
                                      have r272 : f272 246 = (f3 246) + 1 := by rw [e272]; exact zApp_eq _ _ _
                                      have q272 : ∀ x9, x9 ≠ 246 → f272 x9 = f3 x9 := fun x9 h => by rw [e272]; exact zApp_ne h
                                      have l272 : f272 246 = vn2 + j + 1 := by omega
                                      refine lv_aload_n hx hb dX10_reads_273 rfl (lv_at hl 0 rfl) ?_
                                      refine va_get (D := g.1) (ci := 5) (v := .ref sa) (C := RX10) (T := TX10) (N := 6) hx hb hts mX10_reads_0 hown hK (hX.gy) 0 rfl rfl 0 (by decide) (hts _ mX10_reads_1) (fun _ h9 => h9) rfl dX10_reads_274 ?_
                                      refine lv_iload_n hx hb dX10_reads_277 rfl (lv_at hl 1 rfl) ?_
                                      refine lv_aload_n hx hb dX10_reads_278 rfl (lv_at hl 0 rfl) ?_
                                      refine va_get (D := g.1) (ci := 5) (v := .ref sa) (C := RX10) (T := TX10) (N := 6) hx hb hts mX10_reads_0 hown hK (hX.gy) 0 rfl rfl 0 (by decide) (hts _ mX10_reads_1) (fun _ h9 => h9) rfl dX10_reads_279 ?_
                                      refine lv_iload_n hx hb dX10_reads_282 rfl (lv_at hl 1 rfl) ?_
                                      refine zy_ild hx hb hK hX (by omega) dX10_reads_283 ?_
                                      refine zv_iadd hx hb dX10_reads_284 ?_
                                      refine lv_aload_n hx hb dX10_reads_285 rfl (lv_at hl 0 rfl) ?_
                                      refine va_get (D := g.1) (ci := 5) (v := .ref sa) (C := RX10) (T := TX10) (N := 6) hx hb hts mX10_reads_0 hown hK (hX.gy) 0 rfl rfl 0 (by decide) (hts _ mX10_reads_1) (fun _ h9 => h9) rfl dX10_reads_286 ?_
                                      refine lv_iload_n hx hb dX10_reads_289 rfl (lv_at hl 1 rfl) ?_
                                      refine lv_aload_n hx hb dX10_reads_290 rfl (lv_at hl 0 rfl) ?_
                                      refine va_get (D := g.1) (ci := 5) (v := .ref sa) (C := RX10) (T := TX10) (N := 6) hx hb hts mX10_reads_0 hown hK (hX.gy) 0 rfl rfl 0 (by decide) (hts _ mX10_reads_1) (fun _ h9 => h9) rfl dX10_reads_291 ?_
                                      refine lv_iload_n hx hb dX10_reads_294 rfl (lv_at hl 1 rfl) ?_
                                      refine zy_ild hx hb hK hX (by omega) dX10_reads_295 ?_
                                      refine zv_iadd hx hb dX10_reads_296 ?_
                                      refine lv_iload hx hb dX10_reads_297 (lv_at hl 6 rfl) ?_
                                      refine zv_isub hx hb dX10_reads_299 ?_
                                      refine zy_ild hx hb hK hX (by omega) dX10_reads_300 ?_
                                      refine zy_ist hx hb hK hX hS (by omega) (hX.gf (by omega)) dX10_reads_301 (fun H1 locs hX hS => ?_)
                                      obtain ⟨f301, e301⟩ : ∃ z9, z9 = zApp f272 (246 + (f272 246)) (f272 ((246 + (f272 246)) - (vn2 - vn1))) := ⟨_, rfl⟩
                                      rw [← e301] at hX
                                      have r301 : f301 (246 + (f272 246)) = f272 ((246 + (f272 246)) - (vn2 - vn1)) := by rw [e301]; exact zApp_eq _ _ _
                                      have q301 : ∀ x9, x9 ≠ 246 + (f272 246) → f301 x9 = f272 x9 := fun x9 h => by rw [e301]; exact zApp_ne h
                                      refine zv_iinc (lv' := [(8, .int (zI (j + 1))), (0, .ref y), (1, .int (zI 246)), (2, .int (zI (q + 0))), (3, .int (zI vn1)), (4, .int (zI 0)), (5, .int (zI (i + 0))), (6, .int (zI (vn2 - vn1))), (7, .int (zI x))]) hx hb dX10_reads_302 hl (k := 8) rfl (by decide) rfl (fun ls hl => ?_)
                                      refine lv_goto (tgt := 251) hx hb dX10_reads_305 (by decide) ?_
                                      exact ih251 (j + 1) f301 _ _ (by omega) (((b1.app (x := zRep v2 vn2 vn1 (vn2 + j)) (f2 := f301) (by omega) (zRep_bd ⟨by omega, by omega⟩ (fun k a b => (a2.2.2 k a b).2) _ (by omega)) (by rw [q301 246 (by omega), r272, l3]) (by rw [show (246 : Int) + 1 + (vn2 + j) = 246 + f272 246 by omega, r301, q272 _ (by omega), show 246 + f272 246 - (vn2 - vn1) = 246 + 1 + (vn2 + j - (vn2 - vn1)) by omega, (b1.2.2 (vn2 + j - (vn2 - vn1)) (by omega) (by omega)).1]; exact zRep_per ⟨by omega, by omega⟩ (by omega)) (fun k a b => by rw [q301 k (by omega), q272 k (by omega)])).word (n2 := vn2 + (j + 1)) (by omega) (fun k a b => zApp_self))) (fun k a b => by rw [q301 k (by omega), q272 k (by omega)]; exact blo k a b) (hX) (hS) (by omega) _ (lv_sub hl [1, 2, 3, 4, 5, 6, 7, 8, 0] rfl)
                                exact lp251 _ 0 f2 _ _ (by omega) (a2.word (by omega) (fun k a b => zRep_lo (by omega))) (alo) (hX) (hS) (Nat.lt_succ_self _) _ (lv_sub hl [4, 5, 3, 6, 7, 8, 2, 1, 0] rfl)
                              · refine lv_iload_n hx hb dX10_reads_246 rfl (lv_at hl 2 rfl) ?_
                                exact zw_i hx hb hr hlocks hS dX10_reads_247 (⟨_, rfl, (zFl_here s7 (by omega) (fun z => ⟨fun v => by omega, fun v => Or.inr (by rw [← hgq, show gt (q + 0) - 48 = x from ex.symm, zSub1_mul, ← em]; omega), fun v => by omega, fun v => by omega⟩) (fun v => by omega)).symm, by omega, by omega, _, _, _, hX, hm.scr hR.1 alo, hgt, fun z => absurd z (by omega)⟩)
                        · exfalso; omega
                      · exfalso; omega
                    · refine lv_iload_n hx hb dX10_reads_148 rfl (lv_at hl 2 rfl) ?_
                      exact zw_i hx hb hr hlocks hS dX10_reads_149 (⟨_, rfl, (zFl_here a1 (by omega) (fun z => ⟨hex z, fun v => Or.inl (Classical.byContradiction fun v2 => a4 (by omega) v2 (by omega) (by rw [← show q = i by omega]; exact v)), fun v => absurd v (by rw [show q = i by omega]; exact n40 (by omega)), fun _ => Or.inl rfl⟩) (fun z => Or.inr (by have := h0.2.2.2 (by omega); omega))).symm, by omega, by omega, _, _, _, hX, hm.scr hR.1 alo, hgt, fun z => absurd z (by omega)⟩)
                  · refine lv_iload hx hb dX10_reads_93 (lv_at hl 4 rfl) ?_
                    refine zv_if_ne (tgt := 104) hx hb dX10_reads_95 (by decide) (by omega) (fun c95 => ?_) (fun c95 => ?_)
                    · exfalso; omega
                    · have hgq := hgt q (by omega) (by omega)
                      refine lv_iload_n hx hb dX10_reads_98 rfl (lv_at hl 2 rfl) ?_
                      refine lv_iload hx hb dX10_reads_99 (lv_at hl 5 rfl) ?_
                      refine zv_icmp_ne (tgt := 142) hx hb dX10_reads_101 (by decide) (by omega) (by omega) (fun c101 => ?_) (fun c101 => ?_)
                      · refine lv_iload_n hx hb dX10_reads_142 rfl (lv_at hl 2 rfl) ?_
                        refine lv_iload hx hb dX10_reads_143 (lv_at hl 5 rfl) ?_
                        refine zv_icmp_ne (tgt := 150) hx hb dX10_reads_145 (by decide) (by omega) (by omega) (fun c145 => ?_) (fun c145 => ?_)
                        · refine lv_iload hx hb dX10_reads_150 (lv_at hl 4 rfl) ?_
                          refine zv_if_eq (tgt := 176) hx hb dX10_reads_152 (by decide) (by omega) (fun c152 => ?_) (fun c152 => ?_)
                          · refine lv_iload_n hx hb dX10_reads_176 rfl (lv_at hl 2 rfl) ?_
                            refine lv_iload hx hb dX10_reads_177 (lv_at hl 4 rfl) ?_
                            refine zv_if_eq (tgt := 186) hx hb dX10_reads_179 (by decide) (by omega) (fun c179 => ?_) (fun c179 => ?_)
                            · refine zv_iconst hx hb dX10_reads_186 ?_
                              refine zv_iadd hx hb dX10_reads_187 ?_
                              refine lv_istore_n (lv' := [(2, .int (zI (q + 0))), (0, .ref y), (1, .int (zI 246)), (3, .int (zI vn1)), (4, .int (zI 0)), (5, .int (zI (i + 0)))]) hx hb dX10_reads_188 rfl hl (by decide) rfl (fun ls hl => ?_)
                              have eq1 : q = i + 1 := by omega
                              have s7 : zSt tc (q + 0).toNat = some (v2, vn2, vn1, 0, 1) := by rw [show q + 0 = q by omega, a1, (a3 eq1).1, (a3 eq1).2]
                              refine lv_aload_n hx hb dX10_reads_189 rfl (lv_at hl 1 rfl) ?_
                              refine va_get (D := g.1) (ci := 5) (v := .ref sa) (C := RX10) (T := TX10) (N := 6) hx hb hts mX10_reads_0 hown hK (hX.gy) 0 rfl rfl 0 (by decide) (hts _ mX10_reads_1) (fun _ h9 => h9) rfl dX10_reads_190 ?_
                              refine lv_iload_n hx hb dX10_reads_193 rfl (lv_at hl 2 rfl) ?_
                              refine zy_ild hx hb hK hX (by omega) dX10_reads_194 ?_
                              rw [l2]
                              refine lv_iload_n hx hb dX10_reads_195 rfl (lv_at hl 3 rfl) ?_
                              refine zv_isub hx hb dX10_reads_196 ?_
                              refine lv_istore (lv' := [(6, .int (zI (vn2 - vn1))), (2, .int (zI (q + 0))), (0, .ref y), (1, .int (zI 246)), (3, .int (zI vn1)), (4, .int (zI 0)), (5, .int (zI (i + 0)))]) hx hb dX10_reads_197 hl (by decide) rfl (fun ls hl => ?_)
                              refine lv_iload_n hx hb dX10_reads_199 rfl (lv_at hl 1 rfl) ?_
                              refine lv_aload_n hx hb dX10_reads_200 rfl (lv_at hl 2 rfl) ?_
                              refine va_get (D := g.1) (ci := 5) (v := .int (zI tn)) (C := RX10) (T := TX10) (N := 6) hx hb hts mX10_reads_0 hown hK (hX.gy) 0 rfl rfl 4 (by decide) (hts _ mX10_reads_2) (fun _ h9 => h9) rfl dX10_reads_201 ?_
                              refine zv_icmp_ge (tgt := 311) hx hb dX10_reads_204 (by decide) (by omega) (by omega) (fun c204 => ?_) (fun c204 => ?_)
                              · refine lv_goto (tgt := 13) hx hb dX10_reads_311 (by decide) ?_
                                exact ih13 (q + 0) f2 v2 vn2 vn1 1 _ _ (by omega) (s7) (a2) (fun _ z y => by first | omega | exact c220 (by rw [← hgt _ (by omega) z] at y; exact y)) (alo) (hX) (hS) (by omega) _ (lv_sub hl [2, 3, 1] rfl)
                              · refine lv_aload_n hx hb dX10_reads_207 rfl (lv_at hl 2 rfl) ?_
                                refine va_get (D := g.1) (ci := 5) (v := .ref ta) (C := RX10) (T := TX10) (N := 6) hx hb hts mX10_reads_0 hown hK (hX.gy) 0 rfl rfl 3 (by decide) (hts _ mX10_reads_3) (fun _ h9 => h9) rfl dX10_reads_208 ?_
                                refine lv_iload_n hx hb dX10_reads_211 rfl (lv_at hl 1 rfl) ?_
                                refine zy_tld hx hb hK hX (by omega) dX10_reads_212 ?_
                                have g8 := hX.gg (k := q + 0) (by omega)
                                refine zv_bipush hx hb dX10_reads_213 (by decide +kernel) ?_
                                refine zv_bipush hx hb dX10_reads_215 (by decide +kernel) ?_
                                refine zc_S (As := [.int (zI (gt (q + 0))), .int (zI 50), .int (zI 57)]) (rest := []) S hK (kX10_in l g (gt (q + 0)) 50 57 (by omega) (by omega) (by omega)) (va_cwS 3 hts gX10_reads_X10_in rfl rfl rfl (by decide +kernel) ⟨Nat.le_of_ble_eq_true rfl, Nat.le_of_ble_eq_true rfl⟩) (trivial) rfl hl.1 rfl (Nat.le_of_ble_eq_true rfl) dX10_reads_217 ⟨Nat.zero_le _, Nat.zero_le _⟩ (fun r217 hr217 => ?_)
                                obtain rfl := hr217
                                refine zv_ifB_eq (tgt := 311) hx hb dX10_reads_220 (by decide) (fun c220 => ?_) (fun c220 => ?_)
                                · refine lv_goto (tgt := 13) hx hb dX10_reads_311 (by decide) ?_
                                  exact ih13 (q + 0) f2 v2 vn2 vn1 1 _ _ (by omega) (s7) (a2) (fun _ z y => by first | omega | exact c220 (by rw [← hgt _ (by omega) z] at y; exact y)) (alo) (hX) (hS) (by omega) _ (lv_sub hl [2, 3, 1] rfl)
                                · refine lv_aload_n hx hb dX10_reads_223 rfl (lv_at hl 2 rfl) ?_
                                  refine va_get (D := g.1) (ci := 5) (v := .ref ta) (C := RX10) (T := TX10) (N := 6) hx hb hts mX10_reads_0 hown hK (hX.gy) 0 rfl rfl 3 (by decide) (hts _ mX10_reads_3) (fun _ h9 => h9) rfl dX10_reads_224 ?_
                                  refine lv_iload_n hx hb dX10_reads_227 rfl (lv_at hl 1 rfl) ?_
                                  refine zy_tld hx hb hK hX (by omega) dX10_reads_228 ?_
                                  refine zv_bipush hx hb dX10_reads_229 (by decide +kernel) ?_
                                  refine zv_isub hx hb dX10_reads_231 ?_
                                  obtain ⟨x, ex⟩ : ∃ x, x = gt (q + 0) - 48 := ⟨_, rfl⟩
                                  rw [← ex]
                                  obtain ⟨mm, em⟩ : ∃ m, m = x * (vn2 - vn1) := ⟨_, rfl⟩
                                  have hgq := hgt (q + 0) (by omega) (by omega)
                                  have bm := zMulBd9 (a := x) (b := vn2 - vn1) (by omega) (by omega)
                                  rw [← em] at bm
                                  have bm2 := Int.mul_nonneg (show 0 ≤ x - 1 by omega) (show 0 ≤ vn2 - vn1 by omega)
                                  rw [zSub1_mul, ← em] at bm2
                                  refine lv_istore (lv' := [(7, .int (zI x)), (6, .int (zI (vn2 - vn1))), (2, .int (zI (q + 0))), (0, .ref y), (1, .int (zI 246)), (3, .int (zI vn1)), (4, .int (zI 0)), (5, .int (zI (i + 0)))]) hx hb dX10_reads_232 hl (by decide) rfl (fun ls hl => ?_)
                                  refine lv_iload_n hx hb dX10_reads_234 rfl (lv_at hl 5 rfl) ?_
                                  refine lv_iload hx hb dX10_reads_235 (lv_at hl 0 rfl) ?_
                                  refine lv_iload hx hb dX10_reads_237 (lv_at hl 1 rfl) ?_
                                  refine zv_imul hx hb dX10_reads_239 ?_
                                  rw [← em]
                                  refine zv_iadd hx hb dX10_reads_240 ?_
                                  refine zv_bipush hx hb dX10_reads_241 (by decide +kernel) ?_
                                  refine zv_icmp_le (tgt := 248) hx hb dX10_reads_243 (by decide) (by omega) (by omega) (fun c243 => ?_) (fun c243 => ?_)
                                  · refine zv_iconst hx hb dX10_reads_248 ?_
                                    refine lv_istore (lv' := [(8, .int (zI 0)), (7, .int (zI x)), (6, .int (zI (vn2 - vn1))), (2, .int (zI (q + 0))), (0, .ref y), (1, .int (zI 246)), (3, .int (zI vn1)), (4, .int (zI 0)), (5, .int (zI (i + 0)))]) hx hb dX10_reads_249 hl (by decide) rfl (fun ls hl => ?_)
                                    have lp251 : ∀ (z_f : Nat) (j : Int) (f3 : Int → Int) (H1 : Heap) (locs : List Loc), (0 ≤ j ∧ j ≤ mm - (vn2 - vn1)) → (SL f3 246 (zRep v2 vn2 vn1) (vn2 + j)) → (∀ k, 0 ≤ k → k < 246 → f3 k = f k) → (RM g y sa ta oa f3 gt od hc hs tn H1) → (va_S (zA4 y sa ta oa) s.heap H1 locs) → ((mm - (vn2 - vn1) - j).toNat) < z_f → ∀ (ls : Array Slot), lv_has ls 9 [(0, .ref y), (1, .int (zI 246)), (2, .int (zI (q + 0))), (3, .int (zI vn1)), (4, .int (zI 0)), (5, .int (zI (i + 0))), (6, .int (zI (vn2 - vn1))), (7, .int (zI x)), (8, .int (zI j))] → W p l e (zRm 2 43) s m args below meth c H1 locs 0 0 (MQ below (zQi (fun r H => ∃ z : Int, r = zI z ∧ z = zFl tc tn ∧ -1 ≤ z ∧ z ≤ 60 ∧ ∃ f gt od : Int → Int, RM g y sa ta oa f gt od hc hs tn H ∧ MF f w n ee en hc u un hs ∧ (∀ k, 0 ≤ k → k < tn → gt k = tc k) ∧ (z = -1 → SL f 246 (zLdS tc tn).1 (zLdS tc tn).2.1)) (zA4 y sa ta oa)) args s 0 0 (zA4 y sa ta oa)) (F0 m 251 ls []) := by
                                      intro z_f
                                      induction z_f with
                                      | zero => intro j f3 H1 locs b0 b1 blo hX hS z_m; exact absurd z_m (Nat.not_lt_zero _)
                                      | succ z_f ih251 =>
                                        intro j f3 H1 locs b0 b1 blo hX hS z_m251 ls hl
                                        have l3 := b1.1
                                        have nb3 := b1.2.1
                                        refine lv_iload hx hb dX10_reads_251 (lv_at hl 8 rfl) ?_
                                        refine lv_iload hx hb dX10_reads_253 (lv_at hl 7 rfl) ?_
                                        refine zv_iconst hx hb dX10_reads_255 ?_
                                        refine zv_isub hx hb dX10_reads_256 ?_
                                        refine lv_iload hx hb dX10_reads_257 (lv_at hl 6 rfl) ?_
                                        refine zv_imul hx hb dX10_reads_259 ?_
                                        rw [show (x - 1) * (vn2 - vn1) = mm - (vn2 - vn1) by rw [zSub1_mul, ← em]]
                                        refine zv_icmp_ge (tgt := 308) hx hb dX10_reads_260 (by decide) (by omega) (by omega) (fun c260 => ?_) (fun c260 => ?_)
                                        · refine zv_iinc (lv' := [(2, .int (zI (q + 0 + 1))), (0, .ref y), (1, .int (zI 246)), (3, .int (zI vn1)), (4, .int (zI 0)), (5, .int (zI (i + 0))), (6, .int (zI (vn2 - vn1))), (7, .int (zI x)), (8, .int (zI j))]) hx hb dX10_reads_308 hl (k := 2) rfl (by decide) rfl (fun ls hl => ?_)
                                          refine lv_goto (tgt := 13) hx hb dX10_reads_311 (by decide) ?_
                                          exact ih13 (q + 0 + 1) f3 (zRep v2 vn2 vn1) (vn2 + j) vn1 0 _ _ (by omega) (by
                                            have ej : vn2 + j = vn2 + (tc (q + 0) - 48 - 1) * (vn2 - vn1) := by rw [← hgq, show gt (q + 0) - 48 = x from ex.symm, zSub1_mul, ← em]; omega
                                            rw [zSt_next (by omega) s7, ej]
                                            exact zTk_dig (by omega) rfl (by omega)) (b1) (fun z => absurd rfl z) (blo) (hX) (hS) (by omega) _ (lv_sub hl [1, 2, 0] rfl)
                                        · refine lv_aload_n hx hb dX10_reads_263 rfl (lv_at hl 0 rfl) ?_
                                          refine va_get (D := g.1) (ci := 5) (v := .ref sa) (C := RX10) (T := TX10) (N := 6) hx hb hts mX10_reads_0 hown hK (hX.gy) 0 rfl rfl 0 (by decide) (hts _ mX10_reads_1) (fun _ h9 => h9) rfl dX10_reads_264 ?_
                                          refine lv_iload_n hx hb dX10_reads_267 rfl (lv_at hl 1 rfl) ?_
                                          refine lv_dup2_11 hx hb dX10_reads_268 rfl rfl ?_
                                          refine zy_ild hx hb hK hX (by omega) dX10_reads_269 ?_
                                          refine zv_iconst hx hb dX10_reads_270 ?_
                                          refine zv_iadd hx hb dX10_reads_271 ?_
                                          refine zy_ist hx hb hK hX hS (by omega) (by omega) dX10_reads_272 (fun H1 locs hX hS => ?_)
                                          obtain ⟨f272, e272⟩ : ∃ z9, z9 = zApp f3 246 ((f3 246) + 1) := ⟨_, rfl⟩
                                          rw [← e272] at hX
                                          have r272 : f272 246 = (f3 246) + 1 := by rw [e272]; exact zApp_eq _ _ _
                                          have q272 : ∀ x9, x9 ≠ 246 → f272 x9 = f3 x9 := fun x9 h => by rw [e272]; exact zApp_ne h
                                          have l272 : f272 246 = vn2 + j + 1 := by omega
                                          refine lv_aload_n hx hb dX10_reads_273 rfl (lv_at hl 0 rfl) ?_
                                          refine va_get (D := g.1) (ci := 5) (v := .ref sa) (C := RX10) (T := TX10) (N := 6) hx hb hts mX10_reads_0 hown hK (hX.gy) 0 rfl rfl 0 (by decide) (hts _ mX10_reads_1) (fun _ h9 => h9) rfl dX10_reads_274 ?_
                                          refine lv_iload_n hx hb dX10_reads_277 rfl (lv_at hl 1 rfl) ?_
                                          refine lv_aload_n hx hb dX10_reads_278 rfl (lv_at hl 0 rfl) ?_
                                          refine va_get (D := g.1) (ci := 5) (v := .ref sa) (C := RX10) (T := TX10) (N := 6) hx hb hts mX10_reads_0 hown hK (hX.gy) 0 rfl rfl 0 (by decide) (hts _ mX10_reads_1) (fun _ h9 => h9) rfl dX10_reads_279 ?_
                                          refine lv_iload_n hx hb dX10_reads_282 rfl (lv_at hl 1 rfl) ?_
                                          refine zy_ild hx hb hK hX (by omega) dX10_reads_283 ?_
                                          refine zv_iadd hx hb dX10_reads_284 ?_
                                          refine lv_aload_n hx hb dX10_reads_285 rfl (lv_at hl 0 rfl) ?_
                                          refine va_get (D := g.1) (ci := 5) (v := .ref sa) (C := RX10) (T := TX10) (N := 6) hx hb hts mX10_reads_0 hown hK (hX.gy) 0 rfl rfl 0 (by decide) (hts _ mX10_reads_1) (fun _ h9 => h9) rfl dX10_reads_286 ?_
                                          refine lv_iload_n hx hb dX10_reads_289 rfl (lv_at hl 1 rfl) ?_
                                          refine lv_aload_n hx hb dX10_reads_290 rfl (lv_at hl 0 rfl) ?_
                                          refine va_get (D := g.1) (ci := 5) (v := .ref sa) (C := RX10) (T := TX10) (N := 6) hx hb hts mX10_reads_0 hown hK (hX.gy) 0 rfl rfl 0 (by decide) (hts _ mX10_reads_1) (fun _ h9 => h9) rfl dX10_reads_291 ?_
                                          refine lv_iload_n hx hb dX10_reads_294 rfl (lv_at hl 1 rfl) ?_
                                          refine zy_ild hx hb hK hX (by omega) dX10_reads_295 ?_
                                          refine zv_iadd hx hb dX10_reads_296 ?_
                                          refine lv_iload hx hb dX10_reads_297 (lv_at hl 6 rfl) ?_
                                          refine zv_isub hx hb dX10_reads_299 ?_
                                          refine zy_ild hx hb hK hX (by omega) dX10_reads_300 ?_
                                          refine zy_ist hx hb hK hX hS (by omega) (hX.gf (by omega)) dX10_reads_301 (fun H1 locs hX hS => ?_)
                                          obtain ⟨f301, e301⟩ : ∃ z9, z9 = zApp f272 (246 + (f272 246)) (f272 ((246 + (f272 246)) - (vn2 - vn1))) := ⟨_, rfl⟩
                                          rw [← e301] at hX
                                          have r301 : f301 (246 + (f272 246)) = f272 ((246 + (f272 246)) - (vn2 - vn1)) := by rw [e301]; exact zApp_eq _ _ _
                                          have q301 : ∀ x9, x9 ≠ 246 + (f272 246) → f301 x9 = f272 x9 := fun x9 h => by rw [e301]; exact zApp_ne h
                                          refine zv_iinc (lv' := [(8, .int (zI (j + 1))), (0, .ref y), (1, .int (zI 246)), (2, .int (zI (q + 0))), (3, .int (zI vn1)), (4, .int (zI 0)), (5, .int (zI (i + 0))), (6, .int (zI (vn2 - vn1))), (7, .int (zI x))]) hx hb dX10_reads_302 hl (k := 8) rfl (by decide) rfl (fun ls hl => ?_)
                                          refine lv_goto (tgt := 251) hx hb dX10_reads_305 (by decide) ?_
                                          exact ih251 (j + 1) f301 _ _ (by omega) (((b1.app (x := zRep v2 vn2 vn1 (vn2 + j)) (f2 := f301) (by omega) (zRep_bd ⟨by omega, by omega⟩ (fun k a b => (a2.2.2 k a b).2) _ (by omega)) (by rw [q301 246 (by omega), r272, l3]) (by rw [show (246 : Int) + 1 + (vn2 + j) = 246 + f272 246 by omega, r301, q272 _ (by omega), show 246 + f272 246 - (vn2 - vn1) = 246 + 1 + (vn2 + j - (vn2 - vn1)) by omega, (b1.2.2 (vn2 + j - (vn2 - vn1)) (by omega) (by omega)).1]; exact zRep_per ⟨by omega, by omega⟩ (by omega)) (fun k a b => by rw [q301 k (by omega), q272 k (by omega)])).word (n2 := vn2 + (j + 1)) (by omega) (fun k a b => zApp_self))) (fun k a b => by rw [q301 k (by omega), q272 k (by omega)]; exact blo k a b) (hX) (hS) (by omega) _ (lv_sub hl [1, 2, 3, 4, 5, 6, 7, 8, 0] rfl)
                                    exact lp251 _ 0 f2 _ _ (by omega) (a2.word (by omega) (fun k a b => zRep_lo (by omega))) (alo) (hX) (hS) (Nat.lt_succ_self _) _ (lv_sub hl [4, 5, 3, 6, 7, 8, 2, 1, 0] rfl)
                                  · refine lv_iload_n hx hb dX10_reads_246 rfl (lv_at hl 2 rfl) ?_
                                    exact zw_i hx hb hr hlocks hS dX10_reads_247 (⟨_, rfl, (zFl_here s7 (by omega) (fun z => ⟨fun v => by omega, fun v => Or.inr (by rw [← hgq, show gt (q + 0) - 48 = x from ex.symm, zSub1_mul, ← em]; omega), fun v => by omega, fun v => by omega⟩) (fun v => by omega)).symm, by omega, by omega, _, _, _, hX, hm.scr hR.1 alo, hgt, fun z => absurd z (by omega)⟩)
                            · exfalso; omega
                          · exfalso; omega
                        · exfalso; omega
                      · have hgq := hgt q (by omega) (by omega)
                        refine lv_aload_n hx hb dX10_reads_104 rfl (lv_at hl 0 rfl) ?_
                        refine va_get (D := g.1) (ci := 5) (v := .ref sa) (C := RX10) (T := TX10) (N := 6) hx hb hts mX10_reads_0 hown hK (hX.gy) 0 rfl rfl 0 (by decide) (hts _ mX10_reads_1) (fun _ h9 => h9) rfl dX10_reads_105 ?_
                        refine lv_iload_n hx hb dX10_reads_108 rfl (lv_at hl 1 rfl) ?_
                        refine lv_dup2_11 hx hb dX10_reads_109 rfl rfl ?_
                        refine zy_ild hx hb hK hX (by omega) dX10_reads_110 ?_
                        refine zv_iconst hx hb dX10_reads_111 ?_
                        refine zv_iadd hx hb dX10_reads_112 ?_
                        refine zy_ist hx hb hK hX hS (by omega) (by omega) dX10_reads_113 (fun H1 locs hX hS => ?_)
                        obtain ⟨f113, e113⟩ : ∃ z9, z9 = zApp f2 246 ((f2 246) + 1) := ⟨_, rfl⟩
                        rw [← e113] at hX
                        have r113 : f113 246 = (f2 246) + 1 := by rw [e113]; exact zApp_eq _ _ _
                        have q113 : ∀ x9, x9 ≠ 246 → f113 x9 = f2 x9 := fun x9 h => by rw [e113]; exact zApp_ne h
                        have l113 : f113 246 = vn2 + 1 := by omega
                        refine lv_aload_n hx hb dX10_reads_114 rfl (lv_at hl 0 rfl) ?_
                        refine va_get (D := g.1) (ci := 5) (v := .ref sa) (C := RX10) (T := TX10) (N := 6) hx hb hts mX10_reads_0 hown hK (hX.gy) 0 rfl rfl 0 (by decide) (hts _ mX10_reads_1) (fun _ h9 => h9) rfl dX10_reads_115 ?_
                        refine lv_iload_n hx hb dX10_reads_118 rfl (lv_at hl 1 rfl) ?_
                        refine lv_aload_n hx hb dX10_reads_119 rfl (lv_at hl 0 rfl) ?_
                        refine va_get (D := g.1) (ci := 5) (v := .ref sa) (C := RX10) (T := TX10) (N := 6) hx hb hts mX10_reads_0 hown hK (hX.gy) 0 rfl rfl 0 (by decide) (hts _ mX10_reads_1) (fun _ h9 => h9) rfl dX10_reads_120 ?_
                        refine lv_iload_n hx hb dX10_reads_123 rfl (lv_at hl 1 rfl) ?_
                        refine zy_ild hx hb hK hX (by omega) dX10_reads_124 ?_
                        refine zv_iadd hx hb dX10_reads_125 ?_
                        refine lv_aload_n hx hb dX10_reads_126 rfl (lv_at hl 0 rfl) ?_
                        refine va_get (D := g.1) (ci := 5) (v := .ref ta) (C := RX10) (T := TX10) (N := 6) hx hb hts mX10_reads_0 hown hK (hX.gy) 0 rfl rfl 3 (by decide) (hts _ mX10_reads_3) (fun _ h9 => h9) rfl dX10_reads_127 ?_
                        refine lv_iload_n hx hb dX10_reads_130 rfl (lv_at hl 2 rfl) ?_
                        refine zy_tld hx hb hK hX (by omega) dX10_reads_131 ?_
                        refine zv_bipush hx hb dX10_reads_132 (by decide +kernel) ?_
                        refine zv_isub hx hb dX10_reads_134 ?_
                        refine zy_ist hx hb hK hX hS (by omega) (by omega) dX10_reads_135 (fun H1 locs hX hS => ?_)
                        obtain ⟨f135, e135⟩ : ∃ z9, z9 = zApp f113 (246 + (f113 246)) ((gt q) - 97) := ⟨_, rfl⟩
                        rw [← e135] at hX
                        have r135 : f135 (246 + (f113 246)) = (gt q) - 97 := by rw [e135]; exact zApp_eq _ _ _
                        have q135 : ∀ x9, x9 ≠ 246 + (f113 246) → f135 x9 = f113 x9 := fun x9 h => by rw [e135]; exact zApp_ne h
                        refine zv_iinc (lv' := [(2, .int (zI (q + 1))), (0, .ref y), (1, .int (zI 246)), (3, .int (zI vn1)), (4, .int (zI 0)), (5, .int (zI (i + 0)))]) hx hb dX10_reads_136 hl (k := 2) rfl (by decide) rfl (fun ls hl => ?_)
                        refine lv_goto (tgt := 74) hx hb dX10_reads_139 (by decide) ?_
                        exact ih74 (q + 1) f135 (zApp v2 vn2 (gt q - 97)) (vn2 + 1) vn1 1 _ _ (by omega) (by rw [zSt_next (by omega) a1, ← hgq, zTk_let0 (by omega) (by omega), show vn1 = vn2 by omega]) (fun _ => ⟨rfl, rfl⟩) (fun z => absurd z (by omega)) (((a2.app (x := gt q - 97) (f2 := f135) (by omega) (by omega) (by rw [q135 246 (by omega), r113, l2]) (by rw [show (246 : Int) + 1 + vn2 = 246 + f113 246 by omega]; exact r135) (fun k a b => by rw [q135 k (by omega), q113 k (by omega)])))) (fun k a b => by rw [q135 k (by omega), q113 k (by omega)]; exact alo k a b) (hX) (hS) (by omega) _ (lv_sub hl [1, 2, 0, 3, 4, 5] rfl)
            exact lp74 _ (i + 0) f1 v1 vn1 pf1 bp1 _ _ (by omega) (by rw [show i + 0 = i by omega]; exact h1) (fun z => absurd z (by omega)) (fun _ => h3) (h2) (hlo) (hX) (hS) (Nat.lt_succ_self _) _ (lv_sub hl [4, 5, 1, 3, 2, 0] rfl)
          · exfalso; omega
        · refine lv_aload_n hx hb dX10_reads_40 rfl (lv_at hl 1 rfl) ?_
          refine va_get (D := g.1) (ci := 5) (v := .ref ta) (C := RX10) (T := TX10) (N := 6) hx hb hts mX10_reads_0 hown hK (hX.gy) 0 rfl rfl 3 (by decide) (hts _ mX10_reads_3) (fun _ h9 => h9) rfl dX10_reads_41 ?_
          refine lv_iload_n hx hb dX10_reads_44 rfl (lv_at hl 3 rfl) ?_
          refine zy_tld hx hb hK hX (by omega) dX10_reads_45 ?_
          have g8 := hX.gg (k := i) (by omega)
          refine zv_bipush hx hb dX10_reads_46 (by decide +kernel) ?_
          refine zv_icmp_ne (tgt := 55) hx hb dX10_reads_48 (by decide) (by omega) (by omega) (fun c48 => ?_) (fun c48 => ?_)
          · have n40 : i < tn → tc i ≠ 40 := fun z => by rw [← hgt i h0.1 z]; exact c48
            refine zv_iconst hx hb dX10_reads_55 ?_
            refine lv_istore (lv' := [(4, .int (zI 0)), (3, .int (zI vn1)), (0, .ref y), (1, .int (zI 246)), (2, .int (zI i))]) hx hb dX10_reads_56 hl (by decide) rfl (fun ls hl => ?_)
            refine lv_iload_n hx hb dX10_reads_58 rfl (lv_at hl 4 rfl) ?_
            refine lv_iload hx hb dX10_reads_59 (lv_at hl 0 rfl) ?_
            refine zv_if_eq (tgt := 68) hx hb dX10_reads_61 (by decide) (by omega) (fun c61 => ?_) (fun c61 => ?_)
            · refine zv_iconst hx hb dX10_reads_68 ?_
              refine zv_iadd hx hb dX10_reads_69 ?_
              refine lv_istore_n (lv' := [(2, .int (zI (i + 0))), (4, .int (zI 0)), (3, .int (zI vn1)), (0, .ref y), (1, .int (zI 246))]) hx hb dX10_reads_70 rfl hl (by decide) rfl (fun ls hl => ?_)
              refine lv_iload_n hx hb dX10_reads_71 rfl (lv_at hl 0 rfl) ?_
              refine lv_istore (lv' := [(5, .int (zI (i + 0))), (2, .int (zI (i + 0))), (4, .int (zI 0)), (3, .int (zI vn1)), (0, .ref y), (1, .int (zI 246))]) hx hb dX10_reads_72 hl (by decide) rfl (fun ls hl => ?_)
              have lp74 : ∀ (z_f : Nat) (q : Int) (f2 : Int → Int) (v2 : Int → Int) (vn2 : Int) (pf2 : Int) (bp2 : Int) (H1 : Heap) (locs : List Loc), (i ≤ q ∧ q ≤ i + 1 ∧ q ≤ tn ∧ vn2 - vn1 = q - i) → (zSt tc q.toNat = some (v2, vn2, pf2, 0, bp2)) → (q = i + 1 → pf2 = vn1 ∧ bp2 = 1) → (q = i → bp2 ≠ 0 → i < tn → ¬ (50 ≤ tc i ∧ tc i ≤ 57)) → (SL f2 246 v2 vn2) → (∀ k, 0 ≤ k → k < 246 → f2 k = f k) → (RM g y sa ta oa f2 gt od hc hs tn H1) → (va_S (zA4 y sa ta oa) s.heap H1 locs) → ((tn - q).toNat) < z_f → ∀ (ls : Array Slot), lv_has ls 9 [(0, .ref y), (1, .int (zI 246)), (2, .int (zI q)), (3, .int (zI vn1)), (4, .int (zI 0)), (5, .int (zI (i + 0)))] → W p l e (zRm 2 43) s m args below meth c H1 locs 0 0 (MQ below (zQi (fun r H => ∃ z : Int, r = zI z ∧ z = zFl tc tn ∧ -1 ≤ z ∧ z ≤ 60 ∧ ∃ f gt od : Int → Int, RM g y sa ta oa f gt od hc hs tn H ∧ MF f w n ee en hc u un hs ∧ (∀ k, 0 ≤ k → k < tn → gt k = tc k) ∧ (z = -1 → SL f 246 (zLdS tc tn).1 (zLdS tc tn).2.1)) (zA4 y sa ta oa)) args s 0 0 (zA4 y sa ta oa)) (F0 m 74 ls []) := by
                intro z_f
                induction z_f with
                | zero => intro q f2 v2 vn2 pf2 bp2 H1 locs a0 a1 a3 a4 a2 alo hX hS z_m; exact absurd z_m (Nat.not_lt_zero _)
                | succ z_f ih74 =>
                  intro q f2 v2 vn2 pf2 bp2 H1 locs a0 a1 a3 a4 a2 alo hX hS z_m74 ls hl
                  have l2 := a2.1
                  have nb2 := a2.2.1
                  refine lv_aload_n hx hb dX10_reads_74 rfl (lv_at hl 0 rfl) ?_
                  refine lv_iload_n hx hb dX10_reads_75 rfl (lv_at hl 2 rfl) ?_
                  refine zc_V (As := [.int (zI q)]) (rest := []) S hK (kX10_isLetter l g y sa ta oa f2 gt od hc hs tn q (by omega)) (cwV 1 hts gX10_reads_X10_isLetter rfl rfl rfl (by decide +kernel) ⟨Nat.le_of_ble_eq_true rfl, Nat.le_of_ble_eq_true rfl⟩) (hX) (hX.recv hK) rfl hl.1 rfl (Nat.le_of_ble_eq_true rfl) dX10_reads_76 ⟨Nat.zero_le _, Nat.zero_le _⟩ (fun r76 hr76 => ?_)
                  obtain rfl := hr76
                  refine zv_ifB_eq (tgt := 142) hx hb dX10_reads_79 (by decide) (fun c79 => ?_) (fun c79 => ?_)
                  · have hex : q < tn → 97 ≤ tc q ∧ tc q ≤ 122 → 40 ≤ vn2 := fun z v => absurd ⟨z, by rw [hgt q (by omega) z]; exact v⟩ c79
                    refine lv_iload_n hx hb dX10_reads_142 rfl (lv_at hl 2 rfl) ?_
                    refine lv_iload hx hb dX10_reads_143 (lv_at hl 5 rfl) ?_
                    refine zv_icmp_ne (tgt := 150) hx hb dX10_reads_145 (by decide) (by omega) (by omega) (fun c145 => ?_) (fun c145 => ?_)
                    · refine lv_iload hx hb dX10_reads_150 (lv_at hl 4 rfl) ?_
                      refine zv_if_eq (tgt := 176) hx hb dX10_reads_152 (by decide) (by omega) (fun c152 => ?_) (fun c152 => ?_)
                      · refine lv_iload_n hx hb dX10_reads_176 rfl (lv_at hl 2 rfl) ?_
                        refine lv_iload hx hb dX10_reads_177 (lv_at hl 4 rfl) ?_
                        refine zv_if_eq (tgt := 186) hx hb dX10_reads_179 (by decide) (by omega) (fun c179 => ?_) (fun c179 => ?_)
                        · refine zv_iconst hx hb dX10_reads_186 ?_
                          refine zv_iadd hx hb dX10_reads_187 ?_
                          refine lv_istore_n (lv' := [(2, .int (zI (q + 0))), (0, .ref y), (1, .int (zI 246)), (3, .int (zI vn1)), (4, .int (zI 0)), (5, .int (zI (i + 0)))]) hx hb dX10_reads_188 rfl hl (by decide) rfl (fun ls hl => ?_)
                          have eq1 : q = i + 1 := by omega
                          have s7 : zSt tc (q + 0).toNat = some (v2, vn2, vn1, 0, 1) := by rw [show q + 0 = q by omega, a1, (a3 eq1).1, (a3 eq1).2]
                          refine lv_aload_n hx hb dX10_reads_189 rfl (lv_at hl 1 rfl) ?_
                          refine va_get (D := g.1) (ci := 5) (v := .ref sa) (C := RX10) (T := TX10) (N := 6) hx hb hts mX10_reads_0 hown hK (hX.gy) 0 rfl rfl 0 (by decide) (hts _ mX10_reads_1) (fun _ h9 => h9) rfl dX10_reads_190 ?_
                          refine lv_iload_n hx hb dX10_reads_193 rfl (lv_at hl 2 rfl) ?_
                          refine zy_ild hx hb hK hX (by omega) dX10_reads_194 ?_
                          rw [l2]
                          refine lv_iload_n hx hb dX10_reads_195 rfl (lv_at hl 3 rfl) ?_
                          refine zv_isub hx hb dX10_reads_196 ?_
                          refine lv_istore (lv' := [(6, .int (zI (vn2 - vn1))), (2, .int (zI (q + 0))), (0, .ref y), (1, .int (zI 246)), (3, .int (zI vn1)), (4, .int (zI 0)), (5, .int (zI (i + 0)))]) hx hb dX10_reads_197 hl (by decide) rfl (fun ls hl => ?_)
                          refine lv_iload_n hx hb dX10_reads_199 rfl (lv_at hl 1 rfl) ?_
                          refine lv_aload_n hx hb dX10_reads_200 rfl (lv_at hl 2 rfl) ?_
                          refine va_get (D := g.1) (ci := 5) (v := .int (zI tn)) (C := RX10) (T := TX10) (N := 6) hx hb hts mX10_reads_0 hown hK (hX.gy) 0 rfl rfl 4 (by decide) (hts _ mX10_reads_2) (fun _ h9 => h9) rfl dX10_reads_201 ?_
                          refine zv_icmp_ge (tgt := 311) hx hb dX10_reads_204 (by decide) (by omega) (by omega) (fun c204 => ?_) (fun c204 => ?_)
                          · refine lv_goto (tgt := 13) hx hb dX10_reads_311 (by decide) ?_
                            exact ih13 (q + 0) f2 v2 vn2 vn1 1 _ _ (by omega) (s7) (a2) (fun _ z y => by first | omega | exact c220 (by rw [← hgt _ (by omega) z] at y; exact y)) (alo) (hX) (hS) (by omega) _ (lv_sub hl [2, 3, 1] rfl)
                          · refine lv_aload_n hx hb dX10_reads_207 rfl (lv_at hl 2 rfl) ?_
                            refine va_get (D := g.1) (ci := 5) (v := .ref ta) (C := RX10) (T := TX10) (N := 6) hx hb hts mX10_reads_0 hown hK (hX.gy) 0 rfl rfl 3 (by decide) (hts _ mX10_reads_3) (fun _ h9 => h9) rfl dX10_reads_208 ?_
                            refine lv_iload_n hx hb dX10_reads_211 rfl (lv_at hl 1 rfl) ?_
                            refine zy_tld hx hb hK hX (by omega) dX10_reads_212 ?_
                            have g8 := hX.gg (k := q + 0) (by omega)
                            refine zv_bipush hx hb dX10_reads_213 (by decide +kernel) ?_
                            refine zv_bipush hx hb dX10_reads_215 (by decide +kernel) ?_
                            refine zc_S (As := [.int (zI (gt (q + 0))), .int (zI 50), .int (zI 57)]) (rest := []) S hK (kX10_in l g (gt (q + 0)) 50 57 (by omega) (by omega) (by omega)) (va_cwS 3 hts gX10_reads_X10_in rfl rfl rfl (by decide +kernel) ⟨Nat.le_of_ble_eq_true rfl, Nat.le_of_ble_eq_true rfl⟩) (trivial) rfl hl.1 rfl (Nat.le_of_ble_eq_true rfl) dX10_reads_217 ⟨Nat.zero_le _, Nat.zero_le _⟩ (fun r217 hr217 => ?_)
                            obtain rfl := hr217
                            refine zv_ifB_eq (tgt := 311) hx hb dX10_reads_220 (by decide) (fun c220 => ?_) (fun c220 => ?_)
                            · refine lv_goto (tgt := 13) hx hb dX10_reads_311 (by decide) ?_
                              exact ih13 (q + 0) f2 v2 vn2 vn1 1 _ _ (by omega) (s7) (a2) (fun _ z y => by first | omega | exact c220 (by rw [← hgt _ (by omega) z] at y; exact y)) (alo) (hX) (hS) (by omega) _ (lv_sub hl [2, 3, 1] rfl)
                            · refine lv_aload_n hx hb dX10_reads_223 rfl (lv_at hl 2 rfl) ?_
                              refine va_get (D := g.1) (ci := 5) (v := .ref ta) (C := RX10) (T := TX10) (N := 6) hx hb hts mX10_reads_0 hown hK (hX.gy) 0 rfl rfl 3 (by decide) (hts _ mX10_reads_3) (fun _ h9 => h9) rfl dX10_reads_224 ?_
                              refine lv_iload_n hx hb dX10_reads_227 rfl (lv_at hl 1 rfl) ?_
                              refine zy_tld hx hb hK hX (by omega) dX10_reads_228 ?_
                              refine zv_bipush hx hb dX10_reads_229 (by decide +kernel) ?_
                              refine zv_isub hx hb dX10_reads_231 ?_
                              obtain ⟨x, ex⟩ : ∃ x, x = gt (q + 0) - 48 := ⟨_, rfl⟩
                              rw [← ex]
                              obtain ⟨mm, em⟩ : ∃ m, m = x * (vn2 - vn1) := ⟨_, rfl⟩
                              have hgq := hgt (q + 0) (by omega) (by omega)
                              have bm := zMulBd9 (a := x) (b := vn2 - vn1) (by omega) (by omega)
                              rw [← em] at bm
                              have bm2 := Int.mul_nonneg (show 0 ≤ x - 1 by omega) (show 0 ≤ vn2 - vn1 by omega)
                              rw [zSub1_mul, ← em] at bm2
                              refine lv_istore (lv' := [(7, .int (zI x)), (6, .int (zI (vn2 - vn1))), (2, .int (zI (q + 0))), (0, .ref y), (1, .int (zI 246)), (3, .int (zI vn1)), (4, .int (zI 0)), (5, .int (zI (i + 0)))]) hx hb dX10_reads_232 hl (by decide) rfl (fun ls hl => ?_)
                              refine lv_iload_n hx hb dX10_reads_234 rfl (lv_at hl 5 rfl) ?_
                              refine lv_iload hx hb dX10_reads_235 (lv_at hl 0 rfl) ?_
                              refine lv_iload hx hb dX10_reads_237 (lv_at hl 1 rfl) ?_
                              refine zv_imul hx hb dX10_reads_239 ?_
                              rw [← em]
                              refine zv_iadd hx hb dX10_reads_240 ?_
                              refine zv_bipush hx hb dX10_reads_241 (by decide +kernel) ?_
                              refine zv_icmp_le (tgt := 248) hx hb dX10_reads_243 (by decide) (by omega) (by omega) (fun c243 => ?_) (fun c243 => ?_)
                              · refine zv_iconst hx hb dX10_reads_248 ?_
                                refine lv_istore (lv' := [(8, .int (zI 0)), (7, .int (zI x)), (6, .int (zI (vn2 - vn1))), (2, .int (zI (q + 0))), (0, .ref y), (1, .int (zI 246)), (3, .int (zI vn1)), (4, .int (zI 0)), (5, .int (zI (i + 0)))]) hx hb dX10_reads_249 hl (by decide) rfl (fun ls hl => ?_)
                                have lp251 : ∀ (z_f : Nat) (j : Int) (f3 : Int → Int) (H1 : Heap) (locs : List Loc), (0 ≤ j ∧ j ≤ mm - (vn2 - vn1)) → (SL f3 246 (zRep v2 vn2 vn1) (vn2 + j)) → (∀ k, 0 ≤ k → k < 246 → f3 k = f k) → (RM g y sa ta oa f3 gt od hc hs tn H1) → (va_S (zA4 y sa ta oa) s.heap H1 locs) → ((mm - (vn2 - vn1) - j).toNat) < z_f → ∀ (ls : Array Slot), lv_has ls 9 [(0, .ref y), (1, .int (zI 246)), (2, .int (zI (q + 0))), (3, .int (zI vn1)), (4, .int (zI 0)), (5, .int (zI (i + 0))), (6, .int (zI (vn2 - vn1))), (7, .int (zI x)), (8, .int (zI j))] → W p l e (zRm 2 43) s m args below meth c H1 locs 0 0 (MQ below (zQi (fun r H => ∃ z : Int, r = zI z ∧ z = zFl tc tn ∧ -1 ≤ z ∧ z ≤ 60 ∧ ∃ f gt od : Int → Int, RM g y sa ta oa f gt od hc hs tn H ∧ MF f w n ee en hc u un hs ∧ (∀ k, 0 ≤ k → k < tn → gt k = tc k) ∧ (z = -1 → SL f 246 (zLdS tc tn).1 (zLdS tc tn).2.1)) (zA4 y sa ta oa)) args s 0 0 (zA4 y sa ta oa)) (F0 m 251 ls []) := by
                                  intro z_f
                                  induction z_f with
                                  | zero => intro j f3 H1 locs b0 b1 blo hX hS z_m; exact absurd z_m (Nat.not_lt_zero _)
                                  | succ z_f ih251 =>
                                    intro j f3 H1 locs b0 b1 blo hX hS z_m251 ls hl
                                    have l3 := b1.1
                                    have nb3 := b1.2.1
                                    refine lv_iload hx hb dX10_reads_251 (lv_at hl 8 rfl) ?_
                                    refine lv_iload hx hb dX10_reads_253 (lv_at hl 7 rfl) ?_
                                    refine zv_iconst hx hb dX10_reads_255 ?_
                                    refine zv_isub hx hb dX10_reads_256 ?_
                                    refine lv_iload hx hb dX10_reads_257 (lv_at hl 6 rfl) ?_
                                    refine zv_imul hx hb dX10_reads_259 ?_
                                    rw [show (x - 1) * (vn2 - vn1) = mm - (vn2 - vn1) by rw [zSub1_mul, ← em]]
                                    refine zv_icmp_ge (tgt := 308) hx hb dX10_reads_260 (by decide) (by omega) (by omega) (fun c260 => ?_) (fun c260 => ?_)
                                    · refine zv_iinc (lv' := [(2, .int (zI (q + 0 + 1))), (0, .ref y), (1, .int (zI 246)), (3, .int (zI vn1)), (4, .int (zI 0)), (5, .int (zI (i + 0))), (6, .int (zI (vn2 - vn1))), (7, .int (zI x)), (8, .int (zI j))]) hx hb dX10_reads_308 hl (k := 2) rfl (by decide) rfl (fun ls hl => ?_)
                                      refine lv_goto (tgt := 13) hx hb dX10_reads_311 (by decide) ?_
                                      exact ih13 (q + 0 + 1) f3 (zRep v2 vn2 vn1) (vn2 + j) vn1 0 _ _ (by omega) (by
                                        have ej : vn2 + j = vn2 + (tc (q + 0) - 48 - 1) * (vn2 - vn1) := by rw [← hgq, show gt (q + 0) - 48 = x from ex.symm, zSub1_mul, ← em]; omega
                                        rw [zSt_next (by omega) s7, ej]
                                        exact zTk_dig (by omega) rfl (by omega)) (b1) (fun z => absurd rfl z) (blo) (hX) (hS) (by omega) _ (lv_sub hl [1, 2, 0] rfl)
                                    · refine lv_aload_n hx hb dX10_reads_263 rfl (lv_at hl 0 rfl) ?_
                                      refine va_get (D := g.1) (ci := 5) (v := .ref sa) (C := RX10) (T := TX10) (N := 6) hx hb hts mX10_reads_0 hown hK (hX.gy) 0 rfl rfl 0 (by decide) (hts _ mX10_reads_1) (fun _ h9 => h9) rfl dX10_reads_264 ?_
                                      refine lv_iload_n hx hb dX10_reads_267 rfl (lv_at hl 1 rfl) ?_
                                      refine lv_dup2_11 hx hb dX10_reads_268 rfl rfl ?_
                                      refine zy_ild hx hb hK hX (by omega) dX10_reads_269 ?_
                                      refine zv_iconst hx hb dX10_reads_270 ?_
                                      refine zv_iadd hx hb dX10_reads_271 ?_
                                      refine zy_ist hx hb hK hX hS (by omega) (by omega) dX10_reads_272 (fun H1 locs hX hS => ?_)
                                      obtain ⟨f272, e272⟩ : ∃ z9, z9 = zApp f3 246 ((f3 246) + 1) := ⟨_, rfl⟩
                                      rw [← e272] at hX
                                      have r272 : f272 246 = (f3 246) + 1 := by rw [e272]; exact zApp_eq _ _ _
                                      have q272 : ∀ x9, x9 ≠ 246 → f272 x9 = f3 x9 := fun x9 h => by rw [e272]; exact zApp_ne h
                                      have l272 : f272 246 = vn2 + j + 1 := by omega
                                      refine lv_aload_n hx hb dX10_reads_273 rfl (lv_at hl 0 rfl) ?_
                                      refine va_get (D := g.1) (ci := 5) (v := .ref sa) (C := RX10) (T := TX10) (N := 6) hx hb hts mX10_reads_0 hown hK (hX.gy) 0 rfl rfl 0 (by decide) (hts _ mX10_reads_1) (fun _ h9 => h9) rfl dX10_reads_274 ?_
                                      refine lv_iload_n hx hb dX10_reads_277 rfl (lv_at hl 1 rfl) ?_
                                      refine lv_aload_n hx hb dX10_reads_278 rfl (lv_at hl 0 rfl) ?_
                                      refine va_get (D := g.1) (ci := 5) (v := .ref sa) (C := RX10) (T := TX10) (N := 6) hx hb hts mX10_reads_0 hown hK (hX.gy) 0 rfl rfl 0 (by decide) (hts _ mX10_reads_1) (fun _ h9 => h9) rfl dX10_reads_279 ?_
                                      refine lv_iload_n hx hb dX10_reads_282 rfl (lv_at hl 1 rfl) ?_
                                      refine zy_ild hx hb hK hX (by omega) dX10_reads_283 ?_
                                      refine zv_iadd hx hb dX10_reads_284 ?_
                                      refine lv_aload_n hx hb dX10_reads_285 rfl (lv_at hl 0 rfl) ?_
                                      refine va_get (D := g.1) (ci := 5) (v := .ref sa) (C := RX10) (T := TX10) (N := 6) hx hb hts mX10_reads_0 hown hK (hX.gy) 0 rfl rfl 0 (by decide) (hts _ mX10_reads_1) (fun _ h9 => h9) rfl dX10_reads_286 ?_
                                      refine lv_iload_n hx hb dX10_reads_289 rfl (lv_at hl 1 rfl) ?_
                                      refine lv_aload_n hx hb dX10_reads_290 rfl (lv_at hl 0 rfl) ?_
                                      refine va_get (D := g.1) (ci := 5) (v := .ref sa) (C := RX10) (T := TX10) (N := 6) hx hb hts mX10_reads_0 hown hK (hX.gy) 0 rfl rfl 0 (by decide) (hts _ mX10_reads_1) (fun _ h9 => h9) rfl dX10_reads_291 ?_
                                      refine lv_iload_n hx hb dX10_reads_294 rfl (lv_at hl 1 rfl) ?_
                                      refine zy_ild hx hb hK hX (by omega) dX10_reads_295 ?_
                                      refine zv_iadd hx hb dX10_reads_296 ?_
                                      refine lv_iload hx hb dX10_reads_297 (lv_at hl 6 rfl) ?_
                                      refine zv_isub hx hb dX10_reads_299 ?_
                                      refine zy_ild hx hb hK hX (by omega) dX10_reads_300 ?_
                                      refine zy_ist hx hb hK hX hS (by omega) (hX.gf (by omega)) dX10_reads_301 (fun H1 locs hX hS => ?_)
                                      obtain ⟨f301, e301⟩ : ∃ z9, z9 = zApp f272 (246 + (f272 246)) (f272 ((246 + (f272 246)) - (vn2 - vn1))) := ⟨_, rfl⟩
                                      rw [← e301] at hX
                                      have r301 : f301 (246 + (f272 246)) = f272 ((246 + (f272 246)) - (vn2 - vn1)) := by rw [e301]; exact zApp_eq _ _ _
                                      have q301 : ∀ x9, x9 ≠ 246 + (f272 246) → f301 x9 = f272 x9 := fun x9 h => by rw [e301]; exact zApp_ne h
                                      refine zv_iinc (lv' := [(8, .int (zI (j + 1))), (0, .ref y), (1, .int (zI 246)), (2, .int (zI (q + 0))), (3, .int (zI vn1)), (4, .int (zI 0)), (5, .int (zI (i + 0))), (6, .int (zI (vn2 - vn1))), (7, .int (zI x))]) hx hb dX10_reads_302 hl (k := 8) rfl (by decide) rfl (fun ls hl => ?_)
                                      refine lv_goto (tgt := 251) hx hb dX10_reads_305 (by decide) ?_
                                      exact ih251 (j + 1) f301 _ _ (by omega) (((b1.app (x := zRep v2 vn2 vn1 (vn2 + j)) (f2 := f301) (by omega) (zRep_bd ⟨by omega, by omega⟩ (fun k a b => (a2.2.2 k a b).2) _ (by omega)) (by rw [q301 246 (by omega), r272, l3]) (by rw [show (246 : Int) + 1 + (vn2 + j) = 246 + f272 246 by omega, r301, q272 _ (by omega), show 246 + f272 246 - (vn2 - vn1) = 246 + 1 + (vn2 + j - (vn2 - vn1)) by omega, (b1.2.2 (vn2 + j - (vn2 - vn1)) (by omega) (by omega)).1]; exact zRep_per ⟨by omega, by omega⟩ (by omega)) (fun k a b => by rw [q301 k (by omega), q272 k (by omega)])).word (n2 := vn2 + (j + 1)) (by omega) (fun k a b => zApp_self))) (fun k a b => by rw [q301 k (by omega), q272 k (by omega)]; exact blo k a b) (hX) (hS) (by omega) _ (lv_sub hl [1, 2, 3, 4, 5, 6, 7, 8, 0] rfl)
                                exact lp251 _ 0 f2 _ _ (by omega) (a2.word (by omega) (fun k a b => zRep_lo (by omega))) (alo) (hX) (hS) (Nat.lt_succ_self _) _ (lv_sub hl [4, 5, 3, 6, 7, 8, 2, 1, 0] rfl)
                              · refine lv_iload_n hx hb dX10_reads_246 rfl (lv_at hl 2 rfl) ?_
                                exact zw_i hx hb hr hlocks hS dX10_reads_247 (⟨_, rfl, (zFl_here s7 (by omega) (fun z => ⟨fun v => by omega, fun v => Or.inr (by rw [← hgq, show gt (q + 0) - 48 = x from ex.symm, zSub1_mul, ← em]; omega), fun v => by omega, fun v => by omega⟩) (fun v => by omega)).symm, by omega, by omega, _, _, _, hX, hm.scr hR.1 alo, hgt, fun z => absurd z (by omega)⟩)
                        · exfalso; omega
                      · exfalso; omega
                    · refine lv_iload_n hx hb dX10_reads_148 rfl (lv_at hl 2 rfl) ?_
                      exact zw_i hx hb hr hlocks hS dX10_reads_149 (⟨_, rfl, (zFl_here a1 (by omega) (fun z => ⟨hex z, fun v => Or.inl (Classical.byContradiction fun v2 => a4 (by omega) v2 (by omega) (by rw [← show q = i by omega]; exact v)), fun v => absurd v (by rw [show q = i by omega]; exact n40 (by omega)), fun _ => Or.inl rfl⟩) (fun z => Or.inr (by have := h0.2.2.2 (by omega); omega))).symm, by omega, by omega, _, _, _, hX, hm.scr hR.1 alo, hgt, fun z => absurd z (by omega)⟩)
                  · refine lv_aload_n hx hb dX10_reads_82 rfl (lv_at hl 0 rfl) ?_
                    refine va_get (D := g.1) (ci := 5) (v := .ref sa) (C := RX10) (T := TX10) (N := 6) hx hb hts mX10_reads_0 hown hK (hX.gy) 0 rfl rfl 0 (by decide) (hts _ mX10_reads_1) (fun _ h9 => h9) rfl dX10_reads_83 ?_
                    refine lv_iload_n hx hb dX10_reads_86 rfl (lv_at hl 1 rfl) ?_
                    refine zy_ild hx hb hK hX (by omega) dX10_reads_87 ?_
                    refine zv_bipush hx hb dX10_reads_88 (by decide +kernel) ?_
                    refine zv_icmp_ge (tgt := 142) hx hb dX10_reads_90 (by decide) (by omega) (by omega) (fun c90 => ?_) (fun c90 => ?_)
                    · have hex : q < tn → 97 ≤ tc q ∧ tc q ≤ 122 → 40 ≤ vn2 := fun _ _ => by omega
                      refine lv_iload_n hx hb dX10_reads_142 rfl (lv_at hl 2 rfl) ?_
                      refine lv_iload hx hb dX10_reads_143 (lv_at hl 5 rfl) ?_
                      refine zv_icmp_ne (tgt := 150) hx hb dX10_reads_145 (by decide) (by omega) (by omega) (fun c145 => ?_) (fun c145 => ?_)
                      · refine lv_iload hx hb dX10_reads_150 (lv_at hl 4 rfl) ?_
                        refine zv_if_eq (tgt := 176) hx hb dX10_reads_152 (by decide) (by omega) (fun c152 => ?_) (fun c152 => ?_)
                        · refine lv_iload_n hx hb dX10_reads_176 rfl (lv_at hl 2 rfl) ?_
                          refine lv_iload hx hb dX10_reads_177 (lv_at hl 4 rfl) ?_
                          refine zv_if_eq (tgt := 186) hx hb dX10_reads_179 (by decide) (by omega) (fun c179 => ?_) (fun c179 => ?_)
                          · refine zv_iconst hx hb dX10_reads_186 ?_
                            refine zv_iadd hx hb dX10_reads_187 ?_
                            refine lv_istore_n (lv' := [(2, .int (zI (q + 0))), (0, .ref y), (1, .int (zI 246)), (3, .int (zI vn1)), (4, .int (zI 0)), (5, .int (zI (i + 0)))]) hx hb dX10_reads_188 rfl hl (by decide) rfl (fun ls hl => ?_)
                            have eq1 : q = i + 1 := by omega
                            have s7 : zSt tc (q + 0).toNat = some (v2, vn2, vn1, 0, 1) := by rw [show q + 0 = q by omega, a1, (a3 eq1).1, (a3 eq1).2]
                            refine lv_aload_n hx hb dX10_reads_189 rfl (lv_at hl 1 rfl) ?_
                            refine va_get (D := g.1) (ci := 5) (v := .ref sa) (C := RX10) (T := TX10) (N := 6) hx hb hts mX10_reads_0 hown hK (hX.gy) 0 rfl rfl 0 (by decide) (hts _ mX10_reads_1) (fun _ h9 => h9) rfl dX10_reads_190 ?_
                            refine lv_iload_n hx hb dX10_reads_193 rfl (lv_at hl 2 rfl) ?_
                            refine zy_ild hx hb hK hX (by omega) dX10_reads_194 ?_
                            rw [l2]
                            refine lv_iload_n hx hb dX10_reads_195 rfl (lv_at hl 3 rfl) ?_
                            refine zv_isub hx hb dX10_reads_196 ?_
                            refine lv_istore (lv' := [(6, .int (zI (vn2 - vn1))), (2, .int (zI (q + 0))), (0, .ref y), (1, .int (zI 246)), (3, .int (zI vn1)), (4, .int (zI 0)), (5, .int (zI (i + 0)))]) hx hb dX10_reads_197 hl (by decide) rfl (fun ls hl => ?_)
                            refine lv_iload_n hx hb dX10_reads_199 rfl (lv_at hl 1 rfl) ?_
                            refine lv_aload_n hx hb dX10_reads_200 rfl (lv_at hl 2 rfl) ?_
                            refine va_get (D := g.1) (ci := 5) (v := .int (zI tn)) (C := RX10) (T := TX10) (N := 6) hx hb hts mX10_reads_0 hown hK (hX.gy) 0 rfl rfl 4 (by decide) (hts _ mX10_reads_2) (fun _ h9 => h9) rfl dX10_reads_201 ?_
                            refine zv_icmp_ge (tgt := 311) hx hb dX10_reads_204 (by decide) (by omega) (by omega) (fun c204 => ?_) (fun c204 => ?_)
                            · refine lv_goto (tgt := 13) hx hb dX10_reads_311 (by decide) ?_
                              exact ih13 (q + 0) f2 v2 vn2 vn1 1 _ _ (by omega) (s7) (a2) (fun _ z y => by first | omega | exact c220 (by rw [← hgt _ (by omega) z] at y; exact y)) (alo) (hX) (hS) (by omega) _ (lv_sub hl [2, 3, 1] rfl)
                            · refine lv_aload_n hx hb dX10_reads_207 rfl (lv_at hl 2 rfl) ?_
                              refine va_get (D := g.1) (ci := 5) (v := .ref ta) (C := RX10) (T := TX10) (N := 6) hx hb hts mX10_reads_0 hown hK (hX.gy) 0 rfl rfl 3 (by decide) (hts _ mX10_reads_3) (fun _ h9 => h9) rfl dX10_reads_208 ?_
                              refine lv_iload_n hx hb dX10_reads_211 rfl (lv_at hl 1 rfl) ?_
                              refine zy_tld hx hb hK hX (by omega) dX10_reads_212 ?_
                              have g8 := hX.gg (k := q + 0) (by omega)
                              refine zv_bipush hx hb dX10_reads_213 (by decide +kernel) ?_
                              refine zv_bipush hx hb dX10_reads_215 (by decide +kernel) ?_
                              refine zc_S (As := [.int (zI (gt (q + 0))), .int (zI 50), .int (zI 57)]) (rest := []) S hK (kX10_in l g (gt (q + 0)) 50 57 (by omega) (by omega) (by omega)) (va_cwS 3 hts gX10_reads_X10_in rfl rfl rfl (by decide +kernel) ⟨Nat.le_of_ble_eq_true rfl, Nat.le_of_ble_eq_true rfl⟩) (trivial) rfl hl.1 rfl (Nat.le_of_ble_eq_true rfl) dX10_reads_217 ⟨Nat.zero_le _, Nat.zero_le _⟩ (fun r217 hr217 => ?_)
                              obtain rfl := hr217
                              refine zv_ifB_eq (tgt := 311) hx hb dX10_reads_220 (by decide) (fun c220 => ?_) (fun c220 => ?_)
                              · refine lv_goto (tgt := 13) hx hb dX10_reads_311 (by decide) ?_
                                exact ih13 (q + 0) f2 v2 vn2 vn1 1 _ _ (by omega) (s7) (a2) (fun _ z y => by first | omega | exact c220 (by rw [← hgt _ (by omega) z] at y; exact y)) (alo) (hX) (hS) (by omega) _ (lv_sub hl [2, 3, 1] rfl)
                              · refine lv_aload_n hx hb dX10_reads_223 rfl (lv_at hl 2 rfl) ?_
                                refine va_get (D := g.1) (ci := 5) (v := .ref ta) (C := RX10) (T := TX10) (N := 6) hx hb hts mX10_reads_0 hown hK (hX.gy) 0 rfl rfl 3 (by decide) (hts _ mX10_reads_3) (fun _ h9 => h9) rfl dX10_reads_224 ?_
                                refine lv_iload_n hx hb dX10_reads_227 rfl (lv_at hl 1 rfl) ?_
                                refine zy_tld hx hb hK hX (by omega) dX10_reads_228 ?_
                                refine zv_bipush hx hb dX10_reads_229 (by decide +kernel) ?_
                                refine zv_isub hx hb dX10_reads_231 ?_
                                obtain ⟨x, ex⟩ : ∃ x, x = gt (q + 0) - 48 := ⟨_, rfl⟩
                                rw [← ex]
                                obtain ⟨mm, em⟩ : ∃ m, m = x * (vn2 - vn1) := ⟨_, rfl⟩
                                have hgq := hgt (q + 0) (by omega) (by omega)
                                have bm := zMulBd9 (a := x) (b := vn2 - vn1) (by omega) (by omega)
                                rw [← em] at bm
                                have bm2 := Int.mul_nonneg (show 0 ≤ x - 1 by omega) (show 0 ≤ vn2 - vn1 by omega)
                                rw [zSub1_mul, ← em] at bm2
                                refine lv_istore (lv' := [(7, .int (zI x)), (6, .int (zI (vn2 - vn1))), (2, .int (zI (q + 0))), (0, .ref y), (1, .int (zI 246)), (3, .int (zI vn1)), (4, .int (zI 0)), (5, .int (zI (i + 0)))]) hx hb dX10_reads_232 hl (by decide) rfl (fun ls hl => ?_)
                                refine lv_iload_n hx hb dX10_reads_234 rfl (lv_at hl 5 rfl) ?_
                                refine lv_iload hx hb dX10_reads_235 (lv_at hl 0 rfl) ?_
                                refine lv_iload hx hb dX10_reads_237 (lv_at hl 1 rfl) ?_
                                refine zv_imul hx hb dX10_reads_239 ?_
                                rw [← em]
                                refine zv_iadd hx hb dX10_reads_240 ?_
                                refine zv_bipush hx hb dX10_reads_241 (by decide +kernel) ?_
                                refine zv_icmp_le (tgt := 248) hx hb dX10_reads_243 (by decide) (by omega) (by omega) (fun c243 => ?_) (fun c243 => ?_)
                                · refine zv_iconst hx hb dX10_reads_248 ?_
                                  refine lv_istore (lv' := [(8, .int (zI 0)), (7, .int (zI x)), (6, .int (zI (vn2 - vn1))), (2, .int (zI (q + 0))), (0, .ref y), (1, .int (zI 246)), (3, .int (zI vn1)), (4, .int (zI 0)), (5, .int (zI (i + 0)))]) hx hb dX10_reads_249 hl (by decide) rfl (fun ls hl => ?_)
                                  have lp251 : ∀ (z_f : Nat) (j : Int) (f3 : Int → Int) (H1 : Heap) (locs : List Loc), (0 ≤ j ∧ j ≤ mm - (vn2 - vn1)) → (SL f3 246 (zRep v2 vn2 vn1) (vn2 + j)) → (∀ k, 0 ≤ k → k < 246 → f3 k = f k) → (RM g y sa ta oa f3 gt od hc hs tn H1) → (va_S (zA4 y sa ta oa) s.heap H1 locs) → ((mm - (vn2 - vn1) - j).toNat) < z_f → ∀ (ls : Array Slot), lv_has ls 9 [(0, .ref y), (1, .int (zI 246)), (2, .int (zI (q + 0))), (3, .int (zI vn1)), (4, .int (zI 0)), (5, .int (zI (i + 0))), (6, .int (zI (vn2 - vn1))), (7, .int (zI x)), (8, .int (zI j))] → W p l e (zRm 2 43) s m args below meth c H1 locs 0 0 (MQ below (zQi (fun r H => ∃ z : Int, r = zI z ∧ z = zFl tc tn ∧ -1 ≤ z ∧ z ≤ 60 ∧ ∃ f gt od : Int → Int, RM g y sa ta oa f gt od hc hs tn H ∧ MF f w n ee en hc u un hs ∧ (∀ k, 0 ≤ k → k < tn → gt k = tc k) ∧ (z = -1 → SL f 246 (zLdS tc tn).1 (zLdS tc tn).2.1)) (zA4 y sa ta oa)) args s 0 0 (zA4 y sa ta oa)) (F0 m 251 ls []) := by
                                    intro z_f
                                    induction z_f with
                                    | zero => intro j f3 H1 locs b0 b1 blo hX hS z_m; exact absurd z_m (Nat.not_lt_zero _)
                                    | succ z_f ih251 =>
                                      intro j f3 H1 locs b0 b1 blo hX hS z_m251 ls hl
                                      have l3 := b1.1
                                      have nb3 := b1.2.1
                                      refine lv_iload hx hb dX10_reads_251 (lv_at hl 8 rfl) ?_
                                      refine lv_iload hx hb dX10_reads_253 (lv_at hl 7 rfl) ?_
                                      refine zv_iconst hx hb dX10_reads_255 ?_
                                      refine zv_isub hx hb dX10_reads_256 ?_
                                      refine lv_iload hx hb dX10_reads_257 (lv_at hl 6 rfl) ?_
                                      refine zv_imul hx hb dX10_reads_259 ?_
                                      rw [show (x - 1) * (vn2 - vn1) = mm - (vn2 - vn1) by rw [zSub1_mul, ← em]]
                                      refine zv_icmp_ge (tgt := 308) hx hb dX10_reads_260 (by decide) (by omega) (by omega) (fun c260 => ?_) (fun c260 => ?_)
                                      · refine zv_iinc (lv' := [(2, .int (zI (q + 0 + 1))), (0, .ref y), (1, .int (zI 246)), (3, .int (zI vn1)), (4, .int (zI 0)), (5, .int (zI (i + 0))), (6, .int (zI (vn2 - vn1))), (7, .int (zI x)), (8, .int (zI j))]) hx hb dX10_reads_308 hl (k := 2) rfl (by decide) rfl (fun ls hl => ?_)
                                        refine lv_goto (tgt := 13) hx hb dX10_reads_311 (by decide) ?_
                                        exact ih13 (q + 0 + 1) f3 (zRep v2 vn2 vn1) (vn2 + j) vn1 0 _ _ (by omega) (by
                                          have ej : vn2 + j = vn2 + (tc (q + 0) - 48 - 1) * (vn2 - vn1) := by rw [← hgq, show gt (q + 0) - 48 = x from ex.symm, zSub1_mul, ← em]; omega
                                          rw [zSt_next (by omega) s7, ej]
                                          exact zTk_dig (by omega) rfl (by omega)) (b1) (fun z => absurd rfl z) (blo) (hX) (hS) (by omega) _ (lv_sub hl [1, 2, 0] rfl)
                                      · refine lv_aload_n hx hb dX10_reads_263 rfl (lv_at hl 0 rfl) ?_
                                        refine va_get (D := g.1) (ci := 5) (v := .ref sa) (C := RX10) (T := TX10) (N := 6) hx hb hts mX10_reads_0 hown hK (hX.gy) 0 rfl rfl 0 (by decide) (hts _ mX10_reads_1) (fun _ h9 => h9) rfl dX10_reads_264 ?_
                                        refine lv_iload_n hx hb dX10_reads_267 rfl (lv_at hl 1 rfl) ?_
                                        refine lv_dup2_11 hx hb dX10_reads_268 rfl rfl ?_
                                        refine zy_ild hx hb hK hX (by omega) dX10_reads_269 ?_
                                        refine zv_iconst hx hb dX10_reads_270 ?_
                                        refine zv_iadd hx hb dX10_reads_271 ?_
                                        refine zy_ist hx hb hK hX hS (by omega) (by omega) dX10_reads_272 (fun H1 locs hX hS => ?_)
                                        obtain ⟨f272, e272⟩ : ∃ z9, z9 = zApp f3 246 ((f3 246) + 1) := ⟨_, rfl⟩
                                        rw [← e272] at hX
                                        have r272 : f272 246 = (f3 246) + 1 := by rw [e272]; exact zApp_eq _ _ _
                                        have q272 : ∀ x9, x9 ≠ 246 → f272 x9 = f3 x9 := fun x9 h => by rw [e272]; exact zApp_ne h
                                        have l272 : f272 246 = vn2 + j + 1 := by omega
                                        refine lv_aload_n hx hb dX10_reads_273 rfl (lv_at hl 0 rfl) ?_
                                        refine va_get (D := g.1) (ci := 5) (v := .ref sa) (C := RX10) (T := TX10) (N := 6) hx hb hts mX10_reads_0 hown hK (hX.gy) 0 rfl rfl 0 (by decide) (hts _ mX10_reads_1) (fun _ h9 => h9) rfl dX10_reads_274 ?_
                                        refine lv_iload_n hx hb dX10_reads_277 rfl (lv_at hl 1 rfl) ?_
                                        refine lv_aload_n hx hb dX10_reads_278 rfl (lv_at hl 0 rfl) ?_
                                        refine va_get (D := g.1) (ci := 5) (v := .ref sa) (C := RX10) (T := TX10) (N := 6) hx hb hts mX10_reads_0 hown hK (hX.gy) 0 rfl rfl 0 (by decide) (hts _ mX10_reads_1) (fun _ h9 => h9) rfl dX10_reads_279 ?_
                                        refine lv_iload_n hx hb dX10_reads_282 rfl (lv_at hl 1 rfl) ?_
                                        refine zy_ild hx hb hK hX (by omega) dX10_reads_283 ?_
                                        refine zv_iadd hx hb dX10_reads_284 ?_
                                        refine lv_aload_n hx hb dX10_reads_285 rfl (lv_at hl 0 rfl) ?_
                                        refine va_get (D := g.1) (ci := 5) (v := .ref sa) (C := RX10) (T := TX10) (N := 6) hx hb hts mX10_reads_0 hown hK (hX.gy) 0 rfl rfl 0 (by decide) (hts _ mX10_reads_1) (fun _ h9 => h9) rfl dX10_reads_286 ?_
                                        refine lv_iload_n hx hb dX10_reads_289 rfl (lv_at hl 1 rfl) ?_
                                        refine lv_aload_n hx hb dX10_reads_290 rfl (lv_at hl 0 rfl) ?_
                                        refine va_get (D := g.1) (ci := 5) (v := .ref sa) (C := RX10) (T := TX10) (N := 6) hx hb hts mX10_reads_0 hown hK (hX.gy) 0 rfl rfl 0 (by decide) (hts _ mX10_reads_1) (fun _ h9 => h9) rfl dX10_reads_291 ?_
                                        refine lv_iload_n hx hb dX10_reads_294 rfl (lv_at hl 1 rfl) ?_
                                        refine zy_ild hx hb hK hX (by omega) dX10_reads_295 ?_
                                        refine zv_iadd hx hb dX10_reads_296 ?_
                                        refine lv_iload hx hb dX10_reads_297 (lv_at hl 6 rfl) ?_
                                        refine zv_isub hx hb dX10_reads_299 ?_
                                        refine zy_ild hx hb hK hX (by omega) dX10_reads_300 ?_
                                        refine zy_ist hx hb hK hX hS (by omega) (hX.gf (by omega)) dX10_reads_301 (fun H1 locs hX hS => ?_)
                                        obtain ⟨f301, e301⟩ : ∃ z9, z9 = zApp f272 (246 + (f272 246)) (f272 ((246 + (f272 246)) - (vn2 - vn1))) := ⟨_, rfl⟩
                                        rw [← e301] at hX
                                        have r301 : f301 (246 + (f272 246)) = f272 ((246 + (f272 246)) - (vn2 - vn1)) := by rw [e301]; exact zApp_eq _ _ _
                                        have q301 : ∀ x9, x9 ≠ 246 + (f272 246) → f301 x9 = f272 x9 := fun x9 h => by rw [e301]; exact zApp_ne h
                                        refine zv_iinc (lv' := [(8, .int (zI (j + 1))), (0, .ref y), (1, .int (zI 246)), (2, .int (zI (q + 0))), (3, .int (zI vn1)), (4, .int (zI 0)), (5, .int (zI (i + 0))), (6, .int (zI (vn2 - vn1))), (7, .int (zI x))]) hx hb dX10_reads_302 hl (k := 8) rfl (by decide) rfl (fun ls hl => ?_)
                                        refine lv_goto (tgt := 251) hx hb dX10_reads_305 (by decide) ?_
                                        exact ih251 (j + 1) f301 _ _ (by omega) (((b1.app (x := zRep v2 vn2 vn1 (vn2 + j)) (f2 := f301) (by omega) (zRep_bd ⟨by omega, by omega⟩ (fun k a b => (a2.2.2 k a b).2) _ (by omega)) (by rw [q301 246 (by omega), r272, l3]) (by rw [show (246 : Int) + 1 + (vn2 + j) = 246 + f272 246 by omega, r301, q272 _ (by omega), show 246 + f272 246 - (vn2 - vn1) = 246 + 1 + (vn2 + j - (vn2 - vn1)) by omega, (b1.2.2 (vn2 + j - (vn2 - vn1)) (by omega) (by omega)).1]; exact zRep_per ⟨by omega, by omega⟩ (by omega)) (fun k a b => by rw [q301 k (by omega), q272 k (by omega)])).word (n2 := vn2 + (j + 1)) (by omega) (fun k a b => zApp_self))) (fun k a b => by rw [q301 k (by omega), q272 k (by omega)]; exact blo k a b) (hX) (hS) (by omega) _ (lv_sub hl [1, 2, 3, 4, 5, 6, 7, 8, 0] rfl)
                                  exact lp251 _ 0 f2 _ _ (by omega) (a2.word (by omega) (fun k a b => zRep_lo (by omega))) (alo) (hX) (hS) (Nat.lt_succ_self _) _ (lv_sub hl [4, 5, 3, 6, 7, 8, 2, 1, 0] rfl)
                                · refine lv_iload_n hx hb dX10_reads_246 rfl (lv_at hl 2 rfl) ?_
                                  exact zw_i hx hb hr hlocks hS dX10_reads_247 (⟨_, rfl, (zFl_here s7 (by omega) (fun z => ⟨fun v => by omega, fun v => Or.inr (by rw [← hgq, show gt (q + 0) - 48 = x from ex.symm, zSub1_mul, ← em]; omega), fun v => by omega, fun v => by omega⟩) (fun v => by omega)).symm, by omega, by omega, _, _, _, hX, hm.scr hR.1 alo, hgt, fun z => absurd z (by omega)⟩)
                          · exfalso; omega
                        · exfalso; omega
                      · refine lv_iload_n hx hb dX10_reads_148 rfl (lv_at hl 2 rfl) ?_
                        exact zw_i hx hb hr hlocks hS dX10_reads_149 (⟨_, rfl, (zFl_here a1 (by omega) (fun z => ⟨hex z, fun v => Or.inl (Classical.byContradiction fun v2 => a4 (by omega) v2 (by omega) (by rw [← show q = i by omega]; exact v)), fun v => absurd v (by rw [show q = i by omega]; exact n40 (by omega)), fun _ => Or.inl rfl⟩) (fun z => Or.inr (by have := h0.2.2.2 (by omega); omega))).symm, by omega, by omega, _, _, _, hX, hm.scr hR.1 alo, hgt, fun z => absurd z (by omega)⟩)
                    · refine lv_iload hx hb dX10_reads_93 (lv_at hl 4 rfl) ?_
                      refine zv_if_ne (tgt := 104) hx hb dX10_reads_95 (by decide) (by omega) (fun c95 => ?_) (fun c95 => ?_)
                      · exfalso; omega
                      · have hgq := hgt q (by omega) (by omega)
                        refine lv_iload_n hx hb dX10_reads_98 rfl (lv_at hl 2 rfl) ?_
                        refine lv_iload hx hb dX10_reads_99 (lv_at hl 5 rfl) ?_
                        refine zv_icmp_ne (tgt := 142) hx hb dX10_reads_101 (by decide) (by omega) (by omega) (fun c101 => ?_) (fun c101 => ?_)
                        · refine lv_iload_n hx hb dX10_reads_142 rfl (lv_at hl 2 rfl) ?_
                          refine lv_iload hx hb dX10_reads_143 (lv_at hl 5 rfl) ?_
                          refine zv_icmp_ne (tgt := 150) hx hb dX10_reads_145 (by decide) (by omega) (by omega) (fun c145 => ?_) (fun c145 => ?_)
                          · refine lv_iload hx hb dX10_reads_150 (lv_at hl 4 rfl) ?_
                            refine zv_if_eq (tgt := 176) hx hb dX10_reads_152 (by decide) (by omega) (fun c152 => ?_) (fun c152 => ?_)
                            · refine lv_iload_n hx hb dX10_reads_176 rfl (lv_at hl 2 rfl) ?_
                              refine lv_iload hx hb dX10_reads_177 (lv_at hl 4 rfl) ?_
                              refine zv_if_eq (tgt := 186) hx hb dX10_reads_179 (by decide) (by omega) (fun c179 => ?_) (fun c179 => ?_)
                              · refine zv_iconst hx hb dX10_reads_186 ?_
                                refine zv_iadd hx hb dX10_reads_187 ?_
                                refine lv_istore_n (lv' := [(2, .int (zI (q + 0))), (0, .ref y), (1, .int (zI 246)), (3, .int (zI vn1)), (4, .int (zI 0)), (5, .int (zI (i + 0)))]) hx hb dX10_reads_188 rfl hl (by decide) rfl (fun ls hl => ?_)
                                have eq1 : q = i + 1 := by omega
                                have s7 : zSt tc (q + 0).toNat = some (v2, vn2, vn1, 0, 1) := by rw [show q + 0 = q by omega, a1, (a3 eq1).1, (a3 eq1).2]
                                refine lv_aload_n hx hb dX10_reads_189 rfl (lv_at hl 1 rfl) ?_
                                refine va_get (D := g.1) (ci := 5) (v := .ref sa) (C := RX10) (T := TX10) (N := 6) hx hb hts mX10_reads_0 hown hK (hX.gy) 0 rfl rfl 0 (by decide) (hts _ mX10_reads_1) (fun _ h9 => h9) rfl dX10_reads_190 ?_
                                refine lv_iload_n hx hb dX10_reads_193 rfl (lv_at hl 2 rfl) ?_
                                refine zy_ild hx hb hK hX (by omega) dX10_reads_194 ?_
                                rw [l2]
                                refine lv_iload_n hx hb dX10_reads_195 rfl (lv_at hl 3 rfl) ?_
                                refine zv_isub hx hb dX10_reads_196 ?_
                                refine lv_istore (lv' := [(6, .int (zI (vn2 - vn1))), (2, .int (zI (q + 0))), (0, .ref y), (1, .int (zI 246)), (3, .int (zI vn1)), (4, .int (zI 0)), (5, .int (zI (i + 0)))]) hx hb dX10_reads_197 hl (by decide) rfl (fun ls hl => ?_)
                                refine lv_iload_n hx hb dX10_reads_199 rfl (lv_at hl 1 rfl) ?_
                                refine lv_aload_n hx hb dX10_reads_200 rfl (lv_at hl 2 rfl) ?_
                                refine va_get (D := g.1) (ci := 5) (v := .int (zI tn)) (C := RX10) (T := TX10) (N := 6) hx hb hts mX10_reads_0 hown hK (hX.gy) 0 rfl rfl 4 (by decide) (hts _ mX10_reads_2) (fun _ h9 => h9) rfl dX10_reads_201 ?_
                                refine zv_icmp_ge (tgt := 311) hx hb dX10_reads_204 (by decide) (by omega) (by omega) (fun c204 => ?_) (fun c204 => ?_)
                                · refine lv_goto (tgt := 13) hx hb dX10_reads_311 (by decide) ?_
                                  exact ih13 (q + 0) f2 v2 vn2 vn1 1 _ _ (by omega) (s7) (a2) (fun _ z y => by first | omega | exact c220 (by rw [← hgt _ (by omega) z] at y; exact y)) (alo) (hX) (hS) (by omega) _ (lv_sub hl [2, 3, 1] rfl)
                                · refine lv_aload_n hx hb dX10_reads_207 rfl (lv_at hl 2 rfl) ?_
                                  refine va_get (D := g.1) (ci := 5) (v := .ref ta) (C := RX10) (T := TX10) (N := 6) hx hb hts mX10_reads_0 hown hK (hX.gy) 0 rfl rfl 3 (by decide) (hts _ mX10_reads_3) (fun _ h9 => h9) rfl dX10_reads_208 ?_
                                  refine lv_iload_n hx hb dX10_reads_211 rfl (lv_at hl 1 rfl) ?_
                                  refine zy_tld hx hb hK hX (by omega) dX10_reads_212 ?_
                                  have g8 := hX.gg (k := q + 0) (by omega)
                                  refine zv_bipush hx hb dX10_reads_213 (by decide +kernel) ?_
                                  refine zv_bipush hx hb dX10_reads_215 (by decide +kernel) ?_
                                  refine zc_S (As := [.int (zI (gt (q + 0))), .int (zI 50), .int (zI 57)]) (rest := []) S hK (kX10_in l g (gt (q + 0)) 50 57 (by omega) (by omega) (by omega)) (va_cwS 3 hts gX10_reads_X10_in rfl rfl rfl (by decide +kernel) ⟨Nat.le_of_ble_eq_true rfl, Nat.le_of_ble_eq_true rfl⟩) (trivial) rfl hl.1 rfl (Nat.le_of_ble_eq_true rfl) dX10_reads_217 ⟨Nat.zero_le _, Nat.zero_le _⟩ (fun r217 hr217 => ?_)
                                  obtain rfl := hr217
                                  refine zv_ifB_eq (tgt := 311) hx hb dX10_reads_220 (by decide) (fun c220 => ?_) (fun c220 => ?_)
                                  · refine lv_goto (tgt := 13) hx hb dX10_reads_311 (by decide) ?_
                                    exact ih13 (q + 0) f2 v2 vn2 vn1 1 _ _ (by omega) (s7) (a2) (fun _ z y => by first | omega | exact c220 (by rw [← hgt _ (by omega) z] at y; exact y)) (alo) (hX) (hS) (by omega) _ (lv_sub hl [2, 3, 1] rfl)
                                  · refine lv_aload_n hx hb dX10_reads_223 rfl (lv_at hl 2 rfl) ?_
                                    refine va_get (D := g.1) (ci := 5) (v := .ref ta) (C := RX10) (T := TX10) (N := 6) hx hb hts mX10_reads_0 hown hK (hX.gy) 0 rfl rfl 3 (by decide) (hts _ mX10_reads_3) (fun _ h9 => h9) rfl dX10_reads_224 ?_
                                    refine lv_iload_n hx hb dX10_reads_227 rfl (lv_at hl 1 rfl) ?_
                                    refine zy_tld hx hb hK hX (by omega) dX10_reads_228 ?_
                                    refine zv_bipush hx hb dX10_reads_229 (by decide +kernel) ?_
                                    refine zv_isub hx hb dX10_reads_231 ?_
                                    obtain ⟨x, ex⟩ : ∃ x, x = gt (q + 0) - 48 := ⟨_, rfl⟩
                                    rw [← ex]
                                    obtain ⟨mm, em⟩ : ∃ m, m = x * (vn2 - vn1) := ⟨_, rfl⟩
                                    have hgq := hgt (q + 0) (by omega) (by omega)
                                    have bm := zMulBd9 (a := x) (b := vn2 - vn1) (by omega) (by omega)
                                    rw [← em] at bm
                                    have bm2 := Int.mul_nonneg (show 0 ≤ x - 1 by omega) (show 0 ≤ vn2 - vn1 by omega)
                                    rw [zSub1_mul, ← em] at bm2
                                    refine lv_istore (lv' := [(7, .int (zI x)), (6, .int (zI (vn2 - vn1))), (2, .int (zI (q + 0))), (0, .ref y), (1, .int (zI 246)), (3, .int (zI vn1)), (4, .int (zI 0)), (5, .int (zI (i + 0)))]) hx hb dX10_reads_232 hl (by decide) rfl (fun ls hl => ?_)
                                    refine lv_iload_n hx hb dX10_reads_234 rfl (lv_at hl 5 rfl) ?_
                                    refine lv_iload hx hb dX10_reads_235 (lv_at hl 0 rfl) ?_
                                    refine lv_iload hx hb dX10_reads_237 (lv_at hl 1 rfl) ?_
                                    refine zv_imul hx hb dX10_reads_239 ?_
                                    rw [← em]
                                    refine zv_iadd hx hb dX10_reads_240 ?_
                                    refine zv_bipush hx hb dX10_reads_241 (by decide +kernel) ?_
                                    refine zv_icmp_le (tgt := 248) hx hb dX10_reads_243 (by decide) (by omega) (by omega) (fun c243 => ?_) (fun c243 => ?_)
                                    · refine zv_iconst hx hb dX10_reads_248 ?_
                                      refine lv_istore (lv' := [(8, .int (zI 0)), (7, .int (zI x)), (6, .int (zI (vn2 - vn1))), (2, .int (zI (q + 0))), (0, .ref y), (1, .int (zI 246)), (3, .int (zI vn1)), (4, .int (zI 0)), (5, .int (zI (i + 0)))]) hx hb dX10_reads_249 hl (by decide) rfl (fun ls hl => ?_)
                                      have lp251 : ∀ (z_f : Nat) (j : Int) (f3 : Int → Int) (H1 : Heap) (locs : List Loc), (0 ≤ j ∧ j ≤ mm - (vn2 - vn1)) → (SL f3 246 (zRep v2 vn2 vn1) (vn2 + j)) → (∀ k, 0 ≤ k → k < 246 → f3 k = f k) → (RM g y sa ta oa f3 gt od hc hs tn H1) → (va_S (zA4 y sa ta oa) s.heap H1 locs) → ((mm - (vn2 - vn1) - j).toNat) < z_f → ∀ (ls : Array Slot), lv_has ls 9 [(0, .ref y), (1, .int (zI 246)), (2, .int (zI (q + 0))), (3, .int (zI vn1)), (4, .int (zI 0)), (5, .int (zI (i + 0))), (6, .int (zI (vn2 - vn1))), (7, .int (zI x)), (8, .int (zI j))] → W p l e (zRm 2 43) s m args below meth c H1 locs 0 0 (MQ below (zQi (fun r H => ∃ z : Int, r = zI z ∧ z = zFl tc tn ∧ -1 ≤ z ∧ z ≤ 60 ∧ ∃ f gt od : Int → Int, RM g y sa ta oa f gt od hc hs tn H ∧ MF f w n ee en hc u un hs ∧ (∀ k, 0 ≤ k → k < tn → gt k = tc k) ∧ (z = -1 → SL f 246 (zLdS tc tn).1 (zLdS tc tn).2.1)) (zA4 y sa ta oa)) args s 0 0 (zA4 y sa ta oa)) (F0 m 251 ls []) := by
                                        intro z_f
                                        induction z_f with
                                        | zero => intro j f3 H1 locs b0 b1 blo hX hS z_m; exact absurd z_m (Nat.not_lt_zero _)
                                        | succ z_f ih251 =>
                                          intro j f3 H1 locs b0 b1 blo hX hS z_m251 ls hl
                                          have l3 := b1.1
                                          have nb3 := b1.2.1
                                          refine lv_iload hx hb dX10_reads_251 (lv_at hl 8 rfl) ?_
                                          refine lv_iload hx hb dX10_reads_253 (lv_at hl 7 rfl) ?_
                                          refine zv_iconst hx hb dX10_reads_255 ?_
                                          refine zv_isub hx hb dX10_reads_256 ?_
                                          refine lv_iload hx hb dX10_reads_257 (lv_at hl 6 rfl) ?_
                                          refine zv_imul hx hb dX10_reads_259 ?_
                                          rw [show (x - 1) * (vn2 - vn1) = mm - (vn2 - vn1) by rw [zSub1_mul, ← em]]
                                          refine zv_icmp_ge (tgt := 308) hx hb dX10_reads_260 (by decide) (by omega) (by omega) (fun c260 => ?_) (fun c260 => ?_)
                                          · refine zv_iinc (lv' := [(2, .int (zI (q + 0 + 1))), (0, .ref y), (1, .int (zI 246)), (3, .int (zI vn1)), (4, .int (zI 0)), (5, .int (zI (i + 0))), (6, .int (zI (vn2 - vn1))), (7, .int (zI x)), (8, .int (zI j))]) hx hb dX10_reads_308 hl (k := 2) rfl (by decide) rfl (fun ls hl => ?_)
                                            refine lv_goto (tgt := 13) hx hb dX10_reads_311 (by decide) ?_
                                            exact ih13 (q + 0 + 1) f3 (zRep v2 vn2 vn1) (vn2 + j) vn1 0 _ _ (by omega) (by
                                              have ej : vn2 + j = vn2 + (tc (q + 0) - 48 - 1) * (vn2 - vn1) := by rw [← hgq, show gt (q + 0) - 48 = x from ex.symm, zSub1_mul, ← em]; omega
                                              rw [zSt_next (by omega) s7, ej]
                                              exact zTk_dig (by omega) rfl (by omega)) (b1) (fun z => absurd rfl z) (blo) (hX) (hS) (by omega) _ (lv_sub hl [1, 2, 0] rfl)
                                          · refine lv_aload_n hx hb dX10_reads_263 rfl (lv_at hl 0 rfl) ?_
                                            refine va_get (D := g.1) (ci := 5) (v := .ref sa) (C := RX10) (T := TX10) (N := 6) hx hb hts mX10_reads_0 hown hK (hX.gy) 0 rfl rfl 0 (by decide) (hts _ mX10_reads_1) (fun _ h9 => h9) rfl dX10_reads_264 ?_
                                            refine lv_iload_n hx hb dX10_reads_267 rfl (lv_at hl 1 rfl) ?_
                                            refine lv_dup2_11 hx hb dX10_reads_268 rfl rfl ?_
                                            refine zy_ild hx hb hK hX (by omega) dX10_reads_269 ?_
                                            refine zv_iconst hx hb dX10_reads_270 ?_
                                            refine zv_iadd hx hb dX10_reads_271 ?_
                                            refine zy_ist hx hb hK hX hS (by omega) (by omega) dX10_reads_272 (fun H1 locs hX hS => ?_)
                                            obtain ⟨f272, e272⟩ : ∃ z9, z9 = zApp f3 246 ((f3 246) + 1) := ⟨_, rfl⟩
                                            rw [← e272] at hX
                                            have r272 : f272 246 = (f3 246) + 1 := by rw [e272]; exact zApp_eq _ _ _
                                            have q272 : ∀ x9, x9 ≠ 246 → f272 x9 = f3 x9 := fun x9 h => by rw [e272]; exact zApp_ne h
                                            have l272 : f272 246 = vn2 + j + 1 := by omega
                                            refine lv_aload_n hx hb dX10_reads_273 rfl (lv_at hl 0 rfl) ?_
                                            refine va_get (D := g.1) (ci := 5) (v := .ref sa) (C := RX10) (T := TX10) (N := 6) hx hb hts mX10_reads_0 hown hK (hX.gy) 0 rfl rfl 0 (by decide) (hts _ mX10_reads_1) (fun _ h9 => h9) rfl dX10_reads_274 ?_
                                            refine lv_iload_n hx hb dX10_reads_277 rfl (lv_at hl 1 rfl) ?_
                                            refine lv_aload_n hx hb dX10_reads_278 rfl (lv_at hl 0 rfl) ?_
                                            refine va_get (D := g.1) (ci := 5) (v := .ref sa) (C := RX10) (T := TX10) (N := 6) hx hb hts mX10_reads_0 hown hK (hX.gy) 0 rfl rfl 0 (by decide) (hts _ mX10_reads_1) (fun _ h9 => h9) rfl dX10_reads_279 ?_
                                            refine lv_iload_n hx hb dX10_reads_282 rfl (lv_at hl 1 rfl) ?_
                                            refine zy_ild hx hb hK hX (by omega) dX10_reads_283 ?_
                                            refine zv_iadd hx hb dX10_reads_284 ?_
                                            refine lv_aload_n hx hb dX10_reads_285 rfl (lv_at hl 0 rfl) ?_
                                            refine va_get (D := g.1) (ci := 5) (v := .ref sa) (C := RX10) (T := TX10) (N := 6) hx hb hts mX10_reads_0 hown hK (hX.gy) 0 rfl rfl 0 (by decide) (hts _ mX10_reads_1) (fun _ h9 => h9) rfl dX10_reads_286 ?_
                                            refine lv_iload_n hx hb dX10_reads_289 rfl (lv_at hl 1 rfl) ?_
                                            refine lv_aload_n hx hb dX10_reads_290 rfl (lv_at hl 0 rfl) ?_
                                            refine va_get (D := g.1) (ci := 5) (v := .ref sa) (C := RX10) (T := TX10) (N := 6) hx hb hts mX10_reads_0 hown hK (hX.gy) 0 rfl rfl 0 (by decide) (hts _ mX10_reads_1) (fun _ h9 => h9) rfl dX10_reads_291 ?_
                                            refine lv_iload_n hx hb dX10_reads_294 rfl (lv_at hl 1 rfl) ?_
                                            refine zy_ild hx hb hK hX (by omega) dX10_reads_295 ?_
                                            refine zv_iadd hx hb dX10_reads_296 ?_
                                            refine lv_iload hx hb dX10_reads_297 (lv_at hl 6 rfl) ?_
                                            refine zv_isub hx hb dX10_reads_299 ?_
                                            refine zy_ild hx hb hK hX (by omega) dX10_reads_300 ?_
                                            refine zy_ist hx hb hK hX hS (by omega) (hX.gf (by omega)) dX10_reads_301 (fun H1 locs hX hS => ?_)
                                            obtain ⟨f301, e301⟩ : ∃ z9, z9 = zApp f272 (246 + (f272 246)) (f272 ((246 + (f272 246)) - (vn2 - vn1))) := ⟨_, rfl⟩
                                            rw [← e301] at hX
                                            have r301 : f301 (246 + (f272 246)) = f272 ((246 + (f272 246)) - (vn2 - vn1)) := by rw [e301]; exact zApp_eq _ _ _
                                            have q301 : ∀ x9, x9 ≠ 246 + (f272 246) → f301 x9 = f272 x9 := fun x9 h => by rw [e301]; exact zApp_ne h
                                            refine zv_iinc (lv' := [(8, .int (zI (j + 1))), (0, .ref y), (1, .int (zI 246)), (2, .int (zI (q + 0))), (3, .int (zI vn1)), (4, .int (zI 0)), (5, .int (zI (i + 0))), (6, .int (zI (vn2 - vn1))), (7, .int (zI x))]) hx hb dX10_reads_302 hl (k := 8) rfl (by decide) rfl (fun ls hl => ?_)
                                            refine lv_goto (tgt := 251) hx hb dX10_reads_305 (by decide) ?_
                                            exact ih251 (j + 1) f301 _ _ (by omega) (((b1.app (x := zRep v2 vn2 vn1 (vn2 + j)) (f2 := f301) (by omega) (zRep_bd ⟨by omega, by omega⟩ (fun k a b => (a2.2.2 k a b).2) _ (by omega)) (by rw [q301 246 (by omega), r272, l3]) (by rw [show (246 : Int) + 1 + (vn2 + j) = 246 + f272 246 by omega, r301, q272 _ (by omega), show 246 + f272 246 - (vn2 - vn1) = 246 + 1 + (vn2 + j - (vn2 - vn1)) by omega, (b1.2.2 (vn2 + j - (vn2 - vn1)) (by omega) (by omega)).1]; exact zRep_per ⟨by omega, by omega⟩ (by omega)) (fun k a b => by rw [q301 k (by omega), q272 k (by omega)])).word (n2 := vn2 + (j + 1)) (by omega) (fun k a b => zApp_self))) (fun k a b => by rw [q301 k (by omega), q272 k (by omega)]; exact blo k a b) (hX) (hS) (by omega) _ (lv_sub hl [1, 2, 3, 4, 5, 6, 7, 8, 0] rfl)
                                      exact lp251 _ 0 f2 _ _ (by omega) (a2.word (by omega) (fun k a b => zRep_lo (by omega))) (alo) (hX) (hS) (Nat.lt_succ_self _) _ (lv_sub hl [4, 5, 3, 6, 7, 8, 2, 1, 0] rfl)
                                    · refine lv_iload_n hx hb dX10_reads_246 rfl (lv_at hl 2 rfl) ?_
                                      exact zw_i hx hb hr hlocks hS dX10_reads_247 (⟨_, rfl, (zFl_here s7 (by omega) (fun z => ⟨fun v => by omega, fun v => Or.inr (by rw [← hgq, show gt (q + 0) - 48 = x from ex.symm, zSub1_mul, ← em]; omega), fun v => by omega, fun v => by omega⟩) (fun v => by omega)).symm, by omega, by omega, _, _, _, hX, hm.scr hR.1 alo, hgt, fun z => absurd z (by omega)⟩)
                              · exfalso; omega
                            · exfalso; omega
                          · exfalso; omega
                        · have hgq := hgt q (by omega) (by omega)
                          refine lv_aload_n hx hb dX10_reads_104 rfl (lv_at hl 0 rfl) ?_
                          refine va_get (D := g.1) (ci := 5) (v := .ref sa) (C := RX10) (T := TX10) (N := 6) hx hb hts mX10_reads_0 hown hK (hX.gy) 0 rfl rfl 0 (by decide) (hts _ mX10_reads_1) (fun _ h9 => h9) rfl dX10_reads_105 ?_
                          refine lv_iload_n hx hb dX10_reads_108 rfl (lv_at hl 1 rfl) ?_
                          refine lv_dup2_11 hx hb dX10_reads_109 rfl rfl ?_
                          refine zy_ild hx hb hK hX (by omega) dX10_reads_110 ?_
                          refine zv_iconst hx hb dX10_reads_111 ?_
                          refine zv_iadd hx hb dX10_reads_112 ?_
                          refine zy_ist hx hb hK hX hS (by omega) (by omega) dX10_reads_113 (fun H1 locs hX hS => ?_)
                          obtain ⟨f113, e113⟩ : ∃ z9, z9 = zApp f2 246 ((f2 246) + 1) := ⟨_, rfl⟩
                          rw [← e113] at hX
                          have r113 : f113 246 = (f2 246) + 1 := by rw [e113]; exact zApp_eq _ _ _
                          have q113 : ∀ x9, x9 ≠ 246 → f113 x9 = f2 x9 := fun x9 h => by rw [e113]; exact zApp_ne h
                          have l113 : f113 246 = vn2 + 1 := by omega
                          refine lv_aload_n hx hb dX10_reads_114 rfl (lv_at hl 0 rfl) ?_
                          refine va_get (D := g.1) (ci := 5) (v := .ref sa) (C := RX10) (T := TX10) (N := 6) hx hb hts mX10_reads_0 hown hK (hX.gy) 0 rfl rfl 0 (by decide) (hts _ mX10_reads_1) (fun _ h9 => h9) rfl dX10_reads_115 ?_
                          refine lv_iload_n hx hb dX10_reads_118 rfl (lv_at hl 1 rfl) ?_
                          refine lv_aload_n hx hb dX10_reads_119 rfl (lv_at hl 0 rfl) ?_
                          refine va_get (D := g.1) (ci := 5) (v := .ref sa) (C := RX10) (T := TX10) (N := 6) hx hb hts mX10_reads_0 hown hK (hX.gy) 0 rfl rfl 0 (by decide) (hts _ mX10_reads_1) (fun _ h9 => h9) rfl dX10_reads_120 ?_
                          refine lv_iload_n hx hb dX10_reads_123 rfl (lv_at hl 1 rfl) ?_
                          refine zy_ild hx hb hK hX (by omega) dX10_reads_124 ?_
                          refine zv_iadd hx hb dX10_reads_125 ?_
                          refine lv_aload_n hx hb dX10_reads_126 rfl (lv_at hl 0 rfl) ?_
                          refine va_get (D := g.1) (ci := 5) (v := .ref ta) (C := RX10) (T := TX10) (N := 6) hx hb hts mX10_reads_0 hown hK (hX.gy) 0 rfl rfl 3 (by decide) (hts _ mX10_reads_3) (fun _ h9 => h9) rfl dX10_reads_127 ?_
                          refine lv_iload_n hx hb dX10_reads_130 rfl (lv_at hl 2 rfl) ?_
                          refine zy_tld hx hb hK hX (by omega) dX10_reads_131 ?_
                          refine zv_bipush hx hb dX10_reads_132 (by decide +kernel) ?_
                          refine zv_isub hx hb dX10_reads_134 ?_
                          refine zy_ist hx hb hK hX hS (by omega) (by omega) dX10_reads_135 (fun H1 locs hX hS => ?_)
                          obtain ⟨f135, e135⟩ : ∃ z9, z9 = zApp f113 (246 + (f113 246)) ((gt q) - 97) := ⟨_, rfl⟩
                          rw [← e135] at hX
                          have r135 : f135 (246 + (f113 246)) = (gt q) - 97 := by rw [e135]; exact zApp_eq _ _ _
                          have q135 : ∀ x9, x9 ≠ 246 + (f113 246) → f135 x9 = f113 x9 := fun x9 h => by rw [e135]; exact zApp_ne h
                          refine zv_iinc (lv' := [(2, .int (zI (q + 1))), (0, .ref y), (1, .int (zI 246)), (3, .int (zI vn1)), (4, .int (zI 0)), (5, .int (zI (i + 0)))]) hx hb dX10_reads_136 hl (k := 2) rfl (by decide) rfl (fun ls hl => ?_)
                          refine lv_goto (tgt := 74) hx hb dX10_reads_139 (by decide) ?_
                          exact ih74 (q + 1) f135 (zApp v2 vn2 (gt q - 97)) (vn2 + 1) vn1 1 _ _ (by omega) (by rw [zSt_next (by omega) a1, ← hgq, zTk_let0 (by omega) (by omega), show vn1 = vn2 by omega]) (fun _ => ⟨rfl, rfl⟩) (fun z => absurd z (by omega)) (((a2.app (x := gt q - 97) (f2 := f135) (by omega) (by omega) (by rw [q135 246 (by omega), r113, l2]) (by rw [show (246 : Int) + 1 + vn2 = 246 + f113 246 by omega]; exact r135) (fun k a b => by rw [q135 k (by omega), q113 k (by omega)])))) (fun k a b => by rw [q135 k (by omega), q113 k (by omega)]; exact alo k a b) (hX) (hS) (by omega) _ (lv_sub hl [1, 2, 0, 3, 4, 5] rfl)
              exact lp74 _ (i + 0) f1 v1 vn1 pf1 bp1 _ _ (by omega) (by rw [show i + 0 = i by omega]; exact h1) (fun z => absurd z (by omega)) (fun _ => h3) (h2) (hlo) (hX) (hS) (Nat.lt_succ_self _) _ (lv_sub hl [4, 5, 1, 3, 2, 0] rfl)
            · exfalso; omega
          · refine zv_iconst hx hb dX10_reads_51 ?_
            refine lv_goto (tgt := 56) hx hb dX10_reads_52 (by decide) ?_
            refine lv_istore (lv' := [(4, .int (zI 1)), (3, .int (zI vn1)), (0, .ref y), (1, .int (zI 246)), (2, .int (zI i))]) hx hb dX10_reads_56 hl (by decide) rfl (fun ls hl => ?_)
            refine lv_iload_n hx hb dX10_reads_58 rfl (lv_at hl 4 rfl) ?_
            refine lv_iload hx hb dX10_reads_59 (lv_at hl 0 rfl) ?_
            refine zv_if_eq (tgt := 68) hx hb dX10_reads_61 (by decide) (by omega) (fun c61 => ?_) (fun c61 => ?_)
            · exfalso; omega
            · refine zv_iconst hx hb dX10_reads_64 ?_
              refine lv_goto (tgt := 69) hx hb dX10_reads_65 (by decide) ?_
              refine zv_iadd hx hb dX10_reads_69 ?_
              refine lv_istore_n (lv' := [(2, .int (zI (i + 1))), (4, .int (zI 1)), (3, .int (zI vn1)), (0, .ref y), (1, .int (zI 246))]) hx hb dX10_reads_70 rfl hl (by decide) rfl (fun ls hl => ?_)
              refine lv_iload_n hx hb dX10_reads_71 rfl (lv_at hl 0 rfl) ?_
              refine lv_istore (lv' := [(5, .int (zI (i + 1))), (2, .int (zI (i + 1))), (4, .int (zI 1)), (3, .int (zI vn1)), (0, .ref y), (1, .int (zI 246))]) hx hb dX10_reads_72 hl (by decide) rfl (fun ls hl => ?_)
              have lp74 : ∀ (z_f : Nat) (q : Int) (f2 : Int → Int) (v2 : Int → Int) (vn2 : Int) (H1 : Heap) (locs : List Loc), (i + 1 ≤ q ∧ q ≤ tn ∧ vn1 ≤ vn2 ∧ vn2 - vn1 = q - (i + 1)) → (zSt tc q.toNat = some (v2, vn2, vn1, 1, 0)) → (SL f2 246 v2 vn2) → (∀ k, 0 ≤ k → k < 246 → f2 k = f k) → (RM g y sa ta oa f2 gt od hc hs tn H1) → (va_S (zA4 y sa ta oa) s.heap H1 locs) → ((tn - q).toNat) < z_f → ∀ (ls : Array Slot), lv_has ls 9 [(0, .ref y), (1, .int (zI 246)), (2, .int (zI q)), (3, .int (zI vn1)), (4, .int (zI 1)), (5, .int (zI (i + 1)))] → W p l e (zRm 2 43) s m args below meth c H1 locs 0 0 (MQ below (zQi (fun r H => ∃ z : Int, r = zI z ∧ z = zFl tc tn ∧ -1 ≤ z ∧ z ≤ 60 ∧ ∃ f gt od : Int → Int, RM g y sa ta oa f gt od hc hs tn H ∧ MF f w n ee en hc u un hs ∧ (∀ k, 0 ≤ k → k < tn → gt k = tc k) ∧ (z = -1 → SL f 246 (zLdS tc tn).1 (zLdS tc tn).2.1)) (zA4 y sa ta oa)) args s 0 0 (zA4 y sa ta oa)) (F0 m 74 ls []) := by
                intro z_f
                induction z_f with
                | zero => intro q f2 v2 vn2 H1 locs a0 a1 a2 alo hX hS z_m; exact absurd z_m (Nat.not_lt_zero _)
                | succ z_f ih74 =>
                  intro q f2 v2 vn2 H1 locs a0 a1 a2 alo hX hS z_m74 ls hl
                  have l2 := a2.1
                  have nb2 := a2.2.1
                  refine lv_aload_n hx hb dX10_reads_74 rfl (lv_at hl 0 rfl) ?_
                  refine lv_iload_n hx hb dX10_reads_75 rfl (lv_at hl 2 rfl) ?_
                  refine zc_V (As := [.int (zI q)]) (rest := []) S hK (kX10_isLetter l g y sa ta oa f2 gt od hc hs tn q (by omega)) (cwV 1 hts gX10_reads_X10_isLetter rfl rfl rfl (by decide +kernel) ⟨Nat.le_of_ble_eq_true rfl, Nat.le_of_ble_eq_true rfl⟩) (hX) (hX.recv hK) rfl hl.1 rfl (Nat.le_of_ble_eq_true rfl) dX10_reads_76 ⟨Nat.zero_le _, Nat.zero_le _⟩ (fun r76 hr76 => ?_)
                  obtain rfl := hr76
                  refine zv_ifB_eq (tgt := 142) hx hb dX10_reads_79 (by decide) (fun c79 => ?_) (fun c79 => ?_)
                  · have hex : q < tn → 97 ≤ tc q ∧ tc q ≤ 122 → 40 ≤ vn2 := fun z v => absurd ⟨z, by rw [hgt q (by omega) z]; exact v⟩ c79
                    refine lv_iload_n hx hb dX10_reads_142 rfl (lv_at hl 2 rfl) ?_
                    refine lv_iload hx hb dX10_reads_143 (lv_at hl 5 rfl) ?_
                    refine zv_icmp_ne (tgt := 150) hx hb dX10_reads_145 (by decide) (by omega) (by omega) (fun c145 => ?_) (fun c145 => ?_)
                    · refine lv_iload hx hb dX10_reads_150 (lv_at hl 4 rfl) ?_
                      refine zv_if_eq (tgt := 176) hx hb dX10_reads_152 (by decide) (by omega) (fun c152 => ?_) (fun c152 => ?_)
                      · exfalso; omega
                      · refine lv_iload_n hx hb dX10_reads_155 rfl (lv_at hl 2 rfl) ?_
                        refine lv_aload_n hx hb dX10_reads_156 rfl (lv_at hl 0 rfl) ?_
                        refine va_get (D := g.1) (ci := 5) (v := .int (zI tn)) (C := RX10) (T := TX10) (N := 6) hx hb hts mX10_reads_0 hown hK (hX.gy) 0 rfl rfl 4 (by decide) (hts _ mX10_reads_2) (fun _ h9 => h9) rfl dX10_reads_157 ?_
                        refine zv_icmp_eq (tgt := 174) hx hb dX10_reads_160 (by decide) (by omega) (by omega) (fun c160 => ?_) (fun c160 => ?_)
                        · refine lv_iload_n hx hb dX10_reads_174 rfl (lv_at hl 2 rfl) ?_
                          exact zw_i hx hb hr hlocks hS dX10_reads_175 (⟨_, rfl, (zFl_here a1 (by omega) (fun z => ⟨hex z, fun _ => Or.inl rfl, fun _ => rfl, fun v => by have := hgt q (by omega) (by omega); omega⟩) (fun _ => Or.inl rfl)).symm, by omega, by omega, _, _, _, hX, hm.scr hR.1 alo, hgt, fun z => absurd z (by omega)⟩)
                        · refine lv_aload_n hx hb dX10_reads_163 rfl (lv_at hl 0 rfl) ?_
                          refine va_get (D := g.1) (ci := 5) (v := .ref ta) (C := RX10) (T := TX10) (N := 6) hx hb hts mX10_reads_0 hown hK (hX.gy) 0 rfl rfl 3 (by decide) (hts _ mX10_reads_3) (fun _ h9 => h9) rfl dX10_reads_164 ?_
                          refine lv_iload_n hx hb dX10_reads_167 rfl (lv_at hl 2 rfl) ?_
                          refine zy_tld hx hb hK hX (by omega) dX10_reads_168 ?_
                          have g8 := hX.gg (k := q) (by omega)
                          refine zv_bipush hx hb dX10_reads_169 (by decide +kernel) ?_
                          refine zv_icmp_eq (tgt := 176) hx hb dX10_reads_171 (by decide) (by omega) (by omega) (fun c171 => ?_) (fun c171 => ?_)
                          · refine lv_iload_n hx hb dX10_reads_176 rfl (lv_at hl 2 rfl) ?_
                            refine lv_iload hx hb dX10_reads_177 (lv_at hl 4 rfl) ?_
                            refine zv_if_eq (tgt := 186) hx hb dX10_reads_179 (by decide) (by omega) (fun c179 => ?_) (fun c179 => ?_)
                            · exfalso; omega
                            · refine zv_iconst hx hb dX10_reads_182 ?_
                              refine lv_goto (tgt := 187) hx hb dX10_reads_183 (by decide) ?_
                              refine zv_iadd hx hb dX10_reads_187 ?_
                              refine lv_istore_n (lv' := [(2, .int (zI (q + 1))), (0, .ref y), (1, .int (zI 246)), (3, .int (zI vn1)), (4, .int (zI 1)), (5, .int (zI (i + 1)))]) hx hb dX10_reads_188 rfl hl (by decide) rfl (fun ls hl => ?_)
                              have s7 : zSt tc (q + 1).toNat = some (v2, vn2, vn1, 0, 1) := by rw [zSt_next (by omega) a1]; exact zTk_close (by rw [← hgt q (by omega) (by omega)]; omega) (by omega)
                              refine lv_aload_n hx hb dX10_reads_189 rfl (lv_at hl 1 rfl) ?_
                              refine va_get (D := g.1) (ci := 5) (v := .ref sa) (C := RX10) (T := TX10) (N := 6) hx hb hts mX10_reads_0 hown hK (hX.gy) 0 rfl rfl 0 (by decide) (hts _ mX10_reads_1) (fun _ h9 => h9) rfl dX10_reads_190 ?_
                              refine lv_iload_n hx hb dX10_reads_193 rfl (lv_at hl 2 rfl) ?_
                              refine zy_ild hx hb hK hX (by omega) dX10_reads_194 ?_
                              rw [l2]
                              refine lv_iload_n hx hb dX10_reads_195 rfl (lv_at hl 3 rfl) ?_
                              refine zv_isub hx hb dX10_reads_196 ?_
                              refine lv_istore (lv' := [(6, .int (zI (vn2 - vn1))), (2, .int (zI (q + 1))), (0, .ref y), (1, .int (zI 246)), (3, .int (zI vn1)), (4, .int (zI 1)), (5, .int (zI (i + 1)))]) hx hb dX10_reads_197 hl (by decide) rfl (fun ls hl => ?_)
                              refine lv_iload_n hx hb dX10_reads_199 rfl (lv_at hl 1 rfl) ?_
                              refine lv_aload_n hx hb dX10_reads_200 rfl (lv_at hl 2 rfl) ?_
                              refine va_get (D := g.1) (ci := 5) (v := .int (zI tn)) (C := RX10) (T := TX10) (N := 6) hx hb hts mX10_reads_0 hown hK (hX.gy) 0 rfl rfl 4 (by decide) (hts _ mX10_reads_2) (fun _ h9 => h9) rfl dX10_reads_201 ?_
                              refine zv_icmp_ge (tgt := 311) hx hb dX10_reads_204 (by decide) (by omega) (by omega) (fun c204 => ?_) (fun c204 => ?_)
                              · refine lv_goto (tgt := 13) hx hb dX10_reads_311 (by decide) ?_
                                exact ih13 (q + 1) f2 v2 vn2 vn1 1 _ _ (by omega) (s7) (a2) (fun _ z y => by first | omega | exact c220 (by rw [← hgt _ (by omega) z] at y; exact y)) (alo) (hX) (hS) (by omega) _ (lv_sub hl [2, 3, 1] rfl)
                              · refine lv_aload_n hx hb dX10_reads_207 rfl (lv_at hl 2 rfl) ?_
                                refine va_get (D := g.1) (ci := 5) (v := .ref ta) (C := RX10) (T := TX10) (N := 6) hx hb hts mX10_reads_0 hown hK (hX.gy) 0 rfl rfl 3 (by decide) (hts _ mX10_reads_3) (fun _ h9 => h9) rfl dX10_reads_208 ?_
                                refine lv_iload_n hx hb dX10_reads_211 rfl (lv_at hl 1 rfl) ?_
                                refine zy_tld hx hb hK hX (by omega) dX10_reads_212 ?_
                                have g8 := hX.gg (k := q + 1) (by omega)
                                refine zv_bipush hx hb dX10_reads_213 (by decide +kernel) ?_
                                refine zv_bipush hx hb dX10_reads_215 (by decide +kernel) ?_
                                refine zc_S (As := [.int (zI (gt (q + 1))), .int (zI 50), .int (zI 57)]) (rest := []) S hK (kX10_in l g (gt (q + 1)) 50 57 (by omega) (by omega) (by omega)) (va_cwS 3 hts gX10_reads_X10_in rfl rfl rfl (by decide +kernel) ⟨Nat.le_of_ble_eq_true rfl, Nat.le_of_ble_eq_true rfl⟩) (trivial) rfl hl.1 rfl (Nat.le_of_ble_eq_true rfl) dX10_reads_217 ⟨Nat.zero_le _, Nat.zero_le _⟩ (fun r217 hr217 => ?_)
                                obtain rfl := hr217
                                refine zv_ifB_eq (tgt := 311) hx hb dX10_reads_220 (by decide) (fun c220 => ?_) (fun c220 => ?_)
                                · refine lv_goto (tgt := 13) hx hb dX10_reads_311 (by decide) ?_
                                  exact ih13 (q + 1) f2 v2 vn2 vn1 1 _ _ (by omega) (s7) (a2) (fun _ z y => by first | omega | exact c220 (by rw [← hgt _ (by omega) z] at y; exact y)) (alo) (hX) (hS) (by omega) _ (lv_sub hl [2, 3, 1] rfl)
                                · refine lv_aload_n hx hb dX10_reads_223 rfl (lv_at hl 2 rfl) ?_
                                  refine va_get (D := g.1) (ci := 5) (v := .ref ta) (C := RX10) (T := TX10) (N := 6) hx hb hts mX10_reads_0 hown hK (hX.gy) 0 rfl rfl 3 (by decide) (hts _ mX10_reads_3) (fun _ h9 => h9) rfl dX10_reads_224 ?_
                                  refine lv_iload_n hx hb dX10_reads_227 rfl (lv_at hl 1 rfl) ?_
                                  refine zy_tld hx hb hK hX (by omega) dX10_reads_228 ?_
                                  refine zv_bipush hx hb dX10_reads_229 (by decide +kernel) ?_
                                  refine zv_isub hx hb dX10_reads_231 ?_
                                  obtain ⟨x, ex⟩ : ∃ x, x = gt (q + 1) - 48 := ⟨_, rfl⟩
                                  rw [← ex]
                                  obtain ⟨mm, em⟩ : ∃ m, m = x * (vn2 - vn1) := ⟨_, rfl⟩
                                  have hgq := hgt (q + 1) (by omega) (by omega)
                                  have bm := zMulBd9 (a := x) (b := vn2 - vn1) (by omega) (by omega)
                                  rw [← em] at bm
                                  have bm2 := Int.mul_nonneg (show 0 ≤ x - 1 by omega) (show 0 ≤ vn2 - vn1 by omega)
                                  rw [zSub1_mul, ← em] at bm2
                                  refine lv_istore (lv' := [(7, .int (zI x)), (6, .int (zI (vn2 - vn1))), (2, .int (zI (q + 1))), (0, .ref y), (1, .int (zI 246)), (3, .int (zI vn1)), (4, .int (zI 1)), (5, .int (zI (i + 1)))]) hx hb dX10_reads_232 hl (by decide) rfl (fun ls hl => ?_)
                                  refine lv_iload_n hx hb dX10_reads_234 rfl (lv_at hl 5 rfl) ?_
                                  refine lv_iload hx hb dX10_reads_235 (lv_at hl 0 rfl) ?_
                                  refine lv_iload hx hb dX10_reads_237 (lv_at hl 1 rfl) ?_
                                  refine zv_imul hx hb dX10_reads_239 ?_
                                  rw [← em]
                                  refine zv_iadd hx hb dX10_reads_240 ?_
                                  refine zv_bipush hx hb dX10_reads_241 (by decide +kernel) ?_
                                  refine zv_icmp_le (tgt := 248) hx hb dX10_reads_243 (by decide) (by omega) (by omega) (fun c243 => ?_) (fun c243 => ?_)
                                  · refine zv_iconst hx hb dX10_reads_248 ?_
                                    refine lv_istore (lv' := [(8, .int (zI 0)), (7, .int (zI x)), (6, .int (zI (vn2 - vn1))), (2, .int (zI (q + 1))), (0, .ref y), (1, .int (zI 246)), (3, .int (zI vn1)), (4, .int (zI 1)), (5, .int (zI (i + 1)))]) hx hb dX10_reads_249 hl (by decide) rfl (fun ls hl => ?_)
                                    have lp251 : ∀ (z_f : Nat) (j : Int) (f3 : Int → Int) (H1 : Heap) (locs : List Loc), (0 ≤ j ∧ j ≤ mm - (vn2 - vn1)) → (SL f3 246 (zRep v2 vn2 vn1) (vn2 + j)) → (∀ k, 0 ≤ k → k < 246 → f3 k = f k) → (RM g y sa ta oa f3 gt od hc hs tn H1) → (va_S (zA4 y sa ta oa) s.heap H1 locs) → ((mm - (vn2 - vn1) - j).toNat) < z_f → ∀ (ls : Array Slot), lv_has ls 9 [(0, .ref y), (1, .int (zI 246)), (2, .int (zI (q + 1))), (3, .int (zI vn1)), (4, .int (zI 1)), (5, .int (zI (i + 1))), (6, .int (zI (vn2 - vn1))), (7, .int (zI x)), (8, .int (zI j))] → W p l e (zRm 2 43) s m args below meth c H1 locs 0 0 (MQ below (zQi (fun r H => ∃ z : Int, r = zI z ∧ z = zFl tc tn ∧ -1 ≤ z ∧ z ≤ 60 ∧ ∃ f gt od : Int → Int, RM g y sa ta oa f gt od hc hs tn H ∧ MF f w n ee en hc u un hs ∧ (∀ k, 0 ≤ k → k < tn → gt k = tc k) ∧ (z = -1 → SL f 246 (zLdS tc tn).1 (zLdS tc tn).2.1)) (zA4 y sa ta oa)) args s 0 0 (zA4 y sa ta oa)) (F0 m 251 ls []) := by
                                      intro z_f
                                      induction z_f with
                                      | zero => intro j f3 H1 locs b0 b1 blo hX hS z_m; exact absurd z_m (Nat.not_lt_zero _)
                                      | succ z_f ih251 =>
                                        intro j f3 H1 locs b0 b1 blo hX hS z_m251 ls hl
                                        have l3 := b1.1
                                        have nb3 := b1.2.1
                                        refine lv_iload hx hb dX10_reads_251 (lv_at hl 8 rfl) ?_
                                        refine lv_iload hx hb dX10_reads_253 (lv_at hl 7 rfl) ?_
                                        refine zv_iconst hx hb dX10_reads_255 ?_
                                        refine zv_isub hx hb dX10_reads_256 ?_
                                        refine lv_iload hx hb dX10_reads_257 (lv_at hl 6 rfl) ?_
                                        refine zv_imul hx hb dX10_reads_259 ?_
                                        rw [show (x - 1) * (vn2 - vn1) = mm - (vn2 - vn1) by rw [zSub1_mul, ← em]]
                                        refine zv_icmp_ge (tgt := 308) hx hb dX10_reads_260 (by decide) (by omega) (by omega) (fun c260 => ?_) (fun c260 => ?_)
                                        · refine zv_iinc (lv' := [(2, .int (zI (q + 1 + 1))), (0, .ref y), (1, .int (zI 246)), (3, .int (zI vn1)), (4, .int (zI 1)), (5, .int (zI (i + 1))), (6, .int (zI (vn2 - vn1))), (7, .int (zI x)), (8, .int (zI j))]) hx hb dX10_reads_308 hl (k := 2) rfl (by decide) rfl (fun ls hl => ?_)
                                          refine lv_goto (tgt := 13) hx hb dX10_reads_311 (by decide) ?_
                                          exact ih13 (q + 1 + 1) f3 (zRep v2 vn2 vn1) (vn2 + j) vn1 0 _ _ (by omega) (by
                                            have ej : vn2 + j = vn2 + (tc (q + 1) - 48 - 1) * (vn2 - vn1) := by rw [← hgq, show gt (q + 1) - 48 = x from ex.symm, zSub1_mul, ← em]; omega
                                            rw [zSt_next (by omega) s7, ej]
                                            exact zTk_dig (by omega) rfl (by omega)) (b1) (fun z => absurd rfl z) (blo) (hX) (hS) (by omega) _ (lv_sub hl [1, 2, 0] rfl)
                                        · refine lv_aload_n hx hb dX10_reads_263 rfl (lv_at hl 0 rfl) ?_
                                          refine va_get (D := g.1) (ci := 5) (v := .ref sa) (C := RX10) (T := TX10) (N := 6) hx hb hts mX10_reads_0 hown hK (hX.gy) 0 rfl rfl 0 (by decide) (hts _ mX10_reads_1) (fun _ h9 => h9) rfl dX10_reads_264 ?_
                                          refine lv_iload_n hx hb dX10_reads_267 rfl (lv_at hl 1 rfl) ?_
                                          refine lv_dup2_11 hx hb dX10_reads_268 rfl rfl ?_
                                          refine zy_ild hx hb hK hX (by omega) dX10_reads_269 ?_
                                          refine zv_iconst hx hb dX10_reads_270 ?_
                                          refine zv_iadd hx hb dX10_reads_271 ?_
                                          refine zy_ist hx hb hK hX hS (by omega) (by omega) dX10_reads_272 (fun H1 locs hX hS => ?_)
                                          obtain ⟨f272, e272⟩ : ∃ z9, z9 = zApp f3 246 ((f3 246) + 1) := ⟨_, rfl⟩
                                          rw [← e272] at hX
                                          have r272 : f272 246 = (f3 246) + 1 := by rw [e272]; exact zApp_eq _ _ _
                                          have q272 : ∀ x9, x9 ≠ 246 → f272 x9 = f3 x9 := fun x9 h => by rw [e272]; exact zApp_ne h
                                          have l272 : f272 246 = vn2 + j + 1 := by omega
                                          refine lv_aload_n hx hb dX10_reads_273 rfl (lv_at hl 0 rfl) ?_
                                          refine va_get (D := g.1) (ci := 5) (v := .ref sa) (C := RX10) (T := TX10) (N := 6) hx hb hts mX10_reads_0 hown hK (hX.gy) 0 rfl rfl 0 (by decide) (hts _ mX10_reads_1) (fun _ h9 => h9) rfl dX10_reads_274 ?_
                                          refine lv_iload_n hx hb dX10_reads_277 rfl (lv_at hl 1 rfl) ?_
                                          refine lv_aload_n hx hb dX10_reads_278 rfl (lv_at hl 0 rfl) ?_
                                          refine va_get (D := g.1) (ci := 5) (v := .ref sa) (C := RX10) (T := TX10) (N := 6) hx hb hts mX10_reads_0 hown hK (hX.gy) 0 rfl rfl 0 (by decide) (hts _ mX10_reads_1) (fun _ h9 => h9) rfl dX10_reads_279 ?_
                                          refine lv_iload_n hx hb dX10_reads_282 rfl (lv_at hl 1 rfl) ?_
                                          refine zy_ild hx hb hK hX (by omega) dX10_reads_283 ?_
                                          refine zv_iadd hx hb dX10_reads_284 ?_
                                          refine lv_aload_n hx hb dX10_reads_285 rfl (lv_at hl 0 rfl) ?_
                                          refine va_get (D := g.1) (ci := 5) (v := .ref sa) (C := RX10) (T := TX10) (N := 6) hx hb hts mX10_reads_0 hown hK (hX.gy) 0 rfl rfl 0 (by decide) (hts _ mX10_reads_1) (fun _ h9 => h9) rfl dX10_reads_286 ?_
                                          refine lv_iload_n hx hb dX10_reads_289 rfl (lv_at hl 1 rfl) ?_
                                          refine lv_aload_n hx hb dX10_reads_290 rfl (lv_at hl 0 rfl) ?_
                                          refine va_get (D := g.1) (ci := 5) (v := .ref sa) (C := RX10) (T := TX10) (N := 6) hx hb hts mX10_reads_0 hown hK (hX.gy) 0 rfl rfl 0 (by decide) (hts _ mX10_reads_1) (fun _ h9 => h9) rfl dX10_reads_291 ?_
                                          refine lv_iload_n hx hb dX10_reads_294 rfl (lv_at hl 1 rfl) ?_
                                          refine zy_ild hx hb hK hX (by omega) dX10_reads_295 ?_
                                          refine zv_iadd hx hb dX10_reads_296 ?_
                                          refine lv_iload hx hb dX10_reads_297 (lv_at hl 6 rfl) ?_
                                          refine zv_isub hx hb dX10_reads_299 ?_
                                          refine zy_ild hx hb hK hX (by omega) dX10_reads_300 ?_
                                          refine zy_ist hx hb hK hX hS (by omega) (hX.gf (by omega)) dX10_reads_301 (fun H1 locs hX hS => ?_)
                                          obtain ⟨f301, e301⟩ : ∃ z9, z9 = zApp f272 (246 + (f272 246)) (f272 ((246 + (f272 246)) - (vn2 - vn1))) := ⟨_, rfl⟩
                                          rw [← e301] at hX
                                          have r301 : f301 (246 + (f272 246)) = f272 ((246 + (f272 246)) - (vn2 - vn1)) := by rw [e301]; exact zApp_eq _ _ _
                                          have q301 : ∀ x9, x9 ≠ 246 + (f272 246) → f301 x9 = f272 x9 := fun x9 h => by rw [e301]; exact zApp_ne h
                                          refine zv_iinc (lv' := [(8, .int (zI (j + 1))), (0, .ref y), (1, .int (zI 246)), (2, .int (zI (q + 1))), (3, .int (zI vn1)), (4, .int (zI 1)), (5, .int (zI (i + 1))), (6, .int (zI (vn2 - vn1))), (7, .int (zI x))]) hx hb dX10_reads_302 hl (k := 8) rfl (by decide) rfl (fun ls hl => ?_)
                                          refine lv_goto (tgt := 251) hx hb dX10_reads_305 (by decide) ?_
                                          exact ih251 (j + 1) f301 _ _ (by omega) (((b1.app (x := zRep v2 vn2 vn1 (vn2 + j)) (f2 := f301) (by omega) (zRep_bd ⟨by omega, by omega⟩ (fun k a b => (a2.2.2 k a b).2) _ (by omega)) (by rw [q301 246 (by omega), r272, l3]) (by rw [show (246 : Int) + 1 + (vn2 + j) = 246 + f272 246 by omega, r301, q272 _ (by omega), show 246 + f272 246 - (vn2 - vn1) = 246 + 1 + (vn2 + j - (vn2 - vn1)) by omega, (b1.2.2 (vn2 + j - (vn2 - vn1)) (by omega) (by omega)).1]; exact zRep_per ⟨by omega, by omega⟩ (by omega)) (fun k a b => by rw [q301 k (by omega), q272 k (by omega)])).word (n2 := vn2 + (j + 1)) (by omega) (fun k a b => zApp_self))) (fun k a b => by rw [q301 k (by omega), q272 k (by omega)]; exact blo k a b) (hX) (hS) (by omega) _ (lv_sub hl [1, 2, 3, 4, 5, 6, 7, 8, 0] rfl)
                                    exact lp251 _ 0 f2 _ _ (by omega) (a2.word (by omega) (fun k a b => zRep_lo (by omega))) (alo) (hX) (hS) (Nat.lt_succ_self _) _ (lv_sub hl [4, 5, 3, 6, 7, 8, 2, 1, 0] rfl)
                                  · refine lv_iload_n hx hb dX10_reads_246 rfl (lv_at hl 2 rfl) ?_
                                    exact zw_i hx hb hr hlocks hS dX10_reads_247 (⟨_, rfl, (zFl_here s7 (by omega) (fun z => ⟨fun v => by omega, fun v => Or.inr (by rw [← hgq, show gt (q + 1) - 48 = x from ex.symm, zSub1_mul, ← em]; omega), fun v => by omega, fun v => by omega⟩) (fun v => by omega)).symm, by omega, by omega, _, _, _, hX, hm.scr hR.1 alo, hgt, fun z => absurd z (by omega)⟩)
                          · refine lv_iload_n hx hb dX10_reads_174 rfl (lv_at hl 2 rfl) ?_
                            exact zw_i hx hb hr hlocks hS dX10_reads_175 (⟨_, rfl, (zFl_here a1 (by omega) (fun z => ⟨hex z, fun _ => Or.inl rfl, fun _ => rfl, fun v => by have := hgt q (by omega) (by omega); omega⟩) (fun _ => Or.inl rfl)).symm, by omega, by omega, _, _, _, hX, hm.scr hR.1 alo, hgt, fun z => absurd z (by omega)⟩)
                    · refine lv_iload_n hx hb dX10_reads_148 rfl (lv_at hl 2 rfl) ?_
                      exact zw_i hx hb hr hlocks hS dX10_reads_149 (⟨_, rfl, (zFl_here a1 (by omega) (fun z => ⟨hex z, fun _ => Or.inl rfl, fun _ => rfl, fun _ => Or.inr (by omega)⟩) (fun _ => Or.inl rfl)).symm, by omega, by omega, _, _, _, hX, hm.scr hR.1 alo, hgt, fun z => absurd z (by omega)⟩)
                  · refine lv_aload_n hx hb dX10_reads_82 rfl (lv_at hl 0 rfl) ?_
                    refine va_get (D := g.1) (ci := 5) (v := .ref sa) (C := RX10) (T := TX10) (N := 6) hx hb hts mX10_reads_0 hown hK (hX.gy) 0 rfl rfl 0 (by decide) (hts _ mX10_reads_1) (fun _ h9 => h9) rfl dX10_reads_83 ?_
                    refine lv_iload_n hx hb dX10_reads_86 rfl (lv_at hl 1 rfl) ?_
                    refine zy_ild hx hb hK hX (by omega) dX10_reads_87 ?_
                    refine zv_bipush hx hb dX10_reads_88 (by decide +kernel) ?_
                    refine zv_icmp_ge (tgt := 142) hx hb dX10_reads_90 (by decide) (by omega) (by omega) (fun c90 => ?_) (fun c90 => ?_)
                    · have hex : q < tn → 97 ≤ tc q ∧ tc q ≤ 122 → 40 ≤ vn2 := fun _ _ => by omega
                      refine lv_iload_n hx hb dX10_reads_142 rfl (lv_at hl 2 rfl) ?_
                      refine lv_iload hx hb dX10_reads_143 (lv_at hl 5 rfl) ?_
                      refine zv_icmp_ne (tgt := 150) hx hb dX10_reads_145 (by decide) (by omega) (by omega) (fun c145 => ?_) (fun c145 => ?_)
                      · refine lv_iload hx hb dX10_reads_150 (lv_at hl 4 rfl) ?_
                        refine zv_if_eq (tgt := 176) hx hb dX10_reads_152 (by decide) (by omega) (fun c152 => ?_) (fun c152 => ?_)
                        · exfalso; omega
                        · refine lv_iload_n hx hb dX10_reads_155 rfl (lv_at hl 2 rfl) ?_
                          refine lv_aload_n hx hb dX10_reads_156 rfl (lv_at hl 0 rfl) ?_
                          refine va_get (D := g.1) (ci := 5) (v := .int (zI tn)) (C := RX10) (T := TX10) (N := 6) hx hb hts mX10_reads_0 hown hK (hX.gy) 0 rfl rfl 4 (by decide) (hts _ mX10_reads_2) (fun _ h9 => h9) rfl dX10_reads_157 ?_
                          refine zv_icmp_eq (tgt := 174) hx hb dX10_reads_160 (by decide) (by omega) (by omega) (fun c160 => ?_) (fun c160 => ?_)
                          · refine lv_iload_n hx hb dX10_reads_174 rfl (lv_at hl 2 rfl) ?_
                            exact zw_i hx hb hr hlocks hS dX10_reads_175 (⟨_, rfl, (zFl_here a1 (by omega) (fun z => ⟨hex z, fun _ => Or.inl rfl, fun _ => rfl, fun v => by have := hgt q (by omega) (by omega); omega⟩) (fun _ => Or.inl rfl)).symm, by omega, by omega, _, _, _, hX, hm.scr hR.1 alo, hgt, fun z => absurd z (by omega)⟩)
                          · refine lv_aload_n hx hb dX10_reads_163 rfl (lv_at hl 0 rfl) ?_
                            refine va_get (D := g.1) (ci := 5) (v := .ref ta) (C := RX10) (T := TX10) (N := 6) hx hb hts mX10_reads_0 hown hK (hX.gy) 0 rfl rfl 3 (by decide) (hts _ mX10_reads_3) (fun _ h9 => h9) rfl dX10_reads_164 ?_
                            refine lv_iload_n hx hb dX10_reads_167 rfl (lv_at hl 2 rfl) ?_
                            refine zy_tld hx hb hK hX (by omega) dX10_reads_168 ?_
                            have g8 := hX.gg (k := q) (by omega)
                            refine zv_bipush hx hb dX10_reads_169 (by decide +kernel) ?_
                            refine zv_icmp_eq (tgt := 176) hx hb dX10_reads_171 (by decide) (by omega) (by omega) (fun c171 => ?_) (fun c171 => ?_)
                            · refine lv_iload_n hx hb dX10_reads_176 rfl (lv_at hl 2 rfl) ?_
                              refine lv_iload hx hb dX10_reads_177 (lv_at hl 4 rfl) ?_
                              refine zv_if_eq (tgt := 186) hx hb dX10_reads_179 (by decide) (by omega) (fun c179 => ?_) (fun c179 => ?_)
                              · exfalso; omega
                              · refine zv_iconst hx hb dX10_reads_182 ?_
                                refine lv_goto (tgt := 187) hx hb dX10_reads_183 (by decide) ?_
                                refine zv_iadd hx hb dX10_reads_187 ?_
                                refine lv_istore_n (lv' := [(2, .int (zI (q + 1))), (0, .ref y), (1, .int (zI 246)), (3, .int (zI vn1)), (4, .int (zI 1)), (5, .int (zI (i + 1)))]) hx hb dX10_reads_188 rfl hl (by decide) rfl (fun ls hl => ?_)
                                have s7 : zSt tc (q + 1).toNat = some (v2, vn2, vn1, 0, 1) := by rw [zSt_next (by omega) a1]; exact zTk_close (by rw [← hgt q (by omega) (by omega)]; omega) (by omega)
                                refine lv_aload_n hx hb dX10_reads_189 rfl (lv_at hl 1 rfl) ?_
                                refine va_get (D := g.1) (ci := 5) (v := .ref sa) (C := RX10) (T := TX10) (N := 6) hx hb hts mX10_reads_0 hown hK (hX.gy) 0 rfl rfl 0 (by decide) (hts _ mX10_reads_1) (fun _ h9 => h9) rfl dX10_reads_190 ?_
                                refine lv_iload_n hx hb dX10_reads_193 rfl (lv_at hl 2 rfl) ?_
                                refine zy_ild hx hb hK hX (by omega) dX10_reads_194 ?_
                                rw [l2]
                                refine lv_iload_n hx hb dX10_reads_195 rfl (lv_at hl 3 rfl) ?_
                                refine zv_isub hx hb dX10_reads_196 ?_
                                refine lv_istore (lv' := [(6, .int (zI (vn2 - vn1))), (2, .int (zI (q + 1))), (0, .ref y), (1, .int (zI 246)), (3, .int (zI vn1)), (4, .int (zI 1)), (5, .int (zI (i + 1)))]) hx hb dX10_reads_197 hl (by decide) rfl (fun ls hl => ?_)
                                refine lv_iload_n hx hb dX10_reads_199 rfl (lv_at hl 1 rfl) ?_
                                refine lv_aload_n hx hb dX10_reads_200 rfl (lv_at hl 2 rfl) ?_
                                refine va_get (D := g.1) (ci := 5) (v := .int (zI tn)) (C := RX10) (T := TX10) (N := 6) hx hb hts mX10_reads_0 hown hK (hX.gy) 0 rfl rfl 4 (by decide) (hts _ mX10_reads_2) (fun _ h9 => h9) rfl dX10_reads_201 ?_
                                refine zv_icmp_ge (tgt := 311) hx hb dX10_reads_204 (by decide) (by omega) (by omega) (fun c204 => ?_) (fun c204 => ?_)
                                · refine lv_goto (tgt := 13) hx hb dX10_reads_311 (by decide) ?_
                                  exact ih13 (q + 1) f2 v2 vn2 vn1 1 _ _ (by omega) (s7) (a2) (fun _ z y => by first | omega | exact c220 (by rw [← hgt _ (by omega) z] at y; exact y)) (alo) (hX) (hS) (by omega) _ (lv_sub hl [2, 3, 1] rfl)
                                · refine lv_aload_n hx hb dX10_reads_207 rfl (lv_at hl 2 rfl) ?_
                                  refine va_get (D := g.1) (ci := 5) (v := .ref ta) (C := RX10) (T := TX10) (N := 6) hx hb hts mX10_reads_0 hown hK (hX.gy) 0 rfl rfl 3 (by decide) (hts _ mX10_reads_3) (fun _ h9 => h9) rfl dX10_reads_208 ?_
                                  refine lv_iload_n hx hb dX10_reads_211 rfl (lv_at hl 1 rfl) ?_
                                  refine zy_tld hx hb hK hX (by omega) dX10_reads_212 ?_
                                  have g8 := hX.gg (k := q + 1) (by omega)
                                  refine zv_bipush hx hb dX10_reads_213 (by decide +kernel) ?_
                                  refine zv_bipush hx hb dX10_reads_215 (by decide +kernel) ?_
                                  refine zc_S (As := [.int (zI (gt (q + 1))), .int (zI 50), .int (zI 57)]) (rest := []) S hK (kX10_in l g (gt (q + 1)) 50 57 (by omega) (by omega) (by omega)) (va_cwS 3 hts gX10_reads_X10_in rfl rfl rfl (by decide +kernel) ⟨Nat.le_of_ble_eq_true rfl, Nat.le_of_ble_eq_true rfl⟩) (trivial) rfl hl.1 rfl (Nat.le_of_ble_eq_true rfl) dX10_reads_217 ⟨Nat.zero_le _, Nat.zero_le _⟩ (fun r217 hr217 => ?_)
                                  obtain rfl := hr217
                                  refine zv_ifB_eq (tgt := 311) hx hb dX10_reads_220 (by decide) (fun c220 => ?_) (fun c220 => ?_)
                                  · refine lv_goto (tgt := 13) hx hb dX10_reads_311 (by decide) ?_
                                    exact ih13 (q + 1) f2 v2 vn2 vn1 1 _ _ (by omega) (s7) (a2) (fun _ z y => by first | omega | exact c220 (by rw [← hgt _ (by omega) z] at y; exact y)) (alo) (hX) (hS) (by omega) _ (lv_sub hl [2, 3, 1] rfl)
                                  · refine lv_aload_n hx hb dX10_reads_223 rfl (lv_at hl 2 rfl) ?_
                                    refine va_get (D := g.1) (ci := 5) (v := .ref ta) (C := RX10) (T := TX10) (N := 6) hx hb hts mX10_reads_0 hown hK (hX.gy) 0 rfl rfl 3 (by decide) (hts _ mX10_reads_3) (fun _ h9 => h9) rfl dX10_reads_224 ?_
                                    refine lv_iload_n hx hb dX10_reads_227 rfl (lv_at hl 1 rfl) ?_
                                    refine zy_tld hx hb hK hX (by omega) dX10_reads_228 ?_
                                    refine zv_bipush hx hb dX10_reads_229 (by decide +kernel) ?_
                                    refine zv_isub hx hb dX10_reads_231 ?_
                                    obtain ⟨x, ex⟩ : ∃ x, x = gt (q + 1) - 48 := ⟨_, rfl⟩
                                    rw [← ex]
                                    obtain ⟨mm, em⟩ : ∃ m, m = x * (vn2 - vn1) := ⟨_, rfl⟩
                                    have hgq := hgt (q + 1) (by omega) (by omega)
                                    have bm := zMulBd9 (a := x) (b := vn2 - vn1) (by omega) (by omega)
                                    rw [← em] at bm
                                    have bm2 := Int.mul_nonneg (show 0 ≤ x - 1 by omega) (show 0 ≤ vn2 - vn1 by omega)
                                    rw [zSub1_mul, ← em] at bm2
                                    refine lv_istore (lv' := [(7, .int (zI x)), (6, .int (zI (vn2 - vn1))), (2, .int (zI (q + 1))), (0, .ref y), (1, .int (zI 246)), (3, .int (zI vn1)), (4, .int (zI 1)), (5, .int (zI (i + 1)))]) hx hb dX10_reads_232 hl (by decide) rfl (fun ls hl => ?_)
                                    refine lv_iload_n hx hb dX10_reads_234 rfl (lv_at hl 5 rfl) ?_
                                    refine lv_iload hx hb dX10_reads_235 (lv_at hl 0 rfl) ?_
                                    refine lv_iload hx hb dX10_reads_237 (lv_at hl 1 rfl) ?_
                                    refine zv_imul hx hb dX10_reads_239 ?_
                                    rw [← em]
                                    refine zv_iadd hx hb dX10_reads_240 ?_
                                    refine zv_bipush hx hb dX10_reads_241 (by decide +kernel) ?_
                                    refine zv_icmp_le (tgt := 248) hx hb dX10_reads_243 (by decide) (by omega) (by omega) (fun c243 => ?_) (fun c243 => ?_)
                                    · refine zv_iconst hx hb dX10_reads_248 ?_
                                      refine lv_istore (lv' := [(8, .int (zI 0)), (7, .int (zI x)), (6, .int (zI (vn2 - vn1))), (2, .int (zI (q + 1))), (0, .ref y), (1, .int (zI 246)), (3, .int (zI vn1)), (4, .int (zI 1)), (5, .int (zI (i + 1)))]) hx hb dX10_reads_249 hl (by decide) rfl (fun ls hl => ?_)
                                      have lp251 : ∀ (z_f : Nat) (j : Int) (f3 : Int → Int) (H1 : Heap) (locs : List Loc), (0 ≤ j ∧ j ≤ mm - (vn2 - vn1)) → (SL f3 246 (zRep v2 vn2 vn1) (vn2 + j)) → (∀ k, 0 ≤ k → k < 246 → f3 k = f k) → (RM g y sa ta oa f3 gt od hc hs tn H1) → (va_S (zA4 y sa ta oa) s.heap H1 locs) → ((mm - (vn2 - vn1) - j).toNat) < z_f → ∀ (ls : Array Slot), lv_has ls 9 [(0, .ref y), (1, .int (zI 246)), (2, .int (zI (q + 1))), (3, .int (zI vn1)), (4, .int (zI 1)), (5, .int (zI (i + 1))), (6, .int (zI (vn2 - vn1))), (7, .int (zI x)), (8, .int (zI j))] → W p l e (zRm 2 43) s m args below meth c H1 locs 0 0 (MQ below (zQi (fun r H => ∃ z : Int, r = zI z ∧ z = zFl tc tn ∧ -1 ≤ z ∧ z ≤ 60 ∧ ∃ f gt od : Int → Int, RM g y sa ta oa f gt od hc hs tn H ∧ MF f w n ee en hc u un hs ∧ (∀ k, 0 ≤ k → k < tn → gt k = tc k) ∧ (z = -1 → SL f 246 (zLdS tc tn).1 (zLdS tc tn).2.1)) (zA4 y sa ta oa)) args s 0 0 (zA4 y sa ta oa)) (F0 m 251 ls []) := by
                                        intro z_f
                                        induction z_f with
                                        | zero => intro j f3 H1 locs b0 b1 blo hX hS z_m; exact absurd z_m (Nat.not_lt_zero _)
                                        | succ z_f ih251 =>
                                          intro j f3 H1 locs b0 b1 blo hX hS z_m251 ls hl
                                          have l3 := b1.1
                                          have nb3 := b1.2.1
                                          refine lv_iload hx hb dX10_reads_251 (lv_at hl 8 rfl) ?_
                                          refine lv_iload hx hb dX10_reads_253 (lv_at hl 7 rfl) ?_
                                          refine zv_iconst hx hb dX10_reads_255 ?_
                                          refine zv_isub hx hb dX10_reads_256 ?_
                                          refine lv_iload hx hb dX10_reads_257 (lv_at hl 6 rfl) ?_
                                          refine zv_imul hx hb dX10_reads_259 ?_
                                          rw [show (x - 1) * (vn2 - vn1) = mm - (vn2 - vn1) by rw [zSub1_mul, ← em]]
                                          refine zv_icmp_ge (tgt := 308) hx hb dX10_reads_260 (by decide) (by omega) (by omega) (fun c260 => ?_) (fun c260 => ?_)
                                          · refine zv_iinc (lv' := [(2, .int (zI (q + 1 + 1))), (0, .ref y), (1, .int (zI 246)), (3, .int (zI vn1)), (4, .int (zI 1)), (5, .int (zI (i + 1))), (6, .int (zI (vn2 - vn1))), (7, .int (zI x)), (8, .int (zI j))]) hx hb dX10_reads_308 hl (k := 2) rfl (by decide) rfl (fun ls hl => ?_)
                                            refine lv_goto (tgt := 13) hx hb dX10_reads_311 (by decide) ?_
                                            exact ih13 (q + 1 + 1) f3 (zRep v2 vn2 vn1) (vn2 + j) vn1 0 _ _ (by omega) (by
                                              have ej : vn2 + j = vn2 + (tc (q + 1) - 48 - 1) * (vn2 - vn1) := by rw [← hgq, show gt (q + 1) - 48 = x from ex.symm, zSub1_mul, ← em]; omega
                                              rw [zSt_next (by omega) s7, ej]
                                              exact zTk_dig (by omega) rfl (by omega)) (b1) (fun z => absurd rfl z) (blo) (hX) (hS) (by omega) _ (lv_sub hl [1, 2, 0] rfl)
                                          · refine lv_aload_n hx hb dX10_reads_263 rfl (lv_at hl 0 rfl) ?_
                                            refine va_get (D := g.1) (ci := 5) (v := .ref sa) (C := RX10) (T := TX10) (N := 6) hx hb hts mX10_reads_0 hown hK (hX.gy) 0 rfl rfl 0 (by decide) (hts _ mX10_reads_1) (fun _ h9 => h9) rfl dX10_reads_264 ?_
                                            refine lv_iload_n hx hb dX10_reads_267 rfl (lv_at hl 1 rfl) ?_
                                            refine lv_dup2_11 hx hb dX10_reads_268 rfl rfl ?_
                                            refine zy_ild hx hb hK hX (by omega) dX10_reads_269 ?_
                                            refine zv_iconst hx hb dX10_reads_270 ?_
                                            refine zv_iadd hx hb dX10_reads_271 ?_
                                            refine zy_ist hx hb hK hX hS (by omega) (by omega) dX10_reads_272 (fun H1 locs hX hS => ?_)
                                            obtain ⟨f272, e272⟩ : ∃ z9, z9 = zApp f3 246 ((f3 246) + 1) := ⟨_, rfl⟩
                                            rw [← e272] at hX
                                            have r272 : f272 246 = (f3 246) + 1 := by rw [e272]; exact zApp_eq _ _ _
                                            have q272 : ∀ x9, x9 ≠ 246 → f272 x9 = f3 x9 := fun x9 h => by rw [e272]; exact zApp_ne h
                                            have l272 : f272 246 = vn2 + j + 1 := by omega
                                            refine lv_aload_n hx hb dX10_reads_273 rfl (lv_at hl 0 rfl) ?_
                                            refine va_get (D := g.1) (ci := 5) (v := .ref sa) (C := RX10) (T := TX10) (N := 6) hx hb hts mX10_reads_0 hown hK (hX.gy) 0 rfl rfl 0 (by decide) (hts _ mX10_reads_1) (fun _ h9 => h9) rfl dX10_reads_274 ?_
                                            refine lv_iload_n hx hb dX10_reads_277 rfl (lv_at hl 1 rfl) ?_
                                            refine lv_aload_n hx hb dX10_reads_278 rfl (lv_at hl 0 rfl) ?_
                                            refine va_get (D := g.1) (ci := 5) (v := .ref sa) (C := RX10) (T := TX10) (N := 6) hx hb hts mX10_reads_0 hown hK (hX.gy) 0 rfl rfl 0 (by decide) (hts _ mX10_reads_1) (fun _ h9 => h9) rfl dX10_reads_279 ?_
                                            refine lv_iload_n hx hb dX10_reads_282 rfl (lv_at hl 1 rfl) ?_
                                            refine zy_ild hx hb hK hX (by omega) dX10_reads_283 ?_
                                            refine zv_iadd hx hb dX10_reads_284 ?_
                                            refine lv_aload_n hx hb dX10_reads_285 rfl (lv_at hl 0 rfl) ?_
                                            refine va_get (D := g.1) (ci := 5) (v := .ref sa) (C := RX10) (T := TX10) (N := 6) hx hb hts mX10_reads_0 hown hK (hX.gy) 0 rfl rfl 0 (by decide) (hts _ mX10_reads_1) (fun _ h9 => h9) rfl dX10_reads_286 ?_
                                            refine lv_iload_n hx hb dX10_reads_289 rfl (lv_at hl 1 rfl) ?_
                                            refine lv_aload_n hx hb dX10_reads_290 rfl (lv_at hl 0 rfl) ?_
                                            refine va_get (D := g.1) (ci := 5) (v := .ref sa) (C := RX10) (T := TX10) (N := 6) hx hb hts mX10_reads_0 hown hK (hX.gy) 0 rfl rfl 0 (by decide) (hts _ mX10_reads_1) (fun _ h9 => h9) rfl dX10_reads_291 ?_
                                            refine lv_iload_n hx hb dX10_reads_294 rfl (lv_at hl 1 rfl) ?_
                                            refine zy_ild hx hb hK hX (by omega) dX10_reads_295 ?_
                                            refine zv_iadd hx hb dX10_reads_296 ?_
                                            refine lv_iload hx hb dX10_reads_297 (lv_at hl 6 rfl) ?_
                                            refine zv_isub hx hb dX10_reads_299 ?_
                                            refine zy_ild hx hb hK hX (by omega) dX10_reads_300 ?_
                                            refine zy_ist hx hb hK hX hS (by omega) (hX.gf (by omega)) dX10_reads_301 (fun H1 locs hX hS => ?_)
                                            obtain ⟨f301, e301⟩ : ∃ z9, z9 = zApp f272 (246 + (f272 246)) (f272 ((246 + (f272 246)) - (vn2 - vn1))) := ⟨_, rfl⟩
                                            rw [← e301] at hX
                                            have r301 : f301 (246 + (f272 246)) = f272 ((246 + (f272 246)) - (vn2 - vn1)) := by rw [e301]; exact zApp_eq _ _ _
                                            have q301 : ∀ x9, x9 ≠ 246 + (f272 246) → f301 x9 = f272 x9 := fun x9 h => by rw [e301]; exact zApp_ne h
                                            refine zv_iinc (lv' := [(8, .int (zI (j + 1))), (0, .ref y), (1, .int (zI 246)), (2, .int (zI (q + 1))), (3, .int (zI vn1)), (4, .int (zI 1)), (5, .int (zI (i + 1))), (6, .int (zI (vn2 - vn1))), (7, .int (zI x))]) hx hb dX10_reads_302 hl (k := 8) rfl (by decide) rfl (fun ls hl => ?_)
                                            refine lv_goto (tgt := 251) hx hb dX10_reads_305 (by decide) ?_
                                            exact ih251 (j + 1) f301 _ _ (by omega) (((b1.app (x := zRep v2 vn2 vn1 (vn2 + j)) (f2 := f301) (by omega) (zRep_bd ⟨by omega, by omega⟩ (fun k a b => (a2.2.2 k a b).2) _ (by omega)) (by rw [q301 246 (by omega), r272, l3]) (by rw [show (246 : Int) + 1 + (vn2 + j) = 246 + f272 246 by omega, r301, q272 _ (by omega), show 246 + f272 246 - (vn2 - vn1) = 246 + 1 + (vn2 + j - (vn2 - vn1)) by omega, (b1.2.2 (vn2 + j - (vn2 - vn1)) (by omega) (by omega)).1]; exact zRep_per ⟨by omega, by omega⟩ (by omega)) (fun k a b => by rw [q301 k (by omega), q272 k (by omega)])).word (n2 := vn2 + (j + 1)) (by omega) (fun k a b => zApp_self))) (fun k a b => by rw [q301 k (by omega), q272 k (by omega)]; exact blo k a b) (hX) (hS) (by omega) _ (lv_sub hl [1, 2, 3, 4, 5, 6, 7, 8, 0] rfl)
                                      exact lp251 _ 0 f2 _ _ (by omega) (a2.word (by omega) (fun k a b => zRep_lo (by omega))) (alo) (hX) (hS) (Nat.lt_succ_self _) _ (lv_sub hl [4, 5, 3, 6, 7, 8, 2, 1, 0] rfl)
                                    · refine lv_iload_n hx hb dX10_reads_246 rfl (lv_at hl 2 rfl) ?_
                                      exact zw_i hx hb hr hlocks hS dX10_reads_247 (⟨_, rfl, (zFl_here s7 (by omega) (fun z => ⟨fun v => by omega, fun v => Or.inr (by rw [← hgq, show gt (q + 1) - 48 = x from ex.symm, zSub1_mul, ← em]; omega), fun v => by omega, fun v => by omega⟩) (fun v => by omega)).symm, by omega, by omega, _, _, _, hX, hm.scr hR.1 alo, hgt, fun z => absurd z (by omega)⟩)
                            · refine lv_iload_n hx hb dX10_reads_174 rfl (lv_at hl 2 rfl) ?_
                              exact zw_i hx hb hr hlocks hS dX10_reads_175 (⟨_, rfl, (zFl_here a1 (by omega) (fun z => ⟨hex z, fun _ => Or.inl rfl, fun _ => rfl, fun v => by have := hgt q (by omega) (by omega); omega⟩) (fun _ => Or.inl rfl)).symm, by omega, by omega, _, _, _, hX, hm.scr hR.1 alo, hgt, fun z => absurd z (by omega)⟩)
                      · refine lv_iload_n hx hb dX10_reads_148 rfl (lv_at hl 2 rfl) ?_
                        exact zw_i hx hb hr hlocks hS dX10_reads_149 (⟨_, rfl, (zFl_here a1 (by omega) (fun z => ⟨hex z, fun _ => Or.inl rfl, fun _ => rfl, fun _ => Or.inr (by omega)⟩) (fun _ => Or.inl rfl)).symm, by omega, by omega, _, _, _, hX, hm.scr hR.1 alo, hgt, fun z => absurd z (by omega)⟩)
                    · refine lv_iload hx hb dX10_reads_93 (lv_at hl 4 rfl) ?_
                      refine zv_if_ne (tgt := 104) hx hb dX10_reads_95 (by decide) (by omega) (fun c95 => ?_) (fun c95 => ?_)
                      · have hgq := hgt q (by omega) (by omega)
                        refine lv_aload_n hx hb dX10_reads_104 rfl (lv_at hl 0 rfl) ?_
                        refine va_get (D := g.1) (ci := 5) (v := .ref sa) (C := RX10) (T := TX10) (N := 6) hx hb hts mX10_reads_0 hown hK (hX.gy) 0 rfl rfl 0 (by decide) (hts _ mX10_reads_1) (fun _ h9 => h9) rfl dX10_reads_105 ?_
                        refine lv_iload_n hx hb dX10_reads_108 rfl (lv_at hl 1 rfl) ?_
                        refine lv_dup2_11 hx hb dX10_reads_109 rfl rfl ?_
                        refine zy_ild hx hb hK hX (by omega) dX10_reads_110 ?_
                        refine zv_iconst hx hb dX10_reads_111 ?_
                        refine zv_iadd hx hb dX10_reads_112 ?_
                        refine zy_ist hx hb hK hX hS (by omega) (by omega) dX10_reads_113 (fun H1 locs hX hS => ?_)
                        obtain ⟨f113, e113⟩ : ∃ z9, z9 = zApp f2 246 ((f2 246) + 1) := ⟨_, rfl⟩
                        rw [← e113] at hX
                        have r113 : f113 246 = (f2 246) + 1 := by rw [e113]; exact zApp_eq _ _ _
                        have q113 : ∀ x9, x9 ≠ 246 → f113 x9 = f2 x9 := fun x9 h => by rw [e113]; exact zApp_ne h
                        have l113 : f113 246 = vn2 + 1 := by omega
                        refine lv_aload_n hx hb dX10_reads_114 rfl (lv_at hl 0 rfl) ?_
                        refine va_get (D := g.1) (ci := 5) (v := .ref sa) (C := RX10) (T := TX10) (N := 6) hx hb hts mX10_reads_0 hown hK (hX.gy) 0 rfl rfl 0 (by decide) (hts _ mX10_reads_1) (fun _ h9 => h9) rfl dX10_reads_115 ?_
                        refine lv_iload_n hx hb dX10_reads_118 rfl (lv_at hl 1 rfl) ?_
                        refine lv_aload_n hx hb dX10_reads_119 rfl (lv_at hl 0 rfl) ?_
                        refine va_get (D := g.1) (ci := 5) (v := .ref sa) (C := RX10) (T := TX10) (N := 6) hx hb hts mX10_reads_0 hown hK (hX.gy) 0 rfl rfl 0 (by decide) (hts _ mX10_reads_1) (fun _ h9 => h9) rfl dX10_reads_120 ?_
                        refine lv_iload_n hx hb dX10_reads_123 rfl (lv_at hl 1 rfl) ?_
                        refine zy_ild hx hb hK hX (by omega) dX10_reads_124 ?_
                        refine zv_iadd hx hb dX10_reads_125 ?_
                        refine lv_aload_n hx hb dX10_reads_126 rfl (lv_at hl 0 rfl) ?_
                        refine va_get (D := g.1) (ci := 5) (v := .ref ta) (C := RX10) (T := TX10) (N := 6) hx hb hts mX10_reads_0 hown hK (hX.gy) 0 rfl rfl 3 (by decide) (hts _ mX10_reads_3) (fun _ h9 => h9) rfl dX10_reads_127 ?_
                        refine lv_iload_n hx hb dX10_reads_130 rfl (lv_at hl 2 rfl) ?_
                        refine zy_tld hx hb hK hX (by omega) dX10_reads_131 ?_
                        refine zv_bipush hx hb dX10_reads_132 (by decide +kernel) ?_
                        refine zv_isub hx hb dX10_reads_134 ?_
                        refine zy_ist hx hb hK hX hS (by omega) (by omega) dX10_reads_135 (fun H1 locs hX hS => ?_)
                        obtain ⟨f135, e135⟩ : ∃ z9, z9 = zApp f113 (246 + (f113 246)) ((gt q) - 97) := ⟨_, rfl⟩
                        rw [← e135] at hX
                        have r135 : f135 (246 + (f113 246)) = (gt q) - 97 := by rw [e135]; exact zApp_eq _ _ _
                        have q135 : ∀ x9, x9 ≠ 246 + (f113 246) → f135 x9 = f113 x9 := fun x9 h => by rw [e135]; exact zApp_ne h
                        refine zv_iinc (lv' := [(2, .int (zI (q + 1))), (0, .ref y), (1, .int (zI 246)), (3, .int (zI vn1)), (4, .int (zI 1)), (5, .int (zI (i + 1)))]) hx hb dX10_reads_136 hl (k := 2) rfl (by decide) rfl (fun ls hl => ?_)
                        refine lv_goto (tgt := 74) hx hb dX10_reads_139 (by decide) ?_
                        exact ih74 (q + 1) f135 (zApp v2 vn2 (gt q - 97)) (vn2 + 1) _ _ (by omega) (by rw [zSt_next (by omega) a1, ← hgq]; exact zTk_let1 (by omega) (by omega)) (((a2.app (x := gt q - 97) (f2 := f135) (by omega) (by omega) (by rw [q135 246 (by omega), r113, l2]) (by rw [show (246 : Int) + 1 + vn2 = 246 + f113 246 by omega]; exact r135) (fun k a b => by rw [q135 k (by omega), q113 k (by omega)])))) (fun k a b => by rw [q135 k (by omega), q113 k (by omega)]; exact alo k a b) (hX) (hS) (by omega) _ (lv_sub hl [1, 2, 0, 3, 4, 5] rfl)
                      · exfalso; omega
              exact lp74 _ (i + 1) f1 v1 vn1 _ _ (by omega) (by rw [zSt_next h0.1 h1]; exact zTk_open (by rw [← hgt i h0.1 (by omega)]; omega)) (h2) (hlo) (hX) (hS) (Nat.lt_succ_self _) _ (lv_sub hl [4, 5, 1, 3, 2, 0] rfl)
      · refine lv_iload_n hx hb dX10_reads_21 rfl (lv_at hl 2 rfl) ?_
        refine zv_if_ne (tgt := 314) hx hb dX10_reads_22 (by decide) (by omega) (fun c22 => ?_) (fun c22 => ?_)
        · refine zv_iconst hx hb dX10_reads_314 ?_
          exact zw_i hx hb hr hlocks hS dX10_reads_315 (⟨_, rfl, (zFl_ok (tn := tn) (by rw [← show i = tn by omega]; exact h1) (by omega) (h0.2.2.1 c22)).symm, by omega, by omega, _, _, _, hX, hm.scr hR.1 hlo, hgt, fun _ => by rw [zLdS_of (tn := tn) (r := (v1, vn1, pf1, 0, bp1)) (by rw [← show i = tn by omega]; exact h1)]; exact h2⟩)
        · refine lv_aload_n hx hb dX10_reads_25 rfl (lv_at hl 0 rfl) ?_
          refine va_get (D := g.1) (ci := 5) (v := .ref sa) (C := RX10) (T := TX10) (N := 6) hx hb hts mX10_reads_0 hown hK (hX.gy) 0 rfl rfl 0 (by decide) (hts _ mX10_reads_1) (fun _ h9 => h9) rfl dX10_reads_26 ?_
          refine lv_iload_n hx hb dX10_reads_29 rfl (lv_at hl 1 rfl) ?_
          refine zy_ild hx hb hK hX (by omega) dX10_reads_30 ?_
          rw [l1]
          refine lv_istore_n (lv' := [(3, .int (zI vn1)), (0, .ref y), (1, .int (zI 246)), (2, .int (zI i))]) hx hb dX10_reads_31 rfl hl (by decide) rfl (fun ls hl => ?_)
          refine lv_iload_n hx hb dX10_reads_32 rfl (lv_at hl 3 rfl) ?_
          refine lv_aload_n hx hb dX10_reads_33 rfl (lv_at hl 1 rfl) ?_
          refine va_get (D := g.1) (ci := 5) (v := .int (zI tn)) (C := RX10) (T := TX10) (N := 6) hx hb hts mX10_reads_0 hown hK (hX.gy) 0 rfl rfl 4 (by decide) (hts _ mX10_reads_2) (fun _ h9 => h9) rfl dX10_reads_34 ?_
          refine zv_icmp_ge (tgt := 55) hx hb dX10_reads_37 (by decide) (by omega) (by omega) (fun c37 => ?_) (fun c37 => ?_)
          · have n40 : i < tn → tc i ≠ 40 := fun z => absurd z (by omega)
            refine zv_iconst hx hb dX10_reads_55 ?_
            refine lv_istore (lv' := [(4, .int (zI 0)), (3, .int (zI vn1)), (0, .ref y), (1, .int (zI 246)), (2, .int (zI i))]) hx hb dX10_reads_56 hl (by decide) rfl (fun ls hl => ?_)
            refine lv_iload_n hx hb dX10_reads_58 rfl (lv_at hl 4 rfl) ?_
            refine lv_iload hx hb dX10_reads_59 (lv_at hl 0 rfl) ?_
            refine zv_if_eq (tgt := 68) hx hb dX10_reads_61 (by decide) (by omega) (fun c61 => ?_) (fun c61 => ?_)
            · refine zv_iconst hx hb dX10_reads_68 ?_
              refine zv_iadd hx hb dX10_reads_69 ?_
              refine lv_istore_n (lv' := [(2, .int (zI (i + 0))), (4, .int (zI 0)), (3, .int (zI vn1)), (0, .ref y), (1, .int (zI 246))]) hx hb dX10_reads_70 rfl hl (by decide) rfl (fun ls hl => ?_)
              refine lv_iload_n hx hb dX10_reads_71 rfl (lv_at hl 0 rfl) ?_
              refine lv_istore (lv' := [(5, .int (zI (i + 0))), (2, .int (zI (i + 0))), (4, .int (zI 0)), (3, .int (zI vn1)), (0, .ref y), (1, .int (zI 246))]) hx hb dX10_reads_72 hl (by decide) rfl (fun ls hl => ?_)
              have lp74 : ∀ (z_f : Nat) (q : Int) (f2 : Int → Int) (v2 : Int → Int) (vn2 : Int) (pf2 : Int) (bp2 : Int) (H1 : Heap) (locs : List Loc), (i ≤ q ∧ q ≤ i + 1 ∧ q ≤ tn ∧ vn2 - vn1 = q - i) → (zSt tc q.toNat = some (v2, vn2, pf2, 0, bp2)) → (q = i + 1 → pf2 = vn1 ∧ bp2 = 1) → (q = i → bp2 ≠ 0 → i < tn → ¬ (50 ≤ tc i ∧ tc i ≤ 57)) → (SL f2 246 v2 vn2) → (∀ k, 0 ≤ k → k < 246 → f2 k = f k) → (RM g y sa ta oa f2 gt od hc hs tn H1) → (va_S (zA4 y sa ta oa) s.heap H1 locs) → ((tn - q).toNat) < z_f → ∀ (ls : Array Slot), lv_has ls 9 [(0, .ref y), (1, .int (zI 246)), (2, .int (zI q)), (3, .int (zI vn1)), (4, .int (zI 0)), (5, .int (zI (i + 0)))] → W p l e (zRm 2 43) s m args below meth c H1 locs 0 0 (MQ below (zQi (fun r H => ∃ z : Int, r = zI z ∧ z = zFl tc tn ∧ -1 ≤ z ∧ z ≤ 60 ∧ ∃ f gt od : Int → Int, RM g y sa ta oa f gt od hc hs tn H ∧ MF f w n ee en hc u un hs ∧ (∀ k, 0 ≤ k → k < tn → gt k = tc k) ∧ (z = -1 → SL f 246 (zLdS tc tn).1 (zLdS tc tn).2.1)) (zA4 y sa ta oa)) args s 0 0 (zA4 y sa ta oa)) (F0 m 74 ls []) := by
                intro z_f
                induction z_f with
                | zero => intro q f2 v2 vn2 pf2 bp2 H1 locs a0 a1 a3 a4 a2 alo hX hS z_m; exact absurd z_m (Nat.not_lt_zero _)
                | succ z_f ih74 =>
                  intro q f2 v2 vn2 pf2 bp2 H1 locs a0 a1 a3 a4 a2 alo hX hS z_m74 ls hl
                  have l2 := a2.1
                  have nb2 := a2.2.1
                  refine lv_aload_n hx hb dX10_reads_74 rfl (lv_at hl 0 rfl) ?_
                  refine lv_iload_n hx hb dX10_reads_75 rfl (lv_at hl 2 rfl) ?_
                  refine zc_V (As := [.int (zI q)]) (rest := []) S hK (kX10_isLetter l g y sa ta oa f2 gt od hc hs tn q (by omega)) (cwV 1 hts gX10_reads_X10_isLetter rfl rfl rfl (by decide +kernel) ⟨Nat.le_of_ble_eq_true rfl, Nat.le_of_ble_eq_true rfl⟩) (hX) (hX.recv hK) rfl hl.1 rfl (Nat.le_of_ble_eq_true rfl) dX10_reads_76 ⟨Nat.zero_le _, Nat.zero_le _⟩ (fun r76 hr76 => ?_)
                  obtain rfl := hr76
                  refine zv_ifB_eq (tgt := 142) hx hb dX10_reads_79 (by decide) (fun c79 => ?_) (fun c79 => ?_)
                  · have hex : q < tn → 97 ≤ tc q ∧ tc q ≤ 122 → 40 ≤ vn2 := fun z v => absurd ⟨z, by rw [hgt q (by omega) z]; exact v⟩ c79
                    refine lv_iload_n hx hb dX10_reads_142 rfl (lv_at hl 2 rfl) ?_
                    refine lv_iload hx hb dX10_reads_143 (lv_at hl 5 rfl) ?_
                    refine zv_icmp_ne (tgt := 150) hx hb dX10_reads_145 (by decide) (by omega) (by omega) (fun c145 => ?_) (fun c145 => ?_)
                    · refine lv_iload hx hb dX10_reads_150 (lv_at hl 4 rfl) ?_
                      refine zv_if_eq (tgt := 176) hx hb dX10_reads_152 (by decide) (by omega) (fun c152 => ?_) (fun c152 => ?_)
                      · refine lv_iload_n hx hb dX10_reads_176 rfl (lv_at hl 2 rfl) ?_
                        refine lv_iload hx hb dX10_reads_177 (lv_at hl 4 rfl) ?_
                        refine zv_if_eq (tgt := 186) hx hb dX10_reads_179 (by decide) (by omega) (fun c179 => ?_) (fun c179 => ?_)
                        · refine zv_iconst hx hb dX10_reads_186 ?_
                          refine zv_iadd hx hb dX10_reads_187 ?_
                          refine lv_istore_n (lv' := [(2, .int (zI (q + 0))), (0, .ref y), (1, .int (zI 246)), (3, .int (zI vn1)), (4, .int (zI 0)), (5, .int (zI (i + 0)))]) hx hb dX10_reads_188 rfl hl (by decide) rfl (fun ls hl => ?_)
                          have eq1 : q = i + 1 := by omega
                          have s7 : zSt tc (q + 0).toNat = some (v2, vn2, vn1, 0, 1) := by rw [show q + 0 = q by omega, a1, (a3 eq1).1, (a3 eq1).2]
                          refine lv_aload_n hx hb dX10_reads_189 rfl (lv_at hl 1 rfl) ?_
                          refine va_get (D := g.1) (ci := 5) (v := .ref sa) (C := RX10) (T := TX10) (N := 6) hx hb hts mX10_reads_0 hown hK (hX.gy) 0 rfl rfl 0 (by decide) (hts _ mX10_reads_1) (fun _ h9 => h9) rfl dX10_reads_190 ?_
                          refine lv_iload_n hx hb dX10_reads_193 rfl (lv_at hl 2 rfl) ?_
                          refine zy_ild hx hb hK hX (by omega) dX10_reads_194 ?_
                          rw [l2]
                          refine lv_iload_n hx hb dX10_reads_195 rfl (lv_at hl 3 rfl) ?_
                          refine zv_isub hx hb dX10_reads_196 ?_
                          refine lv_istore (lv' := [(6, .int (zI (vn2 - vn1))), (2, .int (zI (q + 0))), (0, .ref y), (1, .int (zI 246)), (3, .int (zI vn1)), (4, .int (zI 0)), (5, .int (zI (i + 0)))]) hx hb dX10_reads_197 hl (by decide) rfl (fun ls hl => ?_)
                          refine lv_iload_n hx hb dX10_reads_199 rfl (lv_at hl 1 rfl) ?_
                          refine lv_aload_n hx hb dX10_reads_200 rfl (lv_at hl 2 rfl) ?_
                          refine va_get (D := g.1) (ci := 5) (v := .int (zI tn)) (C := RX10) (T := TX10) (N := 6) hx hb hts mX10_reads_0 hown hK (hX.gy) 0 rfl rfl 4 (by decide) (hts _ mX10_reads_2) (fun _ h9 => h9) rfl dX10_reads_201 ?_
                          refine zv_icmp_ge (tgt := 311) hx hb dX10_reads_204 (by decide) (by omega) (by omega) (fun c204 => ?_) (fun c204 => ?_)
                          · refine lv_goto (tgt := 13) hx hb dX10_reads_311 (by decide) ?_
                            exact ih13 (q + 0) f2 v2 vn2 vn1 1 _ _ (by omega) (s7) (a2) (fun _ z y => by first | omega | exact c220 (by rw [← hgt _ (by omega) z] at y; exact y)) (alo) (hX) (hS) (by omega) _ (lv_sub hl [2, 3, 1] rfl)
                          · refine lv_aload_n hx hb dX10_reads_207 rfl (lv_at hl 2 rfl) ?_
                            refine va_get (D := g.1) (ci := 5) (v := .ref ta) (C := RX10) (T := TX10) (N := 6) hx hb hts mX10_reads_0 hown hK (hX.gy) 0 rfl rfl 3 (by decide) (hts _ mX10_reads_3) (fun _ h9 => h9) rfl dX10_reads_208 ?_
                            refine lv_iload_n hx hb dX10_reads_211 rfl (lv_at hl 1 rfl) ?_
                            refine zy_tld hx hb hK hX (by omega) dX10_reads_212 ?_
                            have g8 := hX.gg (k := q + 0) (by omega)
                            refine zv_bipush hx hb dX10_reads_213 (by decide +kernel) ?_
                            refine zv_bipush hx hb dX10_reads_215 (by decide +kernel) ?_
                            refine zc_S (As := [.int (zI (gt (q + 0))), .int (zI 50), .int (zI 57)]) (rest := []) S hK (kX10_in l g (gt (q + 0)) 50 57 (by omega) (by omega) (by omega)) (va_cwS 3 hts gX10_reads_X10_in rfl rfl rfl (by decide +kernel) ⟨Nat.le_of_ble_eq_true rfl, Nat.le_of_ble_eq_true rfl⟩) (trivial) rfl hl.1 rfl (Nat.le_of_ble_eq_true rfl) dX10_reads_217 ⟨Nat.zero_le _, Nat.zero_le _⟩ (fun r217 hr217 => ?_)
                            obtain rfl := hr217
                            refine zv_ifB_eq (tgt := 311) hx hb dX10_reads_220 (by decide) (fun c220 => ?_) (fun c220 => ?_)
                            · refine lv_goto (tgt := 13) hx hb dX10_reads_311 (by decide) ?_
                              exact ih13 (q + 0) f2 v2 vn2 vn1 1 _ _ (by omega) (s7) (a2) (fun _ z y => by first | omega | exact c220 (by rw [← hgt _ (by omega) z] at y; exact y)) (alo) (hX) (hS) (by omega) _ (lv_sub hl [2, 3, 1] rfl)
                            · refine lv_aload_n hx hb dX10_reads_223 rfl (lv_at hl 2 rfl) ?_
                              refine va_get (D := g.1) (ci := 5) (v := .ref ta) (C := RX10) (T := TX10) (N := 6) hx hb hts mX10_reads_0 hown hK (hX.gy) 0 rfl rfl 3 (by decide) (hts _ mX10_reads_3) (fun _ h9 => h9) rfl dX10_reads_224 ?_
                              refine lv_iload_n hx hb dX10_reads_227 rfl (lv_at hl 1 rfl) ?_
                              refine zy_tld hx hb hK hX (by omega) dX10_reads_228 ?_
                              refine zv_bipush hx hb dX10_reads_229 (by decide +kernel) ?_
                              refine zv_isub hx hb dX10_reads_231 ?_
                              obtain ⟨x, ex⟩ : ∃ x, x = gt (q + 0) - 48 := ⟨_, rfl⟩
                              rw [← ex]
                              obtain ⟨mm, em⟩ : ∃ m, m = x * (vn2 - vn1) := ⟨_, rfl⟩
                              have hgq := hgt (q + 0) (by omega) (by omega)
                              have bm := zMulBd9 (a := x) (b := vn2 - vn1) (by omega) (by omega)
                              rw [← em] at bm
                              have bm2 := Int.mul_nonneg (show 0 ≤ x - 1 by omega) (show 0 ≤ vn2 - vn1 by omega)
                              rw [zSub1_mul, ← em] at bm2
                              refine lv_istore (lv' := [(7, .int (zI x)), (6, .int (zI (vn2 - vn1))), (2, .int (zI (q + 0))), (0, .ref y), (1, .int (zI 246)), (3, .int (zI vn1)), (4, .int (zI 0)), (5, .int (zI (i + 0)))]) hx hb dX10_reads_232 hl (by decide) rfl (fun ls hl => ?_)
                              refine lv_iload_n hx hb dX10_reads_234 rfl (lv_at hl 5 rfl) ?_
                              refine lv_iload hx hb dX10_reads_235 (lv_at hl 0 rfl) ?_
                              refine lv_iload hx hb dX10_reads_237 (lv_at hl 1 rfl) ?_
                              refine zv_imul hx hb dX10_reads_239 ?_
                              rw [← em]
                              refine zv_iadd hx hb dX10_reads_240 ?_
                              refine zv_bipush hx hb dX10_reads_241 (by decide +kernel) ?_
                              refine zv_icmp_le (tgt := 248) hx hb dX10_reads_243 (by decide) (by omega) (by omega) (fun c243 => ?_) (fun c243 => ?_)
                              · refine zv_iconst hx hb dX10_reads_248 ?_
                                refine lv_istore (lv' := [(8, .int (zI 0)), (7, .int (zI x)), (6, .int (zI (vn2 - vn1))), (2, .int (zI (q + 0))), (0, .ref y), (1, .int (zI 246)), (3, .int (zI vn1)), (4, .int (zI 0)), (5, .int (zI (i + 0)))]) hx hb dX10_reads_249 hl (by decide) rfl (fun ls hl => ?_)
                                have lp251 : ∀ (z_f : Nat) (j : Int) (f3 : Int → Int) (H1 : Heap) (locs : List Loc), (0 ≤ j ∧ j ≤ mm - (vn2 - vn1)) → (SL f3 246 (zRep v2 vn2 vn1) (vn2 + j)) → (∀ k, 0 ≤ k → k < 246 → f3 k = f k) → (RM g y sa ta oa f3 gt od hc hs tn H1) → (va_S (zA4 y sa ta oa) s.heap H1 locs) → ((mm - (vn2 - vn1) - j).toNat) < z_f → ∀ (ls : Array Slot), lv_has ls 9 [(0, .ref y), (1, .int (zI 246)), (2, .int (zI (q + 0))), (3, .int (zI vn1)), (4, .int (zI 0)), (5, .int (zI (i + 0))), (6, .int (zI (vn2 - vn1))), (7, .int (zI x)), (8, .int (zI j))] → W p l e (zRm 2 43) s m args below meth c H1 locs 0 0 (MQ below (zQi (fun r H => ∃ z : Int, r = zI z ∧ z = zFl tc tn ∧ -1 ≤ z ∧ z ≤ 60 ∧ ∃ f gt od : Int → Int, RM g y sa ta oa f gt od hc hs tn H ∧ MF f w n ee en hc u un hs ∧ (∀ k, 0 ≤ k → k < tn → gt k = tc k) ∧ (z = -1 → SL f 246 (zLdS tc tn).1 (zLdS tc tn).2.1)) (zA4 y sa ta oa)) args s 0 0 (zA4 y sa ta oa)) (F0 m 251 ls []) := by
                                  intro z_f
                                  induction z_f with
                                  | zero => intro j f3 H1 locs b0 b1 blo hX hS z_m; exact absurd z_m (Nat.not_lt_zero _)
                                  | succ z_f ih251 =>
                                    intro j f3 H1 locs b0 b1 blo hX hS z_m251 ls hl
                                    have l3 := b1.1
                                    have nb3 := b1.2.1
                                    refine lv_iload hx hb dX10_reads_251 (lv_at hl 8 rfl) ?_
                                    refine lv_iload hx hb dX10_reads_253 (lv_at hl 7 rfl) ?_
                                    refine zv_iconst hx hb dX10_reads_255 ?_
                                    refine zv_isub hx hb dX10_reads_256 ?_
                                    refine lv_iload hx hb dX10_reads_257 (lv_at hl 6 rfl) ?_
                                    refine zv_imul hx hb dX10_reads_259 ?_
                                    rw [show (x - 1) * (vn2 - vn1) = mm - (vn2 - vn1) by rw [zSub1_mul, ← em]]
                                    refine zv_icmp_ge (tgt := 308) hx hb dX10_reads_260 (by decide) (by omega) (by omega) (fun c260 => ?_) (fun c260 => ?_)
                                    · refine zv_iinc (lv' := [(2, .int (zI (q + 0 + 1))), (0, .ref y), (1, .int (zI 246)), (3, .int (zI vn1)), (4, .int (zI 0)), (5, .int (zI (i + 0))), (6, .int (zI (vn2 - vn1))), (7, .int (zI x)), (8, .int (zI j))]) hx hb dX10_reads_308 hl (k := 2) rfl (by decide) rfl (fun ls hl => ?_)
                                      refine lv_goto (tgt := 13) hx hb dX10_reads_311 (by decide) ?_
                                      exact ih13 (q + 0 + 1) f3 (zRep v2 vn2 vn1) (vn2 + j) vn1 0 _ _ (by omega) (by
                                        have ej : vn2 + j = vn2 + (tc (q + 0) - 48 - 1) * (vn2 - vn1) := by rw [← hgq, show gt (q + 0) - 48 = x from ex.symm, zSub1_mul, ← em]; omega
                                        rw [zSt_next (by omega) s7, ej]
                                        exact zTk_dig (by omega) rfl (by omega)) (b1) (fun z => absurd rfl z) (blo) (hX) (hS) (by omega) _ (lv_sub hl [1, 2, 0] rfl)
                                    · refine lv_aload_n hx hb dX10_reads_263 rfl (lv_at hl 0 rfl) ?_
                                      refine va_get (D := g.1) (ci := 5) (v := .ref sa) (C := RX10) (T := TX10) (N := 6) hx hb hts mX10_reads_0 hown hK (hX.gy) 0 rfl rfl 0 (by decide) (hts _ mX10_reads_1) (fun _ h9 => h9) rfl dX10_reads_264 ?_
                                      refine lv_iload_n hx hb dX10_reads_267 rfl (lv_at hl 1 rfl) ?_
                                      refine lv_dup2_11 hx hb dX10_reads_268 rfl rfl ?_
                                      refine zy_ild hx hb hK hX (by omega) dX10_reads_269 ?_
                                      refine zv_iconst hx hb dX10_reads_270 ?_
                                      refine zv_iadd hx hb dX10_reads_271 ?_
                                      refine zy_ist hx hb hK hX hS (by omega) (by omega) dX10_reads_272 (fun H1 locs hX hS => ?_)
                                      obtain ⟨f272, e272⟩ : ∃ z9, z9 = zApp f3 246 ((f3 246) + 1) := ⟨_, rfl⟩
                                      rw [← e272] at hX
                                      have r272 : f272 246 = (f3 246) + 1 := by rw [e272]; exact zApp_eq _ _ _
                                      have q272 : ∀ x9, x9 ≠ 246 → f272 x9 = f3 x9 := fun x9 h => by rw [e272]; exact zApp_ne h
                                      have l272 : f272 246 = vn2 + j + 1 := by omega
                                      refine lv_aload_n hx hb dX10_reads_273 rfl (lv_at hl 0 rfl) ?_
                                      refine va_get (D := g.1) (ci := 5) (v := .ref sa) (C := RX10) (T := TX10) (N := 6) hx hb hts mX10_reads_0 hown hK (hX.gy) 0 rfl rfl 0 (by decide) (hts _ mX10_reads_1) (fun _ h9 => h9) rfl dX10_reads_274 ?_
                                      refine lv_iload_n hx hb dX10_reads_277 rfl (lv_at hl 1 rfl) ?_
                                      refine lv_aload_n hx hb dX10_reads_278 rfl (lv_at hl 0 rfl) ?_
                                      refine va_get (D := g.1) (ci := 5) (v := .ref sa) (C := RX10) (T := TX10) (N := 6) hx hb hts mX10_reads_0 hown hK (hX.gy) 0 rfl rfl 0 (by decide) (hts _ mX10_reads_1) (fun _ h9 => h9) rfl dX10_reads_279 ?_
                                      refine lv_iload_n hx hb dX10_reads_282 rfl (lv_at hl 1 rfl) ?_
                                      refine zy_ild hx hb hK hX (by omega) dX10_reads_283 ?_
                                      refine zv_iadd hx hb dX10_reads_284 ?_
                                      refine lv_aload_n hx hb dX10_reads_285 rfl (lv_at hl 0 rfl) ?_
                                      refine va_get (D := g.1) (ci := 5) (v := .ref sa) (C := RX10) (T := TX10) (N := 6) hx hb hts mX10_reads_0 hown hK (hX.gy) 0 rfl rfl 0 (by decide) (hts _ mX10_reads_1) (fun _ h9 => h9) rfl dX10_reads_286 ?_
                                      refine lv_iload_n hx hb dX10_reads_289 rfl (lv_at hl 1 rfl) ?_
                                      refine lv_aload_n hx hb dX10_reads_290 rfl (lv_at hl 0 rfl) ?_
                                      refine va_get (D := g.1) (ci := 5) (v := .ref sa) (C := RX10) (T := TX10) (N := 6) hx hb hts mX10_reads_0 hown hK (hX.gy) 0 rfl rfl 0 (by decide) (hts _ mX10_reads_1) (fun _ h9 => h9) rfl dX10_reads_291 ?_
                                      refine lv_iload_n hx hb dX10_reads_294 rfl (lv_at hl 1 rfl) ?_
                                      refine zy_ild hx hb hK hX (by omega) dX10_reads_295 ?_
                                      refine zv_iadd hx hb dX10_reads_296 ?_
                                      refine lv_iload hx hb dX10_reads_297 (lv_at hl 6 rfl) ?_
                                      refine zv_isub hx hb dX10_reads_299 ?_
                                      refine zy_ild hx hb hK hX (by omega) dX10_reads_300 ?_
                                      refine zy_ist hx hb hK hX hS (by omega) (hX.gf (by omega)) dX10_reads_301 (fun H1 locs hX hS => ?_)
                                      obtain ⟨f301, e301⟩ : ∃ z9, z9 = zApp f272 (246 + (f272 246)) (f272 ((246 + (f272 246)) - (vn2 - vn1))) := ⟨_, rfl⟩
                                      rw [← e301] at hX
                                      have r301 : f301 (246 + (f272 246)) = f272 ((246 + (f272 246)) - (vn2 - vn1)) := by rw [e301]; exact zApp_eq _ _ _
                                      have q301 : ∀ x9, x9 ≠ 246 + (f272 246) → f301 x9 = f272 x9 := fun x9 h => by rw [e301]; exact zApp_ne h
                                      refine zv_iinc (lv' := [(8, .int (zI (j + 1))), (0, .ref y), (1, .int (zI 246)), (2, .int (zI (q + 0))), (3, .int (zI vn1)), (4, .int (zI 0)), (5, .int (zI (i + 0))), (6, .int (zI (vn2 - vn1))), (7, .int (zI x))]) hx hb dX10_reads_302 hl (k := 8) rfl (by decide) rfl (fun ls hl => ?_)
                                      refine lv_goto (tgt := 251) hx hb dX10_reads_305 (by decide) ?_
                                      exact ih251 (j + 1) f301 _ _ (by omega) (((b1.app (x := zRep v2 vn2 vn1 (vn2 + j)) (f2 := f301) (by omega) (zRep_bd ⟨by omega, by omega⟩ (fun k a b => (a2.2.2 k a b).2) _ (by omega)) (by rw [q301 246 (by omega), r272, l3]) (by rw [show (246 : Int) + 1 + (vn2 + j) = 246 + f272 246 by omega, r301, q272 _ (by omega), show 246 + f272 246 - (vn2 - vn1) = 246 + 1 + (vn2 + j - (vn2 - vn1)) by omega, (b1.2.2 (vn2 + j - (vn2 - vn1)) (by omega) (by omega)).1]; exact zRep_per ⟨by omega, by omega⟩ (by omega)) (fun k a b => by rw [q301 k (by omega), q272 k (by omega)])).word (n2 := vn2 + (j + 1)) (by omega) (fun k a b => zApp_self))) (fun k a b => by rw [q301 k (by omega), q272 k (by omega)]; exact blo k a b) (hX) (hS) (by omega) _ (lv_sub hl [1, 2, 3, 4, 5, 6, 7, 8, 0] rfl)
                                exact lp251 _ 0 f2 _ _ (by omega) (a2.word (by omega) (fun k a b => zRep_lo (by omega))) (alo) (hX) (hS) (Nat.lt_succ_self _) _ (lv_sub hl [4, 5, 3, 6, 7, 8, 2, 1, 0] rfl)
                              · refine lv_iload_n hx hb dX10_reads_246 rfl (lv_at hl 2 rfl) ?_
                                exact zw_i hx hb hr hlocks hS dX10_reads_247 (⟨_, rfl, (zFl_here s7 (by omega) (fun z => ⟨fun v => by omega, fun v => Or.inr (by rw [← hgq, show gt (q + 0) - 48 = x from ex.symm, zSub1_mul, ← em]; omega), fun v => by omega, fun v => by omega⟩) (fun v => by omega)).symm, by omega, by omega, _, _, _, hX, hm.scr hR.1 alo, hgt, fun z => absurd z (by omega)⟩)
                        · exfalso; omega
                      · exfalso; omega
                    · refine lv_iload_n hx hb dX10_reads_148 rfl (lv_at hl 2 rfl) ?_
                      exact zw_i hx hb hr hlocks hS dX10_reads_149 (⟨_, rfl, (zFl_here a1 (by omega) (fun z => ⟨hex z, fun v => Or.inl (Classical.byContradiction fun v2 => a4 (by omega) v2 (by omega) (by rw [← show q = i by omega]; exact v)), fun v => absurd v (by rw [show q = i by omega]; exact n40 (by omega)), fun _ => Or.inl rfl⟩) (fun z => Or.inr (by have := h0.2.2.2 (by omega); omega))).symm, by omega, by omega, _, _, _, hX, hm.scr hR.1 alo, hgt, fun z => absurd z (by omega)⟩)
                  · refine lv_aload_n hx hb dX10_reads_82 rfl (lv_at hl 0 rfl) ?_
                    refine va_get (D := g.1) (ci := 5) (v := .ref sa) (C := RX10) (T := TX10) (N := 6) hx hb hts mX10_reads_0 hown hK (hX.gy) 0 rfl rfl 0 (by decide) (hts _ mX10_reads_1) (fun _ h9 => h9) rfl dX10_reads_83 ?_
                    refine lv_iload_n hx hb dX10_reads_86 rfl (lv_at hl 1 rfl) ?_
                    refine zy_ild hx hb hK hX (by omega) dX10_reads_87 ?_
                    refine zv_bipush hx hb dX10_reads_88 (by decide +kernel) ?_
                    refine zv_icmp_ge (tgt := 142) hx hb dX10_reads_90 (by decide) (by omega) (by omega) (fun c90 => ?_) (fun c90 => ?_)
                    · have hex : q < tn → 97 ≤ tc q ∧ tc q ≤ 122 → 40 ≤ vn2 := fun _ _ => by omega
                      refine lv_iload_n hx hb dX10_reads_142 rfl (lv_at hl 2 rfl) ?_
                      refine lv_iload hx hb dX10_reads_143 (lv_at hl 5 rfl) ?_
                      refine zv_icmp_ne (tgt := 150) hx hb dX10_reads_145 (by decide) (by omega) (by omega) (fun c145 => ?_) (fun c145 => ?_)
                      · refine lv_iload hx hb dX10_reads_150 (lv_at hl 4 rfl) ?_
                        refine zv_if_eq (tgt := 176) hx hb dX10_reads_152 (by decide) (by omega) (fun c152 => ?_) (fun c152 => ?_)
                        · refine lv_iload_n hx hb dX10_reads_176 rfl (lv_at hl 2 rfl) ?_
                          refine lv_iload hx hb dX10_reads_177 (lv_at hl 4 rfl) ?_
                          refine zv_if_eq (tgt := 186) hx hb dX10_reads_179 (by decide) (by omega) (fun c179 => ?_) (fun c179 => ?_)
                          · refine zv_iconst hx hb dX10_reads_186 ?_
                            refine zv_iadd hx hb dX10_reads_187 ?_
                            refine lv_istore_n (lv' := [(2, .int (zI (q + 0))), (0, .ref y), (1, .int (zI 246)), (3, .int (zI vn1)), (4, .int (zI 0)), (5, .int (zI (i + 0)))]) hx hb dX10_reads_188 rfl hl (by decide) rfl (fun ls hl => ?_)
                            have eq1 : q = i + 1 := by omega
                            have s7 : zSt tc (q + 0).toNat = some (v2, vn2, vn1, 0, 1) := by rw [show q + 0 = q by omega, a1, (a3 eq1).1, (a3 eq1).2]
                            refine lv_aload_n hx hb dX10_reads_189 rfl (lv_at hl 1 rfl) ?_
                            refine va_get (D := g.1) (ci := 5) (v := .ref sa) (C := RX10) (T := TX10) (N := 6) hx hb hts mX10_reads_0 hown hK (hX.gy) 0 rfl rfl 0 (by decide) (hts _ mX10_reads_1) (fun _ h9 => h9) rfl dX10_reads_190 ?_
                            refine lv_iload_n hx hb dX10_reads_193 rfl (lv_at hl 2 rfl) ?_
                            refine zy_ild hx hb hK hX (by omega) dX10_reads_194 ?_
                            rw [l2]
                            refine lv_iload_n hx hb dX10_reads_195 rfl (lv_at hl 3 rfl) ?_
                            refine zv_isub hx hb dX10_reads_196 ?_
                            refine lv_istore (lv' := [(6, .int (zI (vn2 - vn1))), (2, .int (zI (q + 0))), (0, .ref y), (1, .int (zI 246)), (3, .int (zI vn1)), (4, .int (zI 0)), (5, .int (zI (i + 0)))]) hx hb dX10_reads_197 hl (by decide) rfl (fun ls hl => ?_)
                            refine lv_iload_n hx hb dX10_reads_199 rfl (lv_at hl 1 rfl) ?_
                            refine lv_aload_n hx hb dX10_reads_200 rfl (lv_at hl 2 rfl) ?_
                            refine va_get (D := g.1) (ci := 5) (v := .int (zI tn)) (C := RX10) (T := TX10) (N := 6) hx hb hts mX10_reads_0 hown hK (hX.gy) 0 rfl rfl 4 (by decide) (hts _ mX10_reads_2) (fun _ h9 => h9) rfl dX10_reads_201 ?_
                            refine zv_icmp_ge (tgt := 311) hx hb dX10_reads_204 (by decide) (by omega) (by omega) (fun c204 => ?_) (fun c204 => ?_)
                            · refine lv_goto (tgt := 13) hx hb dX10_reads_311 (by decide) ?_
                              exact ih13 (q + 0) f2 v2 vn2 vn1 1 _ _ (by omega) (s7) (a2) (fun _ z y => by first | omega | exact c220 (by rw [← hgt _ (by omega) z] at y; exact y)) (alo) (hX) (hS) (by omega) _ (lv_sub hl [2, 3, 1] rfl)
                            · refine lv_aload_n hx hb dX10_reads_207 rfl (lv_at hl 2 rfl) ?_
                              refine va_get (D := g.1) (ci := 5) (v := .ref ta) (C := RX10) (T := TX10) (N := 6) hx hb hts mX10_reads_0 hown hK (hX.gy) 0 rfl rfl 3 (by decide) (hts _ mX10_reads_3) (fun _ h9 => h9) rfl dX10_reads_208 ?_
                              refine lv_iload_n hx hb dX10_reads_211 rfl (lv_at hl 1 rfl) ?_
                              refine zy_tld hx hb hK hX (by omega) dX10_reads_212 ?_
                              have g8 := hX.gg (k := q + 0) (by omega)
                              refine zv_bipush hx hb dX10_reads_213 (by decide +kernel) ?_
                              refine zv_bipush hx hb dX10_reads_215 (by decide +kernel) ?_
                              refine zc_S (As := [.int (zI (gt (q + 0))), .int (zI 50), .int (zI 57)]) (rest := []) S hK (kX10_in l g (gt (q + 0)) 50 57 (by omega) (by omega) (by omega)) (va_cwS 3 hts gX10_reads_X10_in rfl rfl rfl (by decide +kernel) ⟨Nat.le_of_ble_eq_true rfl, Nat.le_of_ble_eq_true rfl⟩) (trivial) rfl hl.1 rfl (Nat.le_of_ble_eq_true rfl) dX10_reads_217 ⟨Nat.zero_le _, Nat.zero_le _⟩ (fun r217 hr217 => ?_)
                              obtain rfl := hr217
                              refine zv_ifB_eq (tgt := 311) hx hb dX10_reads_220 (by decide) (fun c220 => ?_) (fun c220 => ?_)
                              · refine lv_goto (tgt := 13) hx hb dX10_reads_311 (by decide) ?_
                                exact ih13 (q + 0) f2 v2 vn2 vn1 1 _ _ (by omega) (s7) (a2) (fun _ z y => by first | omega | exact c220 (by rw [← hgt _ (by omega) z] at y; exact y)) (alo) (hX) (hS) (by omega) _ (lv_sub hl [2, 3, 1] rfl)
                              · refine lv_aload_n hx hb dX10_reads_223 rfl (lv_at hl 2 rfl) ?_
                                refine va_get (D := g.1) (ci := 5) (v := .ref ta) (C := RX10) (T := TX10) (N := 6) hx hb hts mX10_reads_0 hown hK (hX.gy) 0 rfl rfl 3 (by decide) (hts _ mX10_reads_3) (fun _ h9 => h9) rfl dX10_reads_224 ?_
                                refine lv_iload_n hx hb dX10_reads_227 rfl (lv_at hl 1 rfl) ?_
                                refine zy_tld hx hb hK hX (by omega) dX10_reads_228 ?_
                                refine zv_bipush hx hb dX10_reads_229 (by decide +kernel) ?_
                                refine zv_isub hx hb dX10_reads_231 ?_
                                obtain ⟨x, ex⟩ : ∃ x, x = gt (q + 0) - 48 := ⟨_, rfl⟩
                                rw [← ex]
                                obtain ⟨mm, em⟩ : ∃ m, m = x * (vn2 - vn1) := ⟨_, rfl⟩
                                have hgq := hgt (q + 0) (by omega) (by omega)
                                have bm := zMulBd9 (a := x) (b := vn2 - vn1) (by omega) (by omega)
                                rw [← em] at bm
                                have bm2 := Int.mul_nonneg (show 0 ≤ x - 1 by omega) (show 0 ≤ vn2 - vn1 by omega)
                                rw [zSub1_mul, ← em] at bm2
                                refine lv_istore (lv' := [(7, .int (zI x)), (6, .int (zI (vn2 - vn1))), (2, .int (zI (q + 0))), (0, .ref y), (1, .int (zI 246)), (3, .int (zI vn1)), (4, .int (zI 0)), (5, .int (zI (i + 0)))]) hx hb dX10_reads_232 hl (by decide) rfl (fun ls hl => ?_)
                                refine lv_iload_n hx hb dX10_reads_234 rfl (lv_at hl 5 rfl) ?_
                                refine lv_iload hx hb dX10_reads_235 (lv_at hl 0 rfl) ?_
                                refine lv_iload hx hb dX10_reads_237 (lv_at hl 1 rfl) ?_
                                refine zv_imul hx hb dX10_reads_239 ?_
                                rw [← em]
                                refine zv_iadd hx hb dX10_reads_240 ?_
                                refine zv_bipush hx hb dX10_reads_241 (by decide +kernel) ?_
                                refine zv_icmp_le (tgt := 248) hx hb dX10_reads_243 (by decide) (by omega) (by omega) (fun c243 => ?_) (fun c243 => ?_)
                                · refine zv_iconst hx hb dX10_reads_248 ?_
                                  refine lv_istore (lv' := [(8, .int (zI 0)), (7, .int (zI x)), (6, .int (zI (vn2 - vn1))), (2, .int (zI (q + 0))), (0, .ref y), (1, .int (zI 246)), (3, .int (zI vn1)), (4, .int (zI 0)), (5, .int (zI (i + 0)))]) hx hb dX10_reads_249 hl (by decide) rfl (fun ls hl => ?_)
                                  have lp251 : ∀ (z_f : Nat) (j : Int) (f3 : Int → Int) (H1 : Heap) (locs : List Loc), (0 ≤ j ∧ j ≤ mm - (vn2 - vn1)) → (SL f3 246 (zRep v2 vn2 vn1) (vn2 + j)) → (∀ k, 0 ≤ k → k < 246 → f3 k = f k) → (RM g y sa ta oa f3 gt od hc hs tn H1) → (va_S (zA4 y sa ta oa) s.heap H1 locs) → ((mm - (vn2 - vn1) - j).toNat) < z_f → ∀ (ls : Array Slot), lv_has ls 9 [(0, .ref y), (1, .int (zI 246)), (2, .int (zI (q + 0))), (3, .int (zI vn1)), (4, .int (zI 0)), (5, .int (zI (i + 0))), (6, .int (zI (vn2 - vn1))), (7, .int (zI x)), (8, .int (zI j))] → W p l e (zRm 2 43) s m args below meth c H1 locs 0 0 (MQ below (zQi (fun r H => ∃ z : Int, r = zI z ∧ z = zFl tc tn ∧ -1 ≤ z ∧ z ≤ 60 ∧ ∃ f gt od : Int → Int, RM g y sa ta oa f gt od hc hs tn H ∧ MF f w n ee en hc u un hs ∧ (∀ k, 0 ≤ k → k < tn → gt k = tc k) ∧ (z = -1 → SL f 246 (zLdS tc tn).1 (zLdS tc tn).2.1)) (zA4 y sa ta oa)) args s 0 0 (zA4 y sa ta oa)) (F0 m 251 ls []) := by
                                    intro z_f
                                    induction z_f with
                                    | zero => intro j f3 H1 locs b0 b1 blo hX hS z_m; exact absurd z_m (Nat.not_lt_zero _)
                                    | succ z_f ih251 =>
                                      intro j f3 H1 locs b0 b1 blo hX hS z_m251 ls hl
                                      have l3 := b1.1
                                      have nb3 := b1.2.1
                                      refine lv_iload hx hb dX10_reads_251 (lv_at hl 8 rfl) ?_
                                      refine lv_iload hx hb dX10_reads_253 (lv_at hl 7 rfl) ?_
                                      refine zv_iconst hx hb dX10_reads_255 ?_
                                      refine zv_isub hx hb dX10_reads_256 ?_
                                      refine lv_iload hx hb dX10_reads_257 (lv_at hl 6 rfl) ?_
                                      refine zv_imul hx hb dX10_reads_259 ?_
                                      rw [show (x - 1) * (vn2 - vn1) = mm - (vn2 - vn1) by rw [zSub1_mul, ← em]]
                                      refine zv_icmp_ge (tgt := 308) hx hb dX10_reads_260 (by decide) (by omega) (by omega) (fun c260 => ?_) (fun c260 => ?_)
                                      · refine zv_iinc (lv' := [(2, .int (zI (q + 0 + 1))), (0, .ref y), (1, .int (zI 246)), (3, .int (zI vn1)), (4, .int (zI 0)), (5, .int (zI (i + 0))), (6, .int (zI (vn2 - vn1))), (7, .int (zI x)), (8, .int (zI j))]) hx hb dX10_reads_308 hl (k := 2) rfl (by decide) rfl (fun ls hl => ?_)
                                        refine lv_goto (tgt := 13) hx hb dX10_reads_311 (by decide) ?_
                                        exact ih13 (q + 0 + 1) f3 (zRep v2 vn2 vn1) (vn2 + j) vn1 0 _ _ (by omega) (by
                                          have ej : vn2 + j = vn2 + (tc (q + 0) - 48 - 1) * (vn2 - vn1) := by rw [← hgq, show gt (q + 0) - 48 = x from ex.symm, zSub1_mul, ← em]; omega
                                          rw [zSt_next (by omega) s7, ej]
                                          exact zTk_dig (by omega) rfl (by omega)) (b1) (fun z => absurd rfl z) (blo) (hX) (hS) (by omega) _ (lv_sub hl [1, 2, 0] rfl)
                                      · refine lv_aload_n hx hb dX10_reads_263 rfl (lv_at hl 0 rfl) ?_
                                        refine va_get (D := g.1) (ci := 5) (v := .ref sa) (C := RX10) (T := TX10) (N := 6) hx hb hts mX10_reads_0 hown hK (hX.gy) 0 rfl rfl 0 (by decide) (hts _ mX10_reads_1) (fun _ h9 => h9) rfl dX10_reads_264 ?_
                                        refine lv_iload_n hx hb dX10_reads_267 rfl (lv_at hl 1 rfl) ?_
                                        refine lv_dup2_11 hx hb dX10_reads_268 rfl rfl ?_
                                        refine zy_ild hx hb hK hX (by omega) dX10_reads_269 ?_
                                        refine zv_iconst hx hb dX10_reads_270 ?_
                                        refine zv_iadd hx hb dX10_reads_271 ?_
                                        refine zy_ist hx hb hK hX hS (by omega) (by omega) dX10_reads_272 (fun H1 locs hX hS => ?_)
                                        obtain ⟨f272, e272⟩ : ∃ z9, z9 = zApp f3 246 ((f3 246) + 1) := ⟨_, rfl⟩
                                        rw [← e272] at hX
                                        have r272 : f272 246 = (f3 246) + 1 := by rw [e272]; exact zApp_eq _ _ _
                                        have q272 : ∀ x9, x9 ≠ 246 → f272 x9 = f3 x9 := fun x9 h => by rw [e272]; exact zApp_ne h
                                        have l272 : f272 246 = vn2 + j + 1 := by omega
                                        refine lv_aload_n hx hb dX10_reads_273 rfl (lv_at hl 0 rfl) ?_
                                        refine va_get (D := g.1) (ci := 5) (v := .ref sa) (C := RX10) (T := TX10) (N := 6) hx hb hts mX10_reads_0 hown hK (hX.gy) 0 rfl rfl 0 (by decide) (hts _ mX10_reads_1) (fun _ h9 => h9) rfl dX10_reads_274 ?_
                                        refine lv_iload_n hx hb dX10_reads_277 rfl (lv_at hl 1 rfl) ?_
                                        refine lv_aload_n hx hb dX10_reads_278 rfl (lv_at hl 0 rfl) ?_
                                        refine va_get (D := g.1) (ci := 5) (v := .ref sa) (C := RX10) (T := TX10) (N := 6) hx hb hts mX10_reads_0 hown hK (hX.gy) 0 rfl rfl 0 (by decide) (hts _ mX10_reads_1) (fun _ h9 => h9) rfl dX10_reads_279 ?_
                                        refine lv_iload_n hx hb dX10_reads_282 rfl (lv_at hl 1 rfl) ?_
                                        refine zy_ild hx hb hK hX (by omega) dX10_reads_283 ?_
                                        refine zv_iadd hx hb dX10_reads_284 ?_
                                        refine lv_aload_n hx hb dX10_reads_285 rfl (lv_at hl 0 rfl) ?_
                                        refine va_get (D := g.1) (ci := 5) (v := .ref sa) (C := RX10) (T := TX10) (N := 6) hx hb hts mX10_reads_0 hown hK (hX.gy) 0 rfl rfl 0 (by decide) (hts _ mX10_reads_1) (fun _ h9 => h9) rfl dX10_reads_286 ?_
                                        refine lv_iload_n hx hb dX10_reads_289 rfl (lv_at hl 1 rfl) ?_
                                        refine lv_aload_n hx hb dX10_reads_290 rfl (lv_at hl 0 rfl) ?_
                                        refine va_get (D := g.1) (ci := 5) (v := .ref sa) (C := RX10) (T := TX10) (N := 6) hx hb hts mX10_reads_0 hown hK (hX.gy) 0 rfl rfl 0 (by decide) (hts _ mX10_reads_1) (fun _ h9 => h9) rfl dX10_reads_291 ?_
                                        refine lv_iload_n hx hb dX10_reads_294 rfl (lv_at hl 1 rfl) ?_
                                        refine zy_ild hx hb hK hX (by omega) dX10_reads_295 ?_
                                        refine zv_iadd hx hb dX10_reads_296 ?_
                                        refine lv_iload hx hb dX10_reads_297 (lv_at hl 6 rfl) ?_
                                        refine zv_isub hx hb dX10_reads_299 ?_
                                        refine zy_ild hx hb hK hX (by omega) dX10_reads_300 ?_
                                        refine zy_ist hx hb hK hX hS (by omega) (hX.gf (by omega)) dX10_reads_301 (fun H1 locs hX hS => ?_)
                                        obtain ⟨f301, e301⟩ : ∃ z9, z9 = zApp f272 (246 + (f272 246)) (f272 ((246 + (f272 246)) - (vn2 - vn1))) := ⟨_, rfl⟩
                                        rw [← e301] at hX
                                        have r301 : f301 (246 + (f272 246)) = f272 ((246 + (f272 246)) - (vn2 - vn1)) := by rw [e301]; exact zApp_eq _ _ _
                                        have q301 : ∀ x9, x9 ≠ 246 + (f272 246) → f301 x9 = f272 x9 := fun x9 h => by rw [e301]; exact zApp_ne h
                                        refine zv_iinc (lv' := [(8, .int (zI (j + 1))), (0, .ref y), (1, .int (zI 246)), (2, .int (zI (q + 0))), (3, .int (zI vn1)), (4, .int (zI 0)), (5, .int (zI (i + 0))), (6, .int (zI (vn2 - vn1))), (7, .int (zI x))]) hx hb dX10_reads_302 hl (k := 8) rfl (by decide) rfl (fun ls hl => ?_)
                                        refine lv_goto (tgt := 251) hx hb dX10_reads_305 (by decide) ?_
                                        exact ih251 (j + 1) f301 _ _ (by omega) (((b1.app (x := zRep v2 vn2 vn1 (vn2 + j)) (f2 := f301) (by omega) (zRep_bd ⟨by omega, by omega⟩ (fun k a b => (a2.2.2 k a b).2) _ (by omega)) (by rw [q301 246 (by omega), r272, l3]) (by rw [show (246 : Int) + 1 + (vn2 + j) = 246 + f272 246 by omega, r301, q272 _ (by omega), show 246 + f272 246 - (vn2 - vn1) = 246 + 1 + (vn2 + j - (vn2 - vn1)) by omega, (b1.2.2 (vn2 + j - (vn2 - vn1)) (by omega) (by omega)).1]; exact zRep_per ⟨by omega, by omega⟩ (by omega)) (fun k a b => by rw [q301 k (by omega), q272 k (by omega)])).word (n2 := vn2 + (j + 1)) (by omega) (fun k a b => zApp_self))) (fun k a b => by rw [q301 k (by omega), q272 k (by omega)]; exact blo k a b) (hX) (hS) (by omega) _ (lv_sub hl [1, 2, 3, 4, 5, 6, 7, 8, 0] rfl)
                                  exact lp251 _ 0 f2 _ _ (by omega) (a2.word (by omega) (fun k a b => zRep_lo (by omega))) (alo) (hX) (hS) (Nat.lt_succ_self _) _ (lv_sub hl [4, 5, 3, 6, 7, 8, 2, 1, 0] rfl)
                                · refine lv_iload_n hx hb dX10_reads_246 rfl (lv_at hl 2 rfl) ?_
                                  exact zw_i hx hb hr hlocks hS dX10_reads_247 (⟨_, rfl, (zFl_here s7 (by omega) (fun z => ⟨fun v => by omega, fun v => Or.inr (by rw [← hgq, show gt (q + 0) - 48 = x from ex.symm, zSub1_mul, ← em]; omega), fun v => by omega, fun v => by omega⟩) (fun v => by omega)).symm, by omega, by omega, _, _, _, hX, hm.scr hR.1 alo, hgt, fun z => absurd z (by omega)⟩)
                          · exfalso; omega
                        · exfalso; omega
                      · refine lv_iload_n hx hb dX10_reads_148 rfl (lv_at hl 2 rfl) ?_
                        exact zw_i hx hb hr hlocks hS dX10_reads_149 (⟨_, rfl, (zFl_here a1 (by omega) (fun z => ⟨hex z, fun v => Or.inl (Classical.byContradiction fun v2 => a4 (by omega) v2 (by omega) (by rw [← show q = i by omega]; exact v)), fun v => absurd v (by rw [show q = i by omega]; exact n40 (by omega)), fun _ => Or.inl rfl⟩) (fun z => Or.inr (by have := h0.2.2.2 (by omega); omega))).symm, by omega, by omega, _, _, _, hX, hm.scr hR.1 alo, hgt, fun z => absurd z (by omega)⟩)
                    · refine lv_iload hx hb dX10_reads_93 (lv_at hl 4 rfl) ?_
                      refine zv_if_ne (tgt := 104) hx hb dX10_reads_95 (by decide) (by omega) (fun c95 => ?_) (fun c95 => ?_)
                      · exfalso; omega
                      · have hgq := hgt q (by omega) (by omega)
                        refine lv_iload_n hx hb dX10_reads_98 rfl (lv_at hl 2 rfl) ?_
                        refine lv_iload hx hb dX10_reads_99 (lv_at hl 5 rfl) ?_
                        refine zv_icmp_ne (tgt := 142) hx hb dX10_reads_101 (by decide) (by omega) (by omega) (fun c101 => ?_) (fun c101 => ?_)
                        · refine lv_iload_n hx hb dX10_reads_142 rfl (lv_at hl 2 rfl) ?_
                          refine lv_iload hx hb dX10_reads_143 (lv_at hl 5 rfl) ?_
                          refine zv_icmp_ne (tgt := 150) hx hb dX10_reads_145 (by decide) (by omega) (by omega) (fun c145 => ?_) (fun c145 => ?_)
                          · refine lv_iload hx hb dX10_reads_150 (lv_at hl 4 rfl) ?_
                            refine zv_if_eq (tgt := 176) hx hb dX10_reads_152 (by decide) (by omega) (fun c152 => ?_) (fun c152 => ?_)
                            · refine lv_iload_n hx hb dX10_reads_176 rfl (lv_at hl 2 rfl) ?_
                              refine lv_iload hx hb dX10_reads_177 (lv_at hl 4 rfl) ?_
                              refine zv_if_eq (tgt := 186) hx hb dX10_reads_179 (by decide) (by omega) (fun c179 => ?_) (fun c179 => ?_)
                              · refine zv_iconst hx hb dX10_reads_186 ?_
                                refine zv_iadd hx hb dX10_reads_187 ?_
                                refine lv_istore_n (lv' := [(2, .int (zI (q + 0))), (0, .ref y), (1, .int (zI 246)), (3, .int (zI vn1)), (4, .int (zI 0)), (5, .int (zI (i + 0)))]) hx hb dX10_reads_188 rfl hl (by decide) rfl (fun ls hl => ?_)
                                have eq1 : q = i + 1 := by omega
                                have s7 : zSt tc (q + 0).toNat = some (v2, vn2, vn1, 0, 1) := by rw [show q + 0 = q by omega, a1, (a3 eq1).1, (a3 eq1).2]
                                refine lv_aload_n hx hb dX10_reads_189 rfl (lv_at hl 1 rfl) ?_
                                refine va_get (D := g.1) (ci := 5) (v := .ref sa) (C := RX10) (T := TX10) (N := 6) hx hb hts mX10_reads_0 hown hK (hX.gy) 0 rfl rfl 0 (by decide) (hts _ mX10_reads_1) (fun _ h9 => h9) rfl dX10_reads_190 ?_
                                refine lv_iload_n hx hb dX10_reads_193 rfl (lv_at hl 2 rfl) ?_
                                refine zy_ild hx hb hK hX (by omega) dX10_reads_194 ?_
                                rw [l2]
                                refine lv_iload_n hx hb dX10_reads_195 rfl (lv_at hl 3 rfl) ?_
                                refine zv_isub hx hb dX10_reads_196 ?_
                                refine lv_istore (lv' := [(6, .int (zI (vn2 - vn1))), (2, .int (zI (q + 0))), (0, .ref y), (1, .int (zI 246)), (3, .int (zI vn1)), (4, .int (zI 0)), (5, .int (zI (i + 0)))]) hx hb dX10_reads_197 hl (by decide) rfl (fun ls hl => ?_)
                                refine lv_iload_n hx hb dX10_reads_199 rfl (lv_at hl 1 rfl) ?_
                                refine lv_aload_n hx hb dX10_reads_200 rfl (lv_at hl 2 rfl) ?_
                                refine va_get (D := g.1) (ci := 5) (v := .int (zI tn)) (C := RX10) (T := TX10) (N := 6) hx hb hts mX10_reads_0 hown hK (hX.gy) 0 rfl rfl 4 (by decide) (hts _ mX10_reads_2) (fun _ h9 => h9) rfl dX10_reads_201 ?_
                                refine zv_icmp_ge (tgt := 311) hx hb dX10_reads_204 (by decide) (by omega) (by omega) (fun c204 => ?_) (fun c204 => ?_)
                                · refine lv_goto (tgt := 13) hx hb dX10_reads_311 (by decide) ?_
                                  exact ih13 (q + 0) f2 v2 vn2 vn1 1 _ _ (by omega) (s7) (a2) (fun _ z y => by first | omega | exact c220 (by rw [← hgt _ (by omega) z] at y; exact y)) (alo) (hX) (hS) (by omega) _ (lv_sub hl [2, 3, 1] rfl)
                                · refine lv_aload_n hx hb dX10_reads_207 rfl (lv_at hl 2 rfl) ?_
                                  refine va_get (D := g.1) (ci := 5) (v := .ref ta) (C := RX10) (T := TX10) (N := 6) hx hb hts mX10_reads_0 hown hK (hX.gy) 0 rfl rfl 3 (by decide) (hts _ mX10_reads_3) (fun _ h9 => h9) rfl dX10_reads_208 ?_
                                  refine lv_iload_n hx hb dX10_reads_211 rfl (lv_at hl 1 rfl) ?_
                                  refine zy_tld hx hb hK hX (by omega) dX10_reads_212 ?_
                                  have g8 := hX.gg (k := q + 0) (by omega)
                                  refine zv_bipush hx hb dX10_reads_213 (by decide +kernel) ?_
                                  refine zv_bipush hx hb dX10_reads_215 (by decide +kernel) ?_
                                  refine zc_S (As := [.int (zI (gt (q + 0))), .int (zI 50), .int (zI 57)]) (rest := []) S hK (kX10_in l g (gt (q + 0)) 50 57 (by omega) (by omega) (by omega)) (va_cwS 3 hts gX10_reads_X10_in rfl rfl rfl (by decide +kernel) ⟨Nat.le_of_ble_eq_true rfl, Nat.le_of_ble_eq_true rfl⟩) (trivial) rfl hl.1 rfl (Nat.le_of_ble_eq_true rfl) dX10_reads_217 ⟨Nat.zero_le _, Nat.zero_le _⟩ (fun r217 hr217 => ?_)
                                  obtain rfl := hr217
                                  refine zv_ifB_eq (tgt := 311) hx hb dX10_reads_220 (by decide) (fun c220 => ?_) (fun c220 => ?_)
                                  · refine lv_goto (tgt := 13) hx hb dX10_reads_311 (by decide) ?_
                                    exact ih13 (q + 0) f2 v2 vn2 vn1 1 _ _ (by omega) (s7) (a2) (fun _ z y => by first | omega | exact c220 (by rw [← hgt _ (by omega) z] at y; exact y)) (alo) (hX) (hS) (by omega) _ (lv_sub hl [2, 3, 1] rfl)
                                  · refine lv_aload_n hx hb dX10_reads_223 rfl (lv_at hl 2 rfl) ?_
                                    refine va_get (D := g.1) (ci := 5) (v := .ref ta) (C := RX10) (T := TX10) (N := 6) hx hb hts mX10_reads_0 hown hK (hX.gy) 0 rfl rfl 3 (by decide) (hts _ mX10_reads_3) (fun _ h9 => h9) rfl dX10_reads_224 ?_
                                    refine lv_iload_n hx hb dX10_reads_227 rfl (lv_at hl 1 rfl) ?_
                                    refine zy_tld hx hb hK hX (by omega) dX10_reads_228 ?_
                                    refine zv_bipush hx hb dX10_reads_229 (by decide +kernel) ?_
                                    refine zv_isub hx hb dX10_reads_231 ?_
                                    obtain ⟨x, ex⟩ : ∃ x, x = gt (q + 0) - 48 := ⟨_, rfl⟩
                                    rw [← ex]
                                    obtain ⟨mm, em⟩ : ∃ m, m = x * (vn2 - vn1) := ⟨_, rfl⟩
                                    have hgq := hgt (q + 0) (by omega) (by omega)
                                    have bm := zMulBd9 (a := x) (b := vn2 - vn1) (by omega) (by omega)
                                    rw [← em] at bm
                                    have bm2 := Int.mul_nonneg (show 0 ≤ x - 1 by omega) (show 0 ≤ vn2 - vn1 by omega)
                                    rw [zSub1_mul, ← em] at bm2
                                    refine lv_istore (lv' := [(7, .int (zI x)), (6, .int (zI (vn2 - vn1))), (2, .int (zI (q + 0))), (0, .ref y), (1, .int (zI 246)), (3, .int (zI vn1)), (4, .int (zI 0)), (5, .int (zI (i + 0)))]) hx hb dX10_reads_232 hl (by decide) rfl (fun ls hl => ?_)
                                    refine lv_iload_n hx hb dX10_reads_234 rfl (lv_at hl 5 rfl) ?_
                                    refine lv_iload hx hb dX10_reads_235 (lv_at hl 0 rfl) ?_
                                    refine lv_iload hx hb dX10_reads_237 (lv_at hl 1 rfl) ?_
                                    refine zv_imul hx hb dX10_reads_239 ?_
                                    rw [← em]
                                    refine zv_iadd hx hb dX10_reads_240 ?_
                                    refine zv_bipush hx hb dX10_reads_241 (by decide +kernel) ?_
                                    refine zv_icmp_le (tgt := 248) hx hb dX10_reads_243 (by decide) (by omega) (by omega) (fun c243 => ?_) (fun c243 => ?_)
                                    · refine zv_iconst hx hb dX10_reads_248 ?_
                                      refine lv_istore (lv' := [(8, .int (zI 0)), (7, .int (zI x)), (6, .int (zI (vn2 - vn1))), (2, .int (zI (q + 0))), (0, .ref y), (1, .int (zI 246)), (3, .int (zI vn1)), (4, .int (zI 0)), (5, .int (zI (i + 0)))]) hx hb dX10_reads_249 hl (by decide) rfl (fun ls hl => ?_)
                                      have lp251 : ∀ (z_f : Nat) (j : Int) (f3 : Int → Int) (H1 : Heap) (locs : List Loc), (0 ≤ j ∧ j ≤ mm - (vn2 - vn1)) → (SL f3 246 (zRep v2 vn2 vn1) (vn2 + j)) → (∀ k, 0 ≤ k → k < 246 → f3 k = f k) → (RM g y sa ta oa f3 gt od hc hs tn H1) → (va_S (zA4 y sa ta oa) s.heap H1 locs) → ((mm - (vn2 - vn1) - j).toNat) < z_f → ∀ (ls : Array Slot), lv_has ls 9 [(0, .ref y), (1, .int (zI 246)), (2, .int (zI (q + 0))), (3, .int (zI vn1)), (4, .int (zI 0)), (5, .int (zI (i + 0))), (6, .int (zI (vn2 - vn1))), (7, .int (zI x)), (8, .int (zI j))] → W p l e (zRm 2 43) s m args below meth c H1 locs 0 0 (MQ below (zQi (fun r H => ∃ z : Int, r = zI z ∧ z = zFl tc tn ∧ -1 ≤ z ∧ z ≤ 60 ∧ ∃ f gt od : Int → Int, RM g y sa ta oa f gt od hc hs tn H ∧ MF f w n ee en hc u un hs ∧ (∀ k, 0 ≤ k → k < tn → gt k = tc k) ∧ (z = -1 → SL f 246 (zLdS tc tn).1 (zLdS tc tn).2.1)) (zA4 y sa ta oa)) args s 0 0 (zA4 y sa ta oa)) (F0 m 251 ls []) := by
                                        intro z_f
                                        induction z_f with
                                        | zero => intro j f3 H1 locs b0 b1 blo hX hS z_m; exact absurd z_m (Nat.not_lt_zero _)
                                        | succ z_f ih251 =>
                                          intro j f3 H1 locs b0 b1 blo hX hS z_m251 ls hl
                                          have l3 := b1.1
                                          have nb3 := b1.2.1
                                          refine lv_iload hx hb dX10_reads_251 (lv_at hl 8 rfl) ?_
                                          refine lv_iload hx hb dX10_reads_253 (lv_at hl 7 rfl) ?_
                                          refine zv_iconst hx hb dX10_reads_255 ?_
                                          refine zv_isub hx hb dX10_reads_256 ?_
                                          refine lv_iload hx hb dX10_reads_257 (lv_at hl 6 rfl) ?_
                                          refine zv_imul hx hb dX10_reads_259 ?_
                                          rw [show (x - 1) * (vn2 - vn1) = mm - (vn2 - vn1) by rw [zSub1_mul, ← em]]
                                          refine zv_icmp_ge (tgt := 308) hx hb dX10_reads_260 (by decide) (by omega) (by omega) (fun c260 => ?_) (fun c260 => ?_)
                                          · refine zv_iinc (lv' := [(2, .int (zI (q + 0 + 1))), (0, .ref y), (1, .int (zI 246)), (3, .int (zI vn1)), (4, .int (zI 0)), (5, .int (zI (i + 0))), (6, .int (zI (vn2 - vn1))), (7, .int (zI x)), (8, .int (zI j))]) hx hb dX10_reads_308 hl (k := 2) rfl (by decide) rfl (fun ls hl => ?_)
                                            refine lv_goto (tgt := 13) hx hb dX10_reads_311 (by decide) ?_
                                            exact ih13 (q + 0 + 1) f3 (zRep v2 vn2 vn1) (vn2 + j) vn1 0 _ _ (by omega) (by
                                              have ej : vn2 + j = vn2 + (tc (q + 0) - 48 - 1) * (vn2 - vn1) := by rw [← hgq, show gt (q + 0) - 48 = x from ex.symm, zSub1_mul, ← em]; omega
                                              rw [zSt_next (by omega) s7, ej]
                                              exact zTk_dig (by omega) rfl (by omega)) (b1) (fun z => absurd rfl z) (blo) (hX) (hS) (by omega) _ (lv_sub hl [1, 2, 0] rfl)
                                          · refine lv_aload_n hx hb dX10_reads_263 rfl (lv_at hl 0 rfl) ?_
                                            refine va_get (D := g.1) (ci := 5) (v := .ref sa) (C := RX10) (T := TX10) (N := 6) hx hb hts mX10_reads_0 hown hK (hX.gy) 0 rfl rfl 0 (by decide) (hts _ mX10_reads_1) (fun _ h9 => h9) rfl dX10_reads_264 ?_
                                            refine lv_iload_n hx hb dX10_reads_267 rfl (lv_at hl 1 rfl) ?_
                                            refine lv_dup2_11 hx hb dX10_reads_268 rfl rfl ?_
                                            refine zy_ild hx hb hK hX (by omega) dX10_reads_269 ?_
                                            refine zv_iconst hx hb dX10_reads_270 ?_
                                            refine zv_iadd hx hb dX10_reads_271 ?_
                                            refine zy_ist hx hb hK hX hS (by omega) (by omega) dX10_reads_272 (fun H1 locs hX hS => ?_)
                                            obtain ⟨f272, e272⟩ : ∃ z9, z9 = zApp f3 246 ((f3 246) + 1) := ⟨_, rfl⟩
                                            rw [← e272] at hX
                                            have r272 : f272 246 = (f3 246) + 1 := by rw [e272]; exact zApp_eq _ _ _
                                            have q272 : ∀ x9, x9 ≠ 246 → f272 x9 = f3 x9 := fun x9 h => by rw [e272]; exact zApp_ne h
                                            have l272 : f272 246 = vn2 + j + 1 := by omega
                                            refine lv_aload_n hx hb dX10_reads_273 rfl (lv_at hl 0 rfl) ?_
                                            refine va_get (D := g.1) (ci := 5) (v := .ref sa) (C := RX10) (T := TX10) (N := 6) hx hb hts mX10_reads_0 hown hK (hX.gy) 0 rfl rfl 0 (by decide) (hts _ mX10_reads_1) (fun _ h9 => h9) rfl dX10_reads_274 ?_
                                            refine lv_iload_n hx hb dX10_reads_277 rfl (lv_at hl 1 rfl) ?_
                                            refine lv_aload_n hx hb dX10_reads_278 rfl (lv_at hl 0 rfl) ?_
                                            refine va_get (D := g.1) (ci := 5) (v := .ref sa) (C := RX10) (T := TX10) (N := 6) hx hb hts mX10_reads_0 hown hK (hX.gy) 0 rfl rfl 0 (by decide) (hts _ mX10_reads_1) (fun _ h9 => h9) rfl dX10_reads_279 ?_
                                            refine lv_iload_n hx hb dX10_reads_282 rfl (lv_at hl 1 rfl) ?_
                                            refine zy_ild hx hb hK hX (by omega) dX10_reads_283 ?_
                                            refine zv_iadd hx hb dX10_reads_284 ?_
                                            refine lv_aload_n hx hb dX10_reads_285 rfl (lv_at hl 0 rfl) ?_
                                            refine va_get (D := g.1) (ci := 5) (v := .ref sa) (C := RX10) (T := TX10) (N := 6) hx hb hts mX10_reads_0 hown hK (hX.gy) 0 rfl rfl 0 (by decide) (hts _ mX10_reads_1) (fun _ h9 => h9) rfl dX10_reads_286 ?_
                                            refine lv_iload_n hx hb dX10_reads_289 rfl (lv_at hl 1 rfl) ?_
                                            refine lv_aload_n hx hb dX10_reads_290 rfl (lv_at hl 0 rfl) ?_
                                            refine va_get (D := g.1) (ci := 5) (v := .ref sa) (C := RX10) (T := TX10) (N := 6) hx hb hts mX10_reads_0 hown hK (hX.gy) 0 rfl rfl 0 (by decide) (hts _ mX10_reads_1) (fun _ h9 => h9) rfl dX10_reads_291 ?_
                                            refine lv_iload_n hx hb dX10_reads_294 rfl (lv_at hl 1 rfl) ?_
                                            refine zy_ild hx hb hK hX (by omega) dX10_reads_295 ?_
                                            refine zv_iadd hx hb dX10_reads_296 ?_
                                            refine lv_iload hx hb dX10_reads_297 (lv_at hl 6 rfl) ?_
                                            refine zv_isub hx hb dX10_reads_299 ?_
                                            refine zy_ild hx hb hK hX (by omega) dX10_reads_300 ?_
                                            refine zy_ist hx hb hK hX hS (by omega) (hX.gf (by omega)) dX10_reads_301 (fun H1 locs hX hS => ?_)
                                            obtain ⟨f301, e301⟩ : ∃ z9, z9 = zApp f272 (246 + (f272 246)) (f272 ((246 + (f272 246)) - (vn2 - vn1))) := ⟨_, rfl⟩
                                            rw [← e301] at hX
                                            have r301 : f301 (246 + (f272 246)) = f272 ((246 + (f272 246)) - (vn2 - vn1)) := by rw [e301]; exact zApp_eq _ _ _
                                            have q301 : ∀ x9, x9 ≠ 246 + (f272 246) → f301 x9 = f272 x9 := fun x9 h => by rw [e301]; exact zApp_ne h
                                            refine zv_iinc (lv' := [(8, .int (zI (j + 1))), (0, .ref y), (1, .int (zI 246)), (2, .int (zI (q + 0))), (3, .int (zI vn1)), (4, .int (zI 0)), (5, .int (zI (i + 0))), (6, .int (zI (vn2 - vn1))), (7, .int (zI x))]) hx hb dX10_reads_302 hl (k := 8) rfl (by decide) rfl (fun ls hl => ?_)
                                            refine lv_goto (tgt := 251) hx hb dX10_reads_305 (by decide) ?_
                                            exact ih251 (j + 1) f301 _ _ (by omega) (((b1.app (x := zRep v2 vn2 vn1 (vn2 + j)) (f2 := f301) (by omega) (zRep_bd ⟨by omega, by omega⟩ (fun k a b => (a2.2.2 k a b).2) _ (by omega)) (by rw [q301 246 (by omega), r272, l3]) (by rw [show (246 : Int) + 1 + (vn2 + j) = 246 + f272 246 by omega, r301, q272 _ (by omega), show 246 + f272 246 - (vn2 - vn1) = 246 + 1 + (vn2 + j - (vn2 - vn1)) by omega, (b1.2.2 (vn2 + j - (vn2 - vn1)) (by omega) (by omega)).1]; exact zRep_per ⟨by omega, by omega⟩ (by omega)) (fun k a b => by rw [q301 k (by omega), q272 k (by omega)])).word (n2 := vn2 + (j + 1)) (by omega) (fun k a b => zApp_self))) (fun k a b => by rw [q301 k (by omega), q272 k (by omega)]; exact blo k a b) (hX) (hS) (by omega) _ (lv_sub hl [1, 2, 3, 4, 5, 6, 7, 8, 0] rfl)
                                      exact lp251 _ 0 f2 _ _ (by omega) (a2.word (by omega) (fun k a b => zRep_lo (by omega))) (alo) (hX) (hS) (Nat.lt_succ_self _) _ (lv_sub hl [4, 5, 3, 6, 7, 8, 2, 1, 0] rfl)
                                    · refine lv_iload_n hx hb dX10_reads_246 rfl (lv_at hl 2 rfl) ?_
                                      exact zw_i hx hb hr hlocks hS dX10_reads_247 (⟨_, rfl, (zFl_here s7 (by omega) (fun z => ⟨fun v => by omega, fun v => Or.inr (by rw [← hgq, show gt (q + 0) - 48 = x from ex.symm, zSub1_mul, ← em]; omega), fun v => by omega, fun v => by omega⟩) (fun v => by omega)).symm, by omega, by omega, _, _, _, hX, hm.scr hR.1 alo, hgt, fun z => absurd z (by omega)⟩)
                              · exfalso; omega
                            · exfalso; omega
                          · exfalso; omega
                        · have hgq := hgt q (by omega) (by omega)
                          refine lv_aload_n hx hb dX10_reads_104 rfl (lv_at hl 0 rfl) ?_
                          refine va_get (D := g.1) (ci := 5) (v := .ref sa) (C := RX10) (T := TX10) (N := 6) hx hb hts mX10_reads_0 hown hK (hX.gy) 0 rfl rfl 0 (by decide) (hts _ mX10_reads_1) (fun _ h9 => h9) rfl dX10_reads_105 ?_
                          refine lv_iload_n hx hb dX10_reads_108 rfl (lv_at hl 1 rfl) ?_
                          refine lv_dup2_11 hx hb dX10_reads_109 rfl rfl ?_
                          refine zy_ild hx hb hK hX (by omega) dX10_reads_110 ?_
                          refine zv_iconst hx hb dX10_reads_111 ?_
                          refine zv_iadd hx hb dX10_reads_112 ?_
                          refine zy_ist hx hb hK hX hS (by omega) (by omega) dX10_reads_113 (fun H1 locs hX hS => ?_)
                          obtain ⟨f113, e113⟩ : ∃ z9, z9 = zApp f2 246 ((f2 246) + 1) := ⟨_, rfl⟩
                          rw [← e113] at hX
                          have r113 : f113 246 = (f2 246) + 1 := by rw [e113]; exact zApp_eq _ _ _
                          have q113 : ∀ x9, x9 ≠ 246 → f113 x9 = f2 x9 := fun x9 h => by rw [e113]; exact zApp_ne h
                          have l113 : f113 246 = vn2 + 1 := by omega
                          refine lv_aload_n hx hb dX10_reads_114 rfl (lv_at hl 0 rfl) ?_
                          refine va_get (D := g.1) (ci := 5) (v := .ref sa) (C := RX10) (T := TX10) (N := 6) hx hb hts mX10_reads_0 hown hK (hX.gy) 0 rfl rfl 0 (by decide) (hts _ mX10_reads_1) (fun _ h9 => h9) rfl dX10_reads_115 ?_
                          refine lv_iload_n hx hb dX10_reads_118 rfl (lv_at hl 1 rfl) ?_
                          refine lv_aload_n hx hb dX10_reads_119 rfl (lv_at hl 0 rfl) ?_
                          refine va_get (D := g.1) (ci := 5) (v := .ref sa) (C := RX10) (T := TX10) (N := 6) hx hb hts mX10_reads_0 hown hK (hX.gy) 0 rfl rfl 0 (by decide) (hts _ mX10_reads_1) (fun _ h9 => h9) rfl dX10_reads_120 ?_
                          refine lv_iload_n hx hb dX10_reads_123 rfl (lv_at hl 1 rfl) ?_
                          refine zy_ild hx hb hK hX (by omega) dX10_reads_124 ?_
                          refine zv_iadd hx hb dX10_reads_125 ?_
                          refine lv_aload_n hx hb dX10_reads_126 rfl (lv_at hl 0 rfl) ?_
                          refine va_get (D := g.1) (ci := 5) (v := .ref ta) (C := RX10) (T := TX10) (N := 6) hx hb hts mX10_reads_0 hown hK (hX.gy) 0 rfl rfl 3 (by decide) (hts _ mX10_reads_3) (fun _ h9 => h9) rfl dX10_reads_127 ?_
                          refine lv_iload_n hx hb dX10_reads_130 rfl (lv_at hl 2 rfl) ?_
                          refine zy_tld hx hb hK hX (by omega) dX10_reads_131 ?_
                          refine zv_bipush hx hb dX10_reads_132 (by decide +kernel) ?_
                          refine zv_isub hx hb dX10_reads_134 ?_
                          refine zy_ist hx hb hK hX hS (by omega) (by omega) dX10_reads_135 (fun H1 locs hX hS => ?_)
                          obtain ⟨f135, e135⟩ : ∃ z9, z9 = zApp f113 (246 + (f113 246)) ((gt q) - 97) := ⟨_, rfl⟩
                          rw [← e135] at hX
                          have r135 : f135 (246 + (f113 246)) = (gt q) - 97 := by rw [e135]; exact zApp_eq _ _ _
                          have q135 : ∀ x9, x9 ≠ 246 + (f113 246) → f135 x9 = f113 x9 := fun x9 h => by rw [e135]; exact zApp_ne h
                          refine zv_iinc (lv' := [(2, .int (zI (q + 1))), (0, .ref y), (1, .int (zI 246)), (3, .int (zI vn1)), (4, .int (zI 0)), (5, .int (zI (i + 0)))]) hx hb dX10_reads_136 hl (k := 2) rfl (by decide) rfl (fun ls hl => ?_)
                          refine lv_goto (tgt := 74) hx hb dX10_reads_139 (by decide) ?_
                          exact ih74 (q + 1) f135 (zApp v2 vn2 (gt q - 97)) (vn2 + 1) vn1 1 _ _ (by omega) (by rw [zSt_next (by omega) a1, ← hgq, zTk_let0 (by omega) (by omega), show vn1 = vn2 by omega]) (fun _ => ⟨rfl, rfl⟩) (fun z => absurd z (by omega)) (((a2.app (x := gt q - 97) (f2 := f135) (by omega) (by omega) (by rw [q135 246 (by omega), r113, l2]) (by rw [show (246 : Int) + 1 + vn2 = 246 + f113 246 by omega]; exact r135) (fun k a b => by rw [q135 k (by omega), q113 k (by omega)])))) (fun k a b => by rw [q135 k (by omega), q113 k (by omega)]; exact alo k a b) (hX) (hS) (by omega) _ (lv_sub hl [1, 2, 0, 3, 4, 5] rfl)
              exact lp74 _ (i + 0) f1 v1 vn1 pf1 bp1 _ _ (by omega) (by rw [show i + 0 = i by omega]; exact h1) (fun z => absurd z (by omega)) (fun _ => h3) (h2) (hlo) (hX) (hS) (Nat.lt_succ_self _) _ (lv_sub hl [4, 5, 1, 3, 2, 0] rfl)
            · exfalso; omega
          · refine lv_aload_n hx hb dX10_reads_40 rfl (lv_at hl 1 rfl) ?_
            refine va_get (D := g.1) (ci := 5) (v := .ref ta) (C := RX10) (T := TX10) (N := 6) hx hb hts mX10_reads_0 hown hK (hX.gy) 0 rfl rfl 3 (by decide) (hts _ mX10_reads_3) (fun _ h9 => h9) rfl dX10_reads_41 ?_
            refine lv_iload_n hx hb dX10_reads_44 rfl (lv_at hl 3 rfl) ?_
            refine zy_tld hx hb hK hX (by omega) dX10_reads_45 ?_
            have g8 := hX.gg (k := i) (by omega)
            refine zv_bipush hx hb dX10_reads_46 (by decide +kernel) ?_
            refine zv_icmp_ne (tgt := 55) hx hb dX10_reads_48 (by decide) (by omega) (by omega) (fun c48 => ?_) (fun c48 => ?_)
            · have n40 : i < tn → tc i ≠ 40 := fun z => by rw [← hgt i h0.1 z]; exact c48
              refine zv_iconst hx hb dX10_reads_55 ?_
              refine lv_istore (lv' := [(4, .int (zI 0)), (3, .int (zI vn1)), (0, .ref y), (1, .int (zI 246)), (2, .int (zI i))]) hx hb dX10_reads_56 hl (by decide) rfl (fun ls hl => ?_)
              refine lv_iload_n hx hb dX10_reads_58 rfl (lv_at hl 4 rfl) ?_
              refine lv_iload hx hb dX10_reads_59 (lv_at hl 0 rfl) ?_
              refine zv_if_eq (tgt := 68) hx hb dX10_reads_61 (by decide) (by omega) (fun c61 => ?_) (fun c61 => ?_)
              · refine zv_iconst hx hb dX10_reads_68 ?_
                refine zv_iadd hx hb dX10_reads_69 ?_
                refine lv_istore_n (lv' := [(2, .int (zI (i + 0))), (4, .int (zI 0)), (3, .int (zI vn1)), (0, .ref y), (1, .int (zI 246))]) hx hb dX10_reads_70 rfl hl (by decide) rfl (fun ls hl => ?_)
                refine lv_iload_n hx hb dX10_reads_71 rfl (lv_at hl 0 rfl) ?_
                refine lv_istore (lv' := [(5, .int (zI (i + 0))), (2, .int (zI (i + 0))), (4, .int (zI 0)), (3, .int (zI vn1)), (0, .ref y), (1, .int (zI 246))]) hx hb dX10_reads_72 hl (by decide) rfl (fun ls hl => ?_)
                have lp74 : ∀ (z_f : Nat) (q : Int) (f2 : Int → Int) (v2 : Int → Int) (vn2 : Int) (pf2 : Int) (bp2 : Int) (H1 : Heap) (locs : List Loc), (i ≤ q ∧ q ≤ i + 1 ∧ q ≤ tn ∧ vn2 - vn1 = q - i) → (zSt tc q.toNat = some (v2, vn2, pf2, 0, bp2)) → (q = i + 1 → pf2 = vn1 ∧ bp2 = 1) → (q = i → bp2 ≠ 0 → i < tn → ¬ (50 ≤ tc i ∧ tc i ≤ 57)) → (SL f2 246 v2 vn2) → (∀ k, 0 ≤ k → k < 246 → f2 k = f k) → (RM g y sa ta oa f2 gt od hc hs tn H1) → (va_S (zA4 y sa ta oa) s.heap H1 locs) → ((tn - q).toNat) < z_f → ∀ (ls : Array Slot), lv_has ls 9 [(0, .ref y), (1, .int (zI 246)), (2, .int (zI q)), (3, .int (zI vn1)), (4, .int (zI 0)), (5, .int (zI (i + 0)))] → W p l e (zRm 2 43) s m args below meth c H1 locs 0 0 (MQ below (zQi (fun r H => ∃ z : Int, r = zI z ∧ z = zFl tc tn ∧ -1 ≤ z ∧ z ≤ 60 ∧ ∃ f gt od : Int → Int, RM g y sa ta oa f gt od hc hs tn H ∧ MF f w n ee en hc u un hs ∧ (∀ k, 0 ≤ k → k < tn → gt k = tc k) ∧ (z = -1 → SL f 246 (zLdS tc tn).1 (zLdS tc tn).2.1)) (zA4 y sa ta oa)) args s 0 0 (zA4 y sa ta oa)) (F0 m 74 ls []) := by
                  intro z_f
                  induction z_f with
                  | zero => intro q f2 v2 vn2 pf2 bp2 H1 locs a0 a1 a3 a4 a2 alo hX hS z_m; exact absurd z_m (Nat.not_lt_zero _)
                  | succ z_f ih74 =>
                    intro q f2 v2 vn2 pf2 bp2 H1 locs a0 a1 a3 a4 a2 alo hX hS z_m74 ls hl
                    have l2 := a2.1
                    have nb2 := a2.2.1
                    refine lv_aload_n hx hb dX10_reads_74 rfl (lv_at hl 0 rfl) ?_
                    refine lv_iload_n hx hb dX10_reads_75 rfl (lv_at hl 2 rfl) ?_
                    refine zc_V (As := [.int (zI q)]) (rest := []) S hK (kX10_isLetter l g y sa ta oa f2 gt od hc hs tn q (by omega)) (cwV 1 hts gX10_reads_X10_isLetter rfl rfl rfl (by decide +kernel) ⟨Nat.le_of_ble_eq_true rfl, Nat.le_of_ble_eq_true rfl⟩) (hX) (hX.recv hK) rfl hl.1 rfl (Nat.le_of_ble_eq_true rfl) dX10_reads_76 ⟨Nat.zero_le _, Nat.zero_le _⟩ (fun r76 hr76 => ?_)
                    obtain rfl := hr76
                    refine zv_ifB_eq (tgt := 142) hx hb dX10_reads_79 (by decide) (fun c79 => ?_) (fun c79 => ?_)
                    · have hex : q < tn → 97 ≤ tc q ∧ tc q ≤ 122 → 40 ≤ vn2 := fun z v => absurd ⟨z, by rw [hgt q (by omega) z]; exact v⟩ c79
                      refine lv_iload_n hx hb dX10_reads_142 rfl (lv_at hl 2 rfl) ?_
                      refine lv_iload hx hb dX10_reads_143 (lv_at hl 5 rfl) ?_
                      refine zv_icmp_ne (tgt := 150) hx hb dX10_reads_145 (by decide) (by omega) (by omega) (fun c145 => ?_) (fun c145 => ?_)
                      · refine lv_iload hx hb dX10_reads_150 (lv_at hl 4 rfl) ?_
                        refine zv_if_eq (tgt := 176) hx hb dX10_reads_152 (by decide) (by omega) (fun c152 => ?_) (fun c152 => ?_)
                        · refine lv_iload_n hx hb dX10_reads_176 rfl (lv_at hl 2 rfl) ?_
                          refine lv_iload hx hb dX10_reads_177 (lv_at hl 4 rfl) ?_
                          refine zv_if_eq (tgt := 186) hx hb dX10_reads_179 (by decide) (by omega) (fun c179 => ?_) (fun c179 => ?_)
                          · refine zv_iconst hx hb dX10_reads_186 ?_
                            refine zv_iadd hx hb dX10_reads_187 ?_
                            refine lv_istore_n (lv' := [(2, .int (zI (q + 0))), (0, .ref y), (1, .int (zI 246)), (3, .int (zI vn1)), (4, .int (zI 0)), (5, .int (zI (i + 0)))]) hx hb dX10_reads_188 rfl hl (by decide) rfl (fun ls hl => ?_)
                            have eq1 : q = i + 1 := by omega
                            have s7 : zSt tc (q + 0).toNat = some (v2, vn2, vn1, 0, 1) := by rw [show q + 0 = q by omega, a1, (a3 eq1).1, (a3 eq1).2]
                            refine lv_aload_n hx hb dX10_reads_189 rfl (lv_at hl 1 rfl) ?_
                            refine va_get (D := g.1) (ci := 5) (v := .ref sa) (C := RX10) (T := TX10) (N := 6) hx hb hts mX10_reads_0 hown hK (hX.gy) 0 rfl rfl 0 (by decide) (hts _ mX10_reads_1) (fun _ h9 => h9) rfl dX10_reads_190 ?_
                            refine lv_iload_n hx hb dX10_reads_193 rfl (lv_at hl 2 rfl) ?_
                            refine zy_ild hx hb hK hX (by omega) dX10_reads_194 ?_
                            rw [l2]
                            refine lv_iload_n hx hb dX10_reads_195 rfl (lv_at hl 3 rfl) ?_
                            refine zv_isub hx hb dX10_reads_196 ?_
                            refine lv_istore (lv' := [(6, .int (zI (vn2 - vn1))), (2, .int (zI (q + 0))), (0, .ref y), (1, .int (zI 246)), (3, .int (zI vn1)), (4, .int (zI 0)), (5, .int (zI (i + 0)))]) hx hb dX10_reads_197 hl (by decide) rfl (fun ls hl => ?_)
                            refine lv_iload_n hx hb dX10_reads_199 rfl (lv_at hl 1 rfl) ?_
                            refine lv_aload_n hx hb dX10_reads_200 rfl (lv_at hl 2 rfl) ?_
                            refine va_get (D := g.1) (ci := 5) (v := .int (zI tn)) (C := RX10) (T := TX10) (N := 6) hx hb hts mX10_reads_0 hown hK (hX.gy) 0 rfl rfl 4 (by decide) (hts _ mX10_reads_2) (fun _ h9 => h9) rfl dX10_reads_201 ?_
                            refine zv_icmp_ge (tgt := 311) hx hb dX10_reads_204 (by decide) (by omega) (by omega) (fun c204 => ?_) (fun c204 => ?_)
                            · refine lv_goto (tgt := 13) hx hb dX10_reads_311 (by decide) ?_
                              exact ih13 (q + 0) f2 v2 vn2 vn1 1 _ _ (by omega) (s7) (a2) (fun _ z y => by first | omega | exact c220 (by rw [← hgt _ (by omega) z] at y; exact y)) (alo) (hX) (hS) (by omega) _ (lv_sub hl [2, 3, 1] rfl)
                            · refine lv_aload_n hx hb dX10_reads_207 rfl (lv_at hl 2 rfl) ?_
                              refine va_get (D := g.1) (ci := 5) (v := .ref ta) (C := RX10) (T := TX10) (N := 6) hx hb hts mX10_reads_0 hown hK (hX.gy) 0 rfl rfl 3 (by decide) (hts _ mX10_reads_3) (fun _ h9 => h9) rfl dX10_reads_208 ?_
                              refine lv_iload_n hx hb dX10_reads_211 rfl (lv_at hl 1 rfl) ?_
                              refine zy_tld hx hb hK hX (by omega) dX10_reads_212 ?_
                              have g8 := hX.gg (k := q + 0) (by omega)
                              refine zv_bipush hx hb dX10_reads_213 (by decide +kernel) ?_
                              refine zv_bipush hx hb dX10_reads_215 (by decide +kernel) ?_
                              refine zc_S (As := [.int (zI (gt (q + 0))), .int (zI 50), .int (zI 57)]) (rest := []) S hK (kX10_in l g (gt (q + 0)) 50 57 (by omega) (by omega) (by omega)) (va_cwS 3 hts gX10_reads_X10_in rfl rfl rfl (by decide +kernel) ⟨Nat.le_of_ble_eq_true rfl, Nat.le_of_ble_eq_true rfl⟩) (trivial) rfl hl.1 rfl (Nat.le_of_ble_eq_true rfl) dX10_reads_217 ⟨Nat.zero_le _, Nat.zero_le _⟩ (fun r217 hr217 => ?_)
                              obtain rfl := hr217
                              refine zv_ifB_eq (tgt := 311) hx hb dX10_reads_220 (by decide) (fun c220 => ?_) (fun c220 => ?_)
                              · refine lv_goto (tgt := 13) hx hb dX10_reads_311 (by decide) ?_
                                exact ih13 (q + 0) f2 v2 vn2 vn1 1 _ _ (by omega) (s7) (a2) (fun _ z y => by first | omega | exact c220 (by rw [← hgt _ (by omega) z] at y; exact y)) (alo) (hX) (hS) (by omega) _ (lv_sub hl [2, 3, 1] rfl)
                              · refine lv_aload_n hx hb dX10_reads_223 rfl (lv_at hl 2 rfl) ?_
                                refine va_get (D := g.1) (ci := 5) (v := .ref ta) (C := RX10) (T := TX10) (N := 6) hx hb hts mX10_reads_0 hown hK (hX.gy) 0 rfl rfl 3 (by decide) (hts _ mX10_reads_3) (fun _ h9 => h9) rfl dX10_reads_224 ?_
                                refine lv_iload_n hx hb dX10_reads_227 rfl (lv_at hl 1 rfl) ?_
                                refine zy_tld hx hb hK hX (by omega) dX10_reads_228 ?_
                                refine zv_bipush hx hb dX10_reads_229 (by decide +kernel) ?_
                                refine zv_isub hx hb dX10_reads_231 ?_
                                obtain ⟨x, ex⟩ : ∃ x, x = gt (q + 0) - 48 := ⟨_, rfl⟩
                                rw [← ex]
                                obtain ⟨mm, em⟩ : ∃ m, m = x * (vn2 - vn1) := ⟨_, rfl⟩
                                have hgq := hgt (q + 0) (by omega) (by omega)
                                have bm := zMulBd9 (a := x) (b := vn2 - vn1) (by omega) (by omega)
                                rw [← em] at bm
                                have bm2 := Int.mul_nonneg (show 0 ≤ x - 1 by omega) (show 0 ≤ vn2 - vn1 by omega)
                                rw [zSub1_mul, ← em] at bm2
                                refine lv_istore (lv' := [(7, .int (zI x)), (6, .int (zI (vn2 - vn1))), (2, .int (zI (q + 0))), (0, .ref y), (1, .int (zI 246)), (3, .int (zI vn1)), (4, .int (zI 0)), (5, .int (zI (i + 0)))]) hx hb dX10_reads_232 hl (by decide) rfl (fun ls hl => ?_)
                                refine lv_iload_n hx hb dX10_reads_234 rfl (lv_at hl 5 rfl) ?_
                                refine lv_iload hx hb dX10_reads_235 (lv_at hl 0 rfl) ?_
                                refine lv_iload hx hb dX10_reads_237 (lv_at hl 1 rfl) ?_
                                refine zv_imul hx hb dX10_reads_239 ?_
                                rw [← em]
                                refine zv_iadd hx hb dX10_reads_240 ?_
                                refine zv_bipush hx hb dX10_reads_241 (by decide +kernel) ?_
                                refine zv_icmp_le (tgt := 248) hx hb dX10_reads_243 (by decide) (by omega) (by omega) (fun c243 => ?_) (fun c243 => ?_)
                                · refine zv_iconst hx hb dX10_reads_248 ?_
                                  refine lv_istore (lv' := [(8, .int (zI 0)), (7, .int (zI x)), (6, .int (zI (vn2 - vn1))), (2, .int (zI (q + 0))), (0, .ref y), (1, .int (zI 246)), (3, .int (zI vn1)), (4, .int (zI 0)), (5, .int (zI (i + 0)))]) hx hb dX10_reads_249 hl (by decide) rfl (fun ls hl => ?_)
                                  have lp251 : ∀ (z_f : Nat) (j : Int) (f3 : Int → Int) (H1 : Heap) (locs : List Loc), (0 ≤ j ∧ j ≤ mm - (vn2 - vn1)) → (SL f3 246 (zRep v2 vn2 vn1) (vn2 + j)) → (∀ k, 0 ≤ k → k < 246 → f3 k = f k) → (RM g y sa ta oa f3 gt od hc hs tn H1) → (va_S (zA4 y sa ta oa) s.heap H1 locs) → ((mm - (vn2 - vn1) - j).toNat) < z_f → ∀ (ls : Array Slot), lv_has ls 9 [(0, .ref y), (1, .int (zI 246)), (2, .int (zI (q + 0))), (3, .int (zI vn1)), (4, .int (zI 0)), (5, .int (zI (i + 0))), (6, .int (zI (vn2 - vn1))), (7, .int (zI x)), (8, .int (zI j))] → W p l e (zRm 2 43) s m args below meth c H1 locs 0 0 (MQ below (zQi (fun r H => ∃ z : Int, r = zI z ∧ z = zFl tc tn ∧ -1 ≤ z ∧ z ≤ 60 ∧ ∃ f gt od : Int → Int, RM g y sa ta oa f gt od hc hs tn H ∧ MF f w n ee en hc u un hs ∧ (∀ k, 0 ≤ k → k < tn → gt k = tc k) ∧ (z = -1 → SL f 246 (zLdS tc tn).1 (zLdS tc tn).2.1)) (zA4 y sa ta oa)) args s 0 0 (zA4 y sa ta oa)) (F0 m 251 ls []) := by
                                    intro z_f
                                    induction z_f with
                                    | zero => intro j f3 H1 locs b0 b1 blo hX hS z_m; exact absurd z_m (Nat.not_lt_zero _)
                                    | succ z_f ih251 =>
                                      intro j f3 H1 locs b0 b1 blo hX hS z_m251 ls hl
                                      have l3 := b1.1
                                      have nb3 := b1.2.1
                                      refine lv_iload hx hb dX10_reads_251 (lv_at hl 8 rfl) ?_
                                      refine lv_iload hx hb dX10_reads_253 (lv_at hl 7 rfl) ?_
                                      refine zv_iconst hx hb dX10_reads_255 ?_
                                      refine zv_isub hx hb dX10_reads_256 ?_
                                      refine lv_iload hx hb dX10_reads_257 (lv_at hl 6 rfl) ?_
                                      refine zv_imul hx hb dX10_reads_259 ?_
                                      rw [show (x - 1) * (vn2 - vn1) = mm - (vn2 - vn1) by rw [zSub1_mul, ← em]]
                                      refine zv_icmp_ge (tgt := 308) hx hb dX10_reads_260 (by decide) (by omega) (by omega) (fun c260 => ?_) (fun c260 => ?_)
                                      · refine zv_iinc (lv' := [(2, .int (zI (q + 0 + 1))), (0, .ref y), (1, .int (zI 246)), (3, .int (zI vn1)), (4, .int (zI 0)), (5, .int (zI (i + 0))), (6, .int (zI (vn2 - vn1))), (7, .int (zI x)), (8, .int (zI j))]) hx hb dX10_reads_308 hl (k := 2) rfl (by decide) rfl (fun ls hl => ?_)
                                        refine lv_goto (tgt := 13) hx hb dX10_reads_311 (by decide) ?_
                                        exact ih13 (q + 0 + 1) f3 (zRep v2 vn2 vn1) (vn2 + j) vn1 0 _ _ (by omega) (by
                                          have ej : vn2 + j = vn2 + (tc (q + 0) - 48 - 1) * (vn2 - vn1) := by rw [← hgq, show gt (q + 0) - 48 = x from ex.symm, zSub1_mul, ← em]; omega
                                          rw [zSt_next (by omega) s7, ej]
                                          exact zTk_dig (by omega) rfl (by omega)) (b1) (fun z => absurd rfl z) (blo) (hX) (hS) (by omega) _ (lv_sub hl [1, 2, 0] rfl)
                                      · refine lv_aload_n hx hb dX10_reads_263 rfl (lv_at hl 0 rfl) ?_
                                        refine va_get (D := g.1) (ci := 5) (v := .ref sa) (C := RX10) (T := TX10) (N := 6) hx hb hts mX10_reads_0 hown hK (hX.gy) 0 rfl rfl 0 (by decide) (hts _ mX10_reads_1) (fun _ h9 => h9) rfl dX10_reads_264 ?_
                                        refine lv_iload_n hx hb dX10_reads_267 rfl (lv_at hl 1 rfl) ?_
                                        refine lv_dup2_11 hx hb dX10_reads_268 rfl rfl ?_
                                        refine zy_ild hx hb hK hX (by omega) dX10_reads_269 ?_
                                        refine zv_iconst hx hb dX10_reads_270 ?_
                                        refine zv_iadd hx hb dX10_reads_271 ?_
                                        refine zy_ist hx hb hK hX hS (by omega) (by omega) dX10_reads_272 (fun H1 locs hX hS => ?_)
                                        obtain ⟨f272, e272⟩ : ∃ z9, z9 = zApp f3 246 ((f3 246) + 1) := ⟨_, rfl⟩
                                        rw [← e272] at hX
                                        have r272 : f272 246 = (f3 246) + 1 := by rw [e272]; exact zApp_eq _ _ _
                                        have q272 : ∀ x9, x9 ≠ 246 → f272 x9 = f3 x9 := fun x9 h => by rw [e272]; exact zApp_ne h
                                        have l272 : f272 246 = vn2 + j + 1 := by omega
                                        refine lv_aload_n hx hb dX10_reads_273 rfl (lv_at hl 0 rfl) ?_
                                        refine va_get (D := g.1) (ci := 5) (v := .ref sa) (C := RX10) (T := TX10) (N := 6) hx hb hts mX10_reads_0 hown hK (hX.gy) 0 rfl rfl 0 (by decide) (hts _ mX10_reads_1) (fun _ h9 => h9) rfl dX10_reads_274 ?_
                                        refine lv_iload_n hx hb dX10_reads_277 rfl (lv_at hl 1 rfl) ?_
                                        refine lv_aload_n hx hb dX10_reads_278 rfl (lv_at hl 0 rfl) ?_
                                        refine va_get (D := g.1) (ci := 5) (v := .ref sa) (C := RX10) (T := TX10) (N := 6) hx hb hts mX10_reads_0 hown hK (hX.gy) 0 rfl rfl 0 (by decide) (hts _ mX10_reads_1) (fun _ h9 => h9) rfl dX10_reads_279 ?_
                                        refine lv_iload_n hx hb dX10_reads_282 rfl (lv_at hl 1 rfl) ?_
                                        refine zy_ild hx hb hK hX (by omega) dX10_reads_283 ?_
                                        refine zv_iadd hx hb dX10_reads_284 ?_
                                        refine lv_aload_n hx hb dX10_reads_285 rfl (lv_at hl 0 rfl) ?_
                                        refine va_get (D := g.1) (ci := 5) (v := .ref sa) (C := RX10) (T := TX10) (N := 6) hx hb hts mX10_reads_0 hown hK (hX.gy) 0 rfl rfl 0 (by decide) (hts _ mX10_reads_1) (fun _ h9 => h9) rfl dX10_reads_286 ?_
                                        refine lv_iload_n hx hb dX10_reads_289 rfl (lv_at hl 1 rfl) ?_
                                        refine lv_aload_n hx hb dX10_reads_290 rfl (lv_at hl 0 rfl) ?_
                                        refine va_get (D := g.1) (ci := 5) (v := .ref sa) (C := RX10) (T := TX10) (N := 6) hx hb hts mX10_reads_0 hown hK (hX.gy) 0 rfl rfl 0 (by decide) (hts _ mX10_reads_1) (fun _ h9 => h9) rfl dX10_reads_291 ?_
                                        refine lv_iload_n hx hb dX10_reads_294 rfl (lv_at hl 1 rfl) ?_
                                        refine zy_ild hx hb hK hX (by omega) dX10_reads_295 ?_
                                        refine zv_iadd hx hb dX10_reads_296 ?_
                                        refine lv_iload hx hb dX10_reads_297 (lv_at hl 6 rfl) ?_
                                        refine zv_isub hx hb dX10_reads_299 ?_
                                        refine zy_ild hx hb hK hX (by omega) dX10_reads_300 ?_
                                        refine zy_ist hx hb hK hX hS (by omega) (hX.gf (by omega)) dX10_reads_301 (fun H1 locs hX hS => ?_)
                                        obtain ⟨f301, e301⟩ : ∃ z9, z9 = zApp f272 (246 + (f272 246)) (f272 ((246 + (f272 246)) - (vn2 - vn1))) := ⟨_, rfl⟩
                                        rw [← e301] at hX
                                        have r301 : f301 (246 + (f272 246)) = f272 ((246 + (f272 246)) - (vn2 - vn1)) := by rw [e301]; exact zApp_eq _ _ _
                                        have q301 : ∀ x9, x9 ≠ 246 + (f272 246) → f301 x9 = f272 x9 := fun x9 h => by rw [e301]; exact zApp_ne h
                                        refine zv_iinc (lv' := [(8, .int (zI (j + 1))), (0, .ref y), (1, .int (zI 246)), (2, .int (zI (q + 0))), (3, .int (zI vn1)), (4, .int (zI 0)), (5, .int (zI (i + 0))), (6, .int (zI (vn2 - vn1))), (7, .int (zI x))]) hx hb dX10_reads_302 hl (k := 8) rfl (by decide) rfl (fun ls hl => ?_)
                                        refine lv_goto (tgt := 251) hx hb dX10_reads_305 (by decide) ?_
                                        exact ih251 (j + 1) f301 _ _ (by omega) (((b1.app (x := zRep v2 vn2 vn1 (vn2 + j)) (f2 := f301) (by omega) (zRep_bd ⟨by omega, by omega⟩ (fun k a b => (a2.2.2 k a b).2) _ (by omega)) (by rw [q301 246 (by omega), r272, l3]) (by rw [show (246 : Int) + 1 + (vn2 + j) = 246 + f272 246 by omega, r301, q272 _ (by omega), show 246 + f272 246 - (vn2 - vn1) = 246 + 1 + (vn2 + j - (vn2 - vn1)) by omega, (b1.2.2 (vn2 + j - (vn2 - vn1)) (by omega) (by omega)).1]; exact zRep_per ⟨by omega, by omega⟩ (by omega)) (fun k a b => by rw [q301 k (by omega), q272 k (by omega)])).word (n2 := vn2 + (j + 1)) (by omega) (fun k a b => zApp_self))) (fun k a b => by rw [q301 k (by omega), q272 k (by omega)]; exact blo k a b) (hX) (hS) (by omega) _ (lv_sub hl [1, 2, 3, 4, 5, 6, 7, 8, 0] rfl)
                                  exact lp251 _ 0 f2 _ _ (by omega) (a2.word (by omega) (fun k a b => zRep_lo (by omega))) (alo) (hX) (hS) (Nat.lt_succ_self _) _ (lv_sub hl [4, 5, 3, 6, 7, 8, 2, 1, 0] rfl)
                                · refine lv_iload_n hx hb dX10_reads_246 rfl (lv_at hl 2 rfl) ?_
                                  exact zw_i hx hb hr hlocks hS dX10_reads_247 (⟨_, rfl, (zFl_here s7 (by omega) (fun z => ⟨fun v => by omega, fun v => Or.inr (by rw [← hgq, show gt (q + 0) - 48 = x from ex.symm, zSub1_mul, ← em]; omega), fun v => by omega, fun v => by omega⟩) (fun v => by omega)).symm, by omega, by omega, _, _, _, hX, hm.scr hR.1 alo, hgt, fun z => absurd z (by omega)⟩)
                          · exfalso; omega
                        · exfalso; omega
                      · refine lv_iload_n hx hb dX10_reads_148 rfl (lv_at hl 2 rfl) ?_
                        exact zw_i hx hb hr hlocks hS dX10_reads_149 (⟨_, rfl, (zFl_here a1 (by omega) (fun z => ⟨hex z, fun v => Or.inl (Classical.byContradiction fun v2 => a4 (by omega) v2 (by omega) (by rw [← show q = i by omega]; exact v)), fun v => absurd v (by rw [show q = i by omega]; exact n40 (by omega)), fun _ => Or.inl rfl⟩) (fun z => Or.inr (by have := h0.2.2.2 (by omega); omega))).symm, by omega, by omega, _, _, _, hX, hm.scr hR.1 alo, hgt, fun z => absurd z (by omega)⟩)
                    · refine lv_aload_n hx hb dX10_reads_82 rfl (lv_at hl 0 rfl) ?_
                      refine va_get (D := g.1) (ci := 5) (v := .ref sa) (C := RX10) (T := TX10) (N := 6) hx hb hts mX10_reads_0 hown hK (hX.gy) 0 rfl rfl 0 (by decide) (hts _ mX10_reads_1) (fun _ h9 => h9) rfl dX10_reads_83 ?_
                      refine lv_iload_n hx hb dX10_reads_86 rfl (lv_at hl 1 rfl) ?_
                      refine zy_ild hx hb hK hX (by omega) dX10_reads_87 ?_
                      refine zv_bipush hx hb dX10_reads_88 (by decide +kernel) ?_
                      refine zv_icmp_ge (tgt := 142) hx hb dX10_reads_90 (by decide) (by omega) (by omega) (fun c90 => ?_) (fun c90 => ?_)
                      · have hex : q < tn → 97 ≤ tc q ∧ tc q ≤ 122 → 40 ≤ vn2 := fun _ _ => by omega
                        refine lv_iload_n hx hb dX10_reads_142 rfl (lv_at hl 2 rfl) ?_
                        refine lv_iload hx hb dX10_reads_143 (lv_at hl 5 rfl) ?_
                        refine zv_icmp_ne (tgt := 150) hx hb dX10_reads_145 (by decide) (by omega) (by omega) (fun c145 => ?_) (fun c145 => ?_)
                        · refine lv_iload hx hb dX10_reads_150 (lv_at hl 4 rfl) ?_
                          refine zv_if_eq (tgt := 176) hx hb dX10_reads_152 (by decide) (by omega) (fun c152 => ?_) (fun c152 => ?_)
                          · refine lv_iload_n hx hb dX10_reads_176 rfl (lv_at hl 2 rfl) ?_
                            refine lv_iload hx hb dX10_reads_177 (lv_at hl 4 rfl) ?_
                            refine zv_if_eq (tgt := 186) hx hb dX10_reads_179 (by decide) (by omega) (fun c179 => ?_) (fun c179 => ?_)
                            · refine zv_iconst hx hb dX10_reads_186 ?_
                              refine zv_iadd hx hb dX10_reads_187 ?_
                              refine lv_istore_n (lv' := [(2, .int (zI (q + 0))), (0, .ref y), (1, .int (zI 246)), (3, .int (zI vn1)), (4, .int (zI 0)), (5, .int (zI (i + 0)))]) hx hb dX10_reads_188 rfl hl (by decide) rfl (fun ls hl => ?_)
                              have eq1 : q = i + 1 := by omega
                              have s7 : zSt tc (q + 0).toNat = some (v2, vn2, vn1, 0, 1) := by rw [show q + 0 = q by omega, a1, (a3 eq1).1, (a3 eq1).2]
                              refine lv_aload_n hx hb dX10_reads_189 rfl (lv_at hl 1 rfl) ?_
                              refine va_get (D := g.1) (ci := 5) (v := .ref sa) (C := RX10) (T := TX10) (N := 6) hx hb hts mX10_reads_0 hown hK (hX.gy) 0 rfl rfl 0 (by decide) (hts _ mX10_reads_1) (fun _ h9 => h9) rfl dX10_reads_190 ?_
                              refine lv_iload_n hx hb dX10_reads_193 rfl (lv_at hl 2 rfl) ?_
                              refine zy_ild hx hb hK hX (by omega) dX10_reads_194 ?_
                              rw [l2]
                              refine lv_iload_n hx hb dX10_reads_195 rfl (lv_at hl 3 rfl) ?_
                              refine zv_isub hx hb dX10_reads_196 ?_
                              refine lv_istore (lv' := [(6, .int (zI (vn2 - vn1))), (2, .int (zI (q + 0))), (0, .ref y), (1, .int (zI 246)), (3, .int (zI vn1)), (4, .int (zI 0)), (5, .int (zI (i + 0)))]) hx hb dX10_reads_197 hl (by decide) rfl (fun ls hl => ?_)
                              refine lv_iload_n hx hb dX10_reads_199 rfl (lv_at hl 1 rfl) ?_
                              refine lv_aload_n hx hb dX10_reads_200 rfl (lv_at hl 2 rfl) ?_
                              refine va_get (D := g.1) (ci := 5) (v := .int (zI tn)) (C := RX10) (T := TX10) (N := 6) hx hb hts mX10_reads_0 hown hK (hX.gy) 0 rfl rfl 4 (by decide) (hts _ mX10_reads_2) (fun _ h9 => h9) rfl dX10_reads_201 ?_
                              refine zv_icmp_ge (tgt := 311) hx hb dX10_reads_204 (by decide) (by omega) (by omega) (fun c204 => ?_) (fun c204 => ?_)
                              · refine lv_goto (tgt := 13) hx hb dX10_reads_311 (by decide) ?_
                                exact ih13 (q + 0) f2 v2 vn2 vn1 1 _ _ (by omega) (s7) (a2) (fun _ z y => by first | omega | exact c220 (by rw [← hgt _ (by omega) z] at y; exact y)) (alo) (hX) (hS) (by omega) _ (lv_sub hl [2, 3, 1] rfl)
                              · refine lv_aload_n hx hb dX10_reads_207 rfl (lv_at hl 2 rfl) ?_
                                refine va_get (D := g.1) (ci := 5) (v := .ref ta) (C := RX10) (T := TX10) (N := 6) hx hb hts mX10_reads_0 hown hK (hX.gy) 0 rfl rfl 3 (by decide) (hts _ mX10_reads_3) (fun _ h9 => h9) rfl dX10_reads_208 ?_
                                refine lv_iload_n hx hb dX10_reads_211 rfl (lv_at hl 1 rfl) ?_
                                refine zy_tld hx hb hK hX (by omega) dX10_reads_212 ?_
                                have g8 := hX.gg (k := q + 0) (by omega)
                                refine zv_bipush hx hb dX10_reads_213 (by decide +kernel) ?_
                                refine zv_bipush hx hb dX10_reads_215 (by decide +kernel) ?_
                                refine zc_S (As := [.int (zI (gt (q + 0))), .int (zI 50), .int (zI 57)]) (rest := []) S hK (kX10_in l g (gt (q + 0)) 50 57 (by omega) (by omega) (by omega)) (va_cwS 3 hts gX10_reads_X10_in rfl rfl rfl (by decide +kernel) ⟨Nat.le_of_ble_eq_true rfl, Nat.le_of_ble_eq_true rfl⟩) (trivial) rfl hl.1 rfl (Nat.le_of_ble_eq_true rfl) dX10_reads_217 ⟨Nat.zero_le _, Nat.zero_le _⟩ (fun r217 hr217 => ?_)
                                obtain rfl := hr217
                                refine zv_ifB_eq (tgt := 311) hx hb dX10_reads_220 (by decide) (fun c220 => ?_) (fun c220 => ?_)
                                · refine lv_goto (tgt := 13) hx hb dX10_reads_311 (by decide) ?_
                                  exact ih13 (q + 0) f2 v2 vn2 vn1 1 _ _ (by omega) (s7) (a2) (fun _ z y => by first | omega | exact c220 (by rw [← hgt _ (by omega) z] at y; exact y)) (alo) (hX) (hS) (by omega) _ (lv_sub hl [2, 3, 1] rfl)
                                · refine lv_aload_n hx hb dX10_reads_223 rfl (lv_at hl 2 rfl) ?_
                                  refine va_get (D := g.1) (ci := 5) (v := .ref ta) (C := RX10) (T := TX10) (N := 6) hx hb hts mX10_reads_0 hown hK (hX.gy) 0 rfl rfl 3 (by decide) (hts _ mX10_reads_3) (fun _ h9 => h9) rfl dX10_reads_224 ?_
                                  refine lv_iload_n hx hb dX10_reads_227 rfl (lv_at hl 1 rfl) ?_
                                  refine zy_tld hx hb hK hX (by omega) dX10_reads_228 ?_
                                  refine zv_bipush hx hb dX10_reads_229 (by decide +kernel) ?_
                                  refine zv_isub hx hb dX10_reads_231 ?_
                                  obtain ⟨x, ex⟩ : ∃ x, x = gt (q + 0) - 48 := ⟨_, rfl⟩
                                  rw [← ex]
                                  obtain ⟨mm, em⟩ : ∃ m, m = x * (vn2 - vn1) := ⟨_, rfl⟩
                                  have hgq := hgt (q + 0) (by omega) (by omega)
                                  have bm := zMulBd9 (a := x) (b := vn2 - vn1) (by omega) (by omega)
                                  rw [← em] at bm
                                  have bm2 := Int.mul_nonneg (show 0 ≤ x - 1 by omega) (show 0 ≤ vn2 - vn1 by omega)
                                  rw [zSub1_mul, ← em] at bm2
                                  refine lv_istore (lv' := [(7, .int (zI x)), (6, .int (zI (vn2 - vn1))), (2, .int (zI (q + 0))), (0, .ref y), (1, .int (zI 246)), (3, .int (zI vn1)), (4, .int (zI 0)), (5, .int (zI (i + 0)))]) hx hb dX10_reads_232 hl (by decide) rfl (fun ls hl => ?_)
                                  refine lv_iload_n hx hb dX10_reads_234 rfl (lv_at hl 5 rfl) ?_
                                  refine lv_iload hx hb dX10_reads_235 (lv_at hl 0 rfl) ?_
                                  refine lv_iload hx hb dX10_reads_237 (lv_at hl 1 rfl) ?_
                                  refine zv_imul hx hb dX10_reads_239 ?_
                                  rw [← em]
                                  refine zv_iadd hx hb dX10_reads_240 ?_
                                  refine zv_bipush hx hb dX10_reads_241 (by decide +kernel) ?_
                                  refine zv_icmp_le (tgt := 248) hx hb dX10_reads_243 (by decide) (by omega) (by omega) (fun c243 => ?_) (fun c243 => ?_)
                                  · refine zv_iconst hx hb dX10_reads_248 ?_
                                    refine lv_istore (lv' := [(8, .int (zI 0)), (7, .int (zI x)), (6, .int (zI (vn2 - vn1))), (2, .int (zI (q + 0))), (0, .ref y), (1, .int (zI 246)), (3, .int (zI vn1)), (4, .int (zI 0)), (5, .int (zI (i + 0)))]) hx hb dX10_reads_249 hl (by decide) rfl (fun ls hl => ?_)
                                    have lp251 : ∀ (z_f : Nat) (j : Int) (f3 : Int → Int) (H1 : Heap) (locs : List Loc), (0 ≤ j ∧ j ≤ mm - (vn2 - vn1)) → (SL f3 246 (zRep v2 vn2 vn1) (vn2 + j)) → (∀ k, 0 ≤ k → k < 246 → f3 k = f k) → (RM g y sa ta oa f3 gt od hc hs tn H1) → (va_S (zA4 y sa ta oa) s.heap H1 locs) → ((mm - (vn2 - vn1) - j).toNat) < z_f → ∀ (ls : Array Slot), lv_has ls 9 [(0, .ref y), (1, .int (zI 246)), (2, .int (zI (q + 0))), (3, .int (zI vn1)), (4, .int (zI 0)), (5, .int (zI (i + 0))), (6, .int (zI (vn2 - vn1))), (7, .int (zI x)), (8, .int (zI j))] → W p l e (zRm 2 43) s m args below meth c H1 locs 0 0 (MQ below (zQi (fun r H => ∃ z : Int, r = zI z ∧ z = zFl tc tn ∧ -1 ≤ z ∧ z ≤ 60 ∧ ∃ f gt od : Int → Int, RM g y sa ta oa f gt od hc hs tn H ∧ MF f w n ee en hc u un hs ∧ (∀ k, 0 ≤ k → k < tn → gt k = tc k) ∧ (z = -1 → SL f 246 (zLdS tc tn).1 (zLdS tc tn).2.1)) (zA4 y sa ta oa)) args s 0 0 (zA4 y sa ta oa)) (F0 m 251 ls []) := by
                                      intro z_f
                                      induction z_f with
                                      | zero => intro j f3 H1 locs b0 b1 blo hX hS z_m; exact absurd z_m (Nat.not_lt_zero _)
                                      | succ z_f ih251 =>
                                        intro j f3 H1 locs b0 b1 blo hX hS z_m251 ls hl
                                        have l3 := b1.1
                                        have nb3 := b1.2.1
                                        refine lv_iload hx hb dX10_reads_251 (lv_at hl 8 rfl) ?_
                                        refine lv_iload hx hb dX10_reads_253 (lv_at hl 7 rfl) ?_
                                        refine zv_iconst hx hb dX10_reads_255 ?_
                                        refine zv_isub hx hb dX10_reads_256 ?_
                                        refine lv_iload hx hb dX10_reads_257 (lv_at hl 6 rfl) ?_
                                        refine zv_imul hx hb dX10_reads_259 ?_
                                        rw [show (x - 1) * (vn2 - vn1) = mm - (vn2 - vn1) by rw [zSub1_mul, ← em]]
                                        refine zv_icmp_ge (tgt := 308) hx hb dX10_reads_260 (by decide) (by omega) (by omega) (fun c260 => ?_) (fun c260 => ?_)
                                        · refine zv_iinc (lv' := [(2, .int (zI (q + 0 + 1))), (0, .ref y), (1, .int (zI 246)), (3, .int (zI vn1)), (4, .int (zI 0)), (5, .int (zI (i + 0))), (6, .int (zI (vn2 - vn1))), (7, .int (zI x)), (8, .int (zI j))]) hx hb dX10_reads_308 hl (k := 2) rfl (by decide) rfl (fun ls hl => ?_)
                                          refine lv_goto (tgt := 13) hx hb dX10_reads_311 (by decide) ?_
                                          exact ih13 (q + 0 + 1) f3 (zRep v2 vn2 vn1) (vn2 + j) vn1 0 _ _ (by omega) (by
                                            have ej : vn2 + j = vn2 + (tc (q + 0) - 48 - 1) * (vn2 - vn1) := by rw [← hgq, show gt (q + 0) - 48 = x from ex.symm, zSub1_mul, ← em]; omega
                                            rw [zSt_next (by omega) s7, ej]
                                            exact zTk_dig (by omega) rfl (by omega)) (b1) (fun z => absurd rfl z) (blo) (hX) (hS) (by omega) _ (lv_sub hl [1, 2, 0] rfl)
                                        · refine lv_aload_n hx hb dX10_reads_263 rfl (lv_at hl 0 rfl) ?_
                                          refine va_get (D := g.1) (ci := 5) (v := .ref sa) (C := RX10) (T := TX10) (N := 6) hx hb hts mX10_reads_0 hown hK (hX.gy) 0 rfl rfl 0 (by decide) (hts _ mX10_reads_1) (fun _ h9 => h9) rfl dX10_reads_264 ?_
                                          refine lv_iload_n hx hb dX10_reads_267 rfl (lv_at hl 1 rfl) ?_
                                          refine lv_dup2_11 hx hb dX10_reads_268 rfl rfl ?_
                                          refine zy_ild hx hb hK hX (by omega) dX10_reads_269 ?_
                                          refine zv_iconst hx hb dX10_reads_270 ?_
                                          refine zv_iadd hx hb dX10_reads_271 ?_
                                          refine zy_ist hx hb hK hX hS (by omega) (by omega) dX10_reads_272 (fun H1 locs hX hS => ?_)
                                          obtain ⟨f272, e272⟩ : ∃ z9, z9 = zApp f3 246 ((f3 246) + 1) := ⟨_, rfl⟩
                                          rw [← e272] at hX
                                          have r272 : f272 246 = (f3 246) + 1 := by rw [e272]; exact zApp_eq _ _ _
                                          have q272 : ∀ x9, x9 ≠ 246 → f272 x9 = f3 x9 := fun x9 h => by rw [e272]; exact zApp_ne h
                                          have l272 : f272 246 = vn2 + j + 1 := by omega
                                          refine lv_aload_n hx hb dX10_reads_273 rfl (lv_at hl 0 rfl) ?_
                                          refine va_get (D := g.1) (ci := 5) (v := .ref sa) (C := RX10) (T := TX10) (N := 6) hx hb hts mX10_reads_0 hown hK (hX.gy) 0 rfl rfl 0 (by decide) (hts _ mX10_reads_1) (fun _ h9 => h9) rfl dX10_reads_274 ?_
                                          refine lv_iload_n hx hb dX10_reads_277 rfl (lv_at hl 1 rfl) ?_
                                          refine lv_aload_n hx hb dX10_reads_278 rfl (lv_at hl 0 rfl) ?_
                                          refine va_get (D := g.1) (ci := 5) (v := .ref sa) (C := RX10) (T := TX10) (N := 6) hx hb hts mX10_reads_0 hown hK (hX.gy) 0 rfl rfl 0 (by decide) (hts _ mX10_reads_1) (fun _ h9 => h9) rfl dX10_reads_279 ?_
                                          refine lv_iload_n hx hb dX10_reads_282 rfl (lv_at hl 1 rfl) ?_
                                          refine zy_ild hx hb hK hX (by omega) dX10_reads_283 ?_
                                          refine zv_iadd hx hb dX10_reads_284 ?_
                                          refine lv_aload_n hx hb dX10_reads_285 rfl (lv_at hl 0 rfl) ?_
                                          refine va_get (D := g.1) (ci := 5) (v := .ref sa) (C := RX10) (T := TX10) (N := 6) hx hb hts mX10_reads_0 hown hK (hX.gy) 0 rfl rfl 0 (by decide) (hts _ mX10_reads_1) (fun _ h9 => h9) rfl dX10_reads_286 ?_
                                          refine lv_iload_n hx hb dX10_reads_289 rfl (lv_at hl 1 rfl) ?_
                                          refine lv_aload_n hx hb dX10_reads_290 rfl (lv_at hl 0 rfl) ?_
                                          refine va_get (D := g.1) (ci := 5) (v := .ref sa) (C := RX10) (T := TX10) (N := 6) hx hb hts mX10_reads_0 hown hK (hX.gy) 0 rfl rfl 0 (by decide) (hts _ mX10_reads_1) (fun _ h9 => h9) rfl dX10_reads_291 ?_
                                          refine lv_iload_n hx hb dX10_reads_294 rfl (lv_at hl 1 rfl) ?_
                                          refine zy_ild hx hb hK hX (by omega) dX10_reads_295 ?_
                                          refine zv_iadd hx hb dX10_reads_296 ?_
                                          refine lv_iload hx hb dX10_reads_297 (lv_at hl 6 rfl) ?_
                                          refine zv_isub hx hb dX10_reads_299 ?_
                                          refine zy_ild hx hb hK hX (by omega) dX10_reads_300 ?_
                                          refine zy_ist hx hb hK hX hS (by omega) (hX.gf (by omega)) dX10_reads_301 (fun H1 locs hX hS => ?_)
                                          obtain ⟨f301, e301⟩ : ∃ z9, z9 = zApp f272 (246 + (f272 246)) (f272 ((246 + (f272 246)) - (vn2 - vn1))) := ⟨_, rfl⟩
                                          rw [← e301] at hX
                                          have r301 : f301 (246 + (f272 246)) = f272 ((246 + (f272 246)) - (vn2 - vn1)) := by rw [e301]; exact zApp_eq _ _ _
                                          have q301 : ∀ x9, x9 ≠ 246 + (f272 246) → f301 x9 = f272 x9 := fun x9 h => by rw [e301]; exact zApp_ne h
                                          refine zv_iinc (lv' := [(8, .int (zI (j + 1))), (0, .ref y), (1, .int (zI 246)), (2, .int (zI (q + 0))), (3, .int (zI vn1)), (4, .int (zI 0)), (5, .int (zI (i + 0))), (6, .int (zI (vn2 - vn1))), (7, .int (zI x))]) hx hb dX10_reads_302 hl (k := 8) rfl (by decide) rfl (fun ls hl => ?_)
                                          refine lv_goto (tgt := 251) hx hb dX10_reads_305 (by decide) ?_
                                          exact ih251 (j + 1) f301 _ _ (by omega) (((b1.app (x := zRep v2 vn2 vn1 (vn2 + j)) (f2 := f301) (by omega) (zRep_bd ⟨by omega, by omega⟩ (fun k a b => (a2.2.2 k a b).2) _ (by omega)) (by rw [q301 246 (by omega), r272, l3]) (by rw [show (246 : Int) + 1 + (vn2 + j) = 246 + f272 246 by omega, r301, q272 _ (by omega), show 246 + f272 246 - (vn2 - vn1) = 246 + 1 + (vn2 + j - (vn2 - vn1)) by omega, (b1.2.2 (vn2 + j - (vn2 - vn1)) (by omega) (by omega)).1]; exact zRep_per ⟨by omega, by omega⟩ (by omega)) (fun k a b => by rw [q301 k (by omega), q272 k (by omega)])).word (n2 := vn2 + (j + 1)) (by omega) (fun k a b => zApp_self))) (fun k a b => by rw [q301 k (by omega), q272 k (by omega)]; exact blo k a b) (hX) (hS) (by omega) _ (lv_sub hl [1, 2, 3, 4, 5, 6, 7, 8, 0] rfl)
                                    exact lp251 _ 0 f2 _ _ (by omega) (a2.word (by omega) (fun k a b => zRep_lo (by omega))) (alo) (hX) (hS) (Nat.lt_succ_self _) _ (lv_sub hl [4, 5, 3, 6, 7, 8, 2, 1, 0] rfl)
                                  · refine lv_iload_n hx hb dX10_reads_246 rfl (lv_at hl 2 rfl) ?_
                                    exact zw_i hx hb hr hlocks hS dX10_reads_247 (⟨_, rfl, (zFl_here s7 (by omega) (fun z => ⟨fun v => by omega, fun v => Or.inr (by rw [← hgq, show gt (q + 0) - 48 = x from ex.symm, zSub1_mul, ← em]; omega), fun v => by omega, fun v => by omega⟩) (fun v => by omega)).symm, by omega, by omega, _, _, _, hX, hm.scr hR.1 alo, hgt, fun z => absurd z (by omega)⟩)
                            · exfalso; omega
                          · exfalso; omega
                        · refine lv_iload_n hx hb dX10_reads_148 rfl (lv_at hl 2 rfl) ?_
                          exact zw_i hx hb hr hlocks hS dX10_reads_149 (⟨_, rfl, (zFl_here a1 (by omega) (fun z => ⟨hex z, fun v => Or.inl (Classical.byContradiction fun v2 => a4 (by omega) v2 (by omega) (by rw [← show q = i by omega]; exact v)), fun v => absurd v (by rw [show q = i by omega]; exact n40 (by omega)), fun _ => Or.inl rfl⟩) (fun z => Or.inr (by have := h0.2.2.2 (by omega); omega))).symm, by omega, by omega, _, _, _, hX, hm.scr hR.1 alo, hgt, fun z => absurd z (by omega)⟩)
                      · refine lv_iload hx hb dX10_reads_93 (lv_at hl 4 rfl) ?_
                        refine zv_if_ne (tgt := 104) hx hb dX10_reads_95 (by decide) (by omega) (fun c95 => ?_) (fun c95 => ?_)
                        · exfalso; omega
                        · have hgq := hgt q (by omega) (by omega)
                          refine lv_iload_n hx hb dX10_reads_98 rfl (lv_at hl 2 rfl) ?_
                          refine lv_iload hx hb dX10_reads_99 (lv_at hl 5 rfl) ?_
                          refine zv_icmp_ne (tgt := 142) hx hb dX10_reads_101 (by decide) (by omega) (by omega) (fun c101 => ?_) (fun c101 => ?_)
                          · refine lv_iload_n hx hb dX10_reads_142 rfl (lv_at hl 2 rfl) ?_
                            refine lv_iload hx hb dX10_reads_143 (lv_at hl 5 rfl) ?_
                            refine zv_icmp_ne (tgt := 150) hx hb dX10_reads_145 (by decide) (by omega) (by omega) (fun c145 => ?_) (fun c145 => ?_)
                            · refine lv_iload hx hb dX10_reads_150 (lv_at hl 4 rfl) ?_
                              refine zv_if_eq (tgt := 176) hx hb dX10_reads_152 (by decide) (by omega) (fun c152 => ?_) (fun c152 => ?_)
                              · refine lv_iload_n hx hb dX10_reads_176 rfl (lv_at hl 2 rfl) ?_
                                refine lv_iload hx hb dX10_reads_177 (lv_at hl 4 rfl) ?_
                                refine zv_if_eq (tgt := 186) hx hb dX10_reads_179 (by decide) (by omega) (fun c179 => ?_) (fun c179 => ?_)
                                · refine zv_iconst hx hb dX10_reads_186 ?_
                                  refine zv_iadd hx hb dX10_reads_187 ?_
                                  refine lv_istore_n (lv' := [(2, .int (zI (q + 0))), (0, .ref y), (1, .int (zI 246)), (3, .int (zI vn1)), (4, .int (zI 0)), (5, .int (zI (i + 0)))]) hx hb dX10_reads_188 rfl hl (by decide) rfl (fun ls hl => ?_)
                                  have eq1 : q = i + 1 := by omega
                                  have s7 : zSt tc (q + 0).toNat = some (v2, vn2, vn1, 0, 1) := by rw [show q + 0 = q by omega, a1, (a3 eq1).1, (a3 eq1).2]
                                  refine lv_aload_n hx hb dX10_reads_189 rfl (lv_at hl 1 rfl) ?_
                                  refine va_get (D := g.1) (ci := 5) (v := .ref sa) (C := RX10) (T := TX10) (N := 6) hx hb hts mX10_reads_0 hown hK (hX.gy) 0 rfl rfl 0 (by decide) (hts _ mX10_reads_1) (fun _ h9 => h9) rfl dX10_reads_190 ?_
                                  refine lv_iload_n hx hb dX10_reads_193 rfl (lv_at hl 2 rfl) ?_
                                  refine zy_ild hx hb hK hX (by omega) dX10_reads_194 ?_
                                  rw [l2]
                                  refine lv_iload_n hx hb dX10_reads_195 rfl (lv_at hl 3 rfl) ?_
                                  refine zv_isub hx hb dX10_reads_196 ?_
                                  refine lv_istore (lv' := [(6, .int (zI (vn2 - vn1))), (2, .int (zI (q + 0))), (0, .ref y), (1, .int (zI 246)), (3, .int (zI vn1)), (4, .int (zI 0)), (5, .int (zI (i + 0)))]) hx hb dX10_reads_197 hl (by decide) rfl (fun ls hl => ?_)
                                  refine lv_iload_n hx hb dX10_reads_199 rfl (lv_at hl 1 rfl) ?_
                                  refine lv_aload_n hx hb dX10_reads_200 rfl (lv_at hl 2 rfl) ?_
                                  refine va_get (D := g.1) (ci := 5) (v := .int (zI tn)) (C := RX10) (T := TX10) (N := 6) hx hb hts mX10_reads_0 hown hK (hX.gy) 0 rfl rfl 4 (by decide) (hts _ mX10_reads_2) (fun _ h9 => h9) rfl dX10_reads_201 ?_
                                  refine zv_icmp_ge (tgt := 311) hx hb dX10_reads_204 (by decide) (by omega) (by omega) (fun c204 => ?_) (fun c204 => ?_)
                                  · refine lv_goto (tgt := 13) hx hb dX10_reads_311 (by decide) ?_
                                    exact ih13 (q + 0) f2 v2 vn2 vn1 1 _ _ (by omega) (s7) (a2) (fun _ z y => by first | omega | exact c220 (by rw [← hgt _ (by omega) z] at y; exact y)) (alo) (hX) (hS) (by omega) _ (lv_sub hl [2, 3, 1] rfl)
                                  · refine lv_aload_n hx hb dX10_reads_207 rfl (lv_at hl 2 rfl) ?_
                                    refine va_get (D := g.1) (ci := 5) (v := .ref ta) (C := RX10) (T := TX10) (N := 6) hx hb hts mX10_reads_0 hown hK (hX.gy) 0 rfl rfl 3 (by decide) (hts _ mX10_reads_3) (fun _ h9 => h9) rfl dX10_reads_208 ?_
                                    refine lv_iload_n hx hb dX10_reads_211 rfl (lv_at hl 1 rfl) ?_
                                    refine zy_tld hx hb hK hX (by omega) dX10_reads_212 ?_
                                    have g8 := hX.gg (k := q + 0) (by omega)
                                    refine zv_bipush hx hb dX10_reads_213 (by decide +kernel) ?_
                                    refine zv_bipush hx hb dX10_reads_215 (by decide +kernel) ?_
                                    refine zc_S (As := [.int (zI (gt (q + 0))), .int (zI 50), .int (zI 57)]) (rest := []) S hK (kX10_in l g (gt (q + 0)) 50 57 (by omega) (by omega) (by omega)) (va_cwS 3 hts gX10_reads_X10_in rfl rfl rfl (by decide +kernel) ⟨Nat.le_of_ble_eq_true rfl, Nat.le_of_ble_eq_true rfl⟩) (trivial) rfl hl.1 rfl (Nat.le_of_ble_eq_true rfl) dX10_reads_217 ⟨Nat.zero_le _, Nat.zero_le _⟩ (fun r217 hr217 => ?_)
                                    obtain rfl := hr217
                                    refine zv_ifB_eq (tgt := 311) hx hb dX10_reads_220 (by decide) (fun c220 => ?_) (fun c220 => ?_)
                                    · refine lv_goto (tgt := 13) hx hb dX10_reads_311 (by decide) ?_
                                      exact ih13 (q + 0) f2 v2 vn2 vn1 1 _ _ (by omega) (s7) (a2) (fun _ z y => by first | omega | exact c220 (by rw [← hgt _ (by omega) z] at y; exact y)) (alo) (hX) (hS) (by omega) _ (lv_sub hl [2, 3, 1] rfl)
                                    · refine lv_aload_n hx hb dX10_reads_223 rfl (lv_at hl 2 rfl) ?_
                                      refine va_get (D := g.1) (ci := 5) (v := .ref ta) (C := RX10) (T := TX10) (N := 6) hx hb hts mX10_reads_0 hown hK (hX.gy) 0 rfl rfl 3 (by decide) (hts _ mX10_reads_3) (fun _ h9 => h9) rfl dX10_reads_224 ?_
                                      refine lv_iload_n hx hb dX10_reads_227 rfl (lv_at hl 1 rfl) ?_
                                      refine zy_tld hx hb hK hX (by omega) dX10_reads_228 ?_
                                      refine zv_bipush hx hb dX10_reads_229 (by decide +kernel) ?_
                                      refine zv_isub hx hb dX10_reads_231 ?_
                                      obtain ⟨x, ex⟩ : ∃ x, x = gt (q + 0) - 48 := ⟨_, rfl⟩
                                      rw [← ex]
                                      obtain ⟨mm, em⟩ : ∃ m, m = x * (vn2 - vn1) := ⟨_, rfl⟩
                                      have hgq := hgt (q + 0) (by omega) (by omega)
                                      have bm := zMulBd9 (a := x) (b := vn2 - vn1) (by omega) (by omega)
                                      rw [← em] at bm
                                      have bm2 := Int.mul_nonneg (show 0 ≤ x - 1 by omega) (show 0 ≤ vn2 - vn1 by omega)
                                      rw [zSub1_mul, ← em] at bm2
                                      refine lv_istore (lv' := [(7, .int (zI x)), (6, .int (zI (vn2 - vn1))), (2, .int (zI (q + 0))), (0, .ref y), (1, .int (zI 246)), (3, .int (zI vn1)), (4, .int (zI 0)), (5, .int (zI (i + 0)))]) hx hb dX10_reads_232 hl (by decide) rfl (fun ls hl => ?_)
                                      refine lv_iload_n hx hb dX10_reads_234 rfl (lv_at hl 5 rfl) ?_
                                      refine lv_iload hx hb dX10_reads_235 (lv_at hl 0 rfl) ?_
                                      refine lv_iload hx hb dX10_reads_237 (lv_at hl 1 rfl) ?_
                                      refine zv_imul hx hb dX10_reads_239 ?_
                                      rw [← em]
                                      refine zv_iadd hx hb dX10_reads_240 ?_
                                      refine zv_bipush hx hb dX10_reads_241 (by decide +kernel) ?_
                                      refine zv_icmp_le (tgt := 248) hx hb dX10_reads_243 (by decide) (by omega) (by omega) (fun c243 => ?_) (fun c243 => ?_)
                                      · refine zv_iconst hx hb dX10_reads_248 ?_
                                        refine lv_istore (lv' := [(8, .int (zI 0)), (7, .int (zI x)), (6, .int (zI (vn2 - vn1))), (2, .int (zI (q + 0))), (0, .ref y), (1, .int (zI 246)), (3, .int (zI vn1)), (4, .int (zI 0)), (5, .int (zI (i + 0)))]) hx hb dX10_reads_249 hl (by decide) rfl (fun ls hl => ?_)
                                        have lp251 : ∀ (z_f : Nat) (j : Int) (f3 : Int → Int) (H1 : Heap) (locs : List Loc), (0 ≤ j ∧ j ≤ mm - (vn2 - vn1)) → (SL f3 246 (zRep v2 vn2 vn1) (vn2 + j)) → (∀ k, 0 ≤ k → k < 246 → f3 k = f k) → (RM g y sa ta oa f3 gt od hc hs tn H1) → (va_S (zA4 y sa ta oa) s.heap H1 locs) → ((mm - (vn2 - vn1) - j).toNat) < z_f → ∀ (ls : Array Slot), lv_has ls 9 [(0, .ref y), (1, .int (zI 246)), (2, .int (zI (q + 0))), (3, .int (zI vn1)), (4, .int (zI 0)), (5, .int (zI (i + 0))), (6, .int (zI (vn2 - vn1))), (7, .int (zI x)), (8, .int (zI j))] → W p l e (zRm 2 43) s m args below meth c H1 locs 0 0 (MQ below (zQi (fun r H => ∃ z : Int, r = zI z ∧ z = zFl tc tn ∧ -1 ≤ z ∧ z ≤ 60 ∧ ∃ f gt od : Int → Int, RM g y sa ta oa f gt od hc hs tn H ∧ MF f w n ee en hc u un hs ∧ (∀ k, 0 ≤ k → k < tn → gt k = tc k) ∧ (z = -1 → SL f 246 (zLdS tc tn).1 (zLdS tc tn).2.1)) (zA4 y sa ta oa)) args s 0 0 (zA4 y sa ta oa)) (F0 m 251 ls []) := by
                                          intro z_f
                                          induction z_f with
                                          | zero => intro j f3 H1 locs b0 b1 blo hX hS z_m; exact absurd z_m (Nat.not_lt_zero _)
                                          | succ z_f ih251 =>
                                            intro j f3 H1 locs b0 b1 blo hX hS z_m251 ls hl
                                            have l3 := b1.1
                                            have nb3 := b1.2.1
                                            refine lv_iload hx hb dX10_reads_251 (lv_at hl 8 rfl) ?_
                                            refine lv_iload hx hb dX10_reads_253 (lv_at hl 7 rfl) ?_
                                            refine zv_iconst hx hb dX10_reads_255 ?_
                                            refine zv_isub hx hb dX10_reads_256 ?_
                                            refine lv_iload hx hb dX10_reads_257 (lv_at hl 6 rfl) ?_
                                            refine zv_imul hx hb dX10_reads_259 ?_
                                            rw [show (x - 1) * (vn2 - vn1) = mm - (vn2 - vn1) by rw [zSub1_mul, ← em]]
                                            refine zv_icmp_ge (tgt := 308) hx hb dX10_reads_260 (by decide) (by omega) (by omega) (fun c260 => ?_) (fun c260 => ?_)
                                            · refine zv_iinc (lv' := [(2, .int (zI (q + 0 + 1))), (0, .ref y), (1, .int (zI 246)), (3, .int (zI vn1)), (4, .int (zI 0)), (5, .int (zI (i + 0))), (6, .int (zI (vn2 - vn1))), (7, .int (zI x)), (8, .int (zI j))]) hx hb dX10_reads_308 hl (k := 2) rfl (by decide) rfl (fun ls hl => ?_)
                                              refine lv_goto (tgt := 13) hx hb dX10_reads_311 (by decide) ?_
                                              exact ih13 (q + 0 + 1) f3 (zRep v2 vn2 vn1) (vn2 + j) vn1 0 _ _ (by omega) (by
                                                have ej : vn2 + j = vn2 + (tc (q + 0) - 48 - 1) * (vn2 - vn1) := by rw [← hgq, show gt (q + 0) - 48 = x from ex.symm, zSub1_mul, ← em]; omega
                                                rw [zSt_next (by omega) s7, ej]
                                                exact zTk_dig (by omega) rfl (by omega)) (b1) (fun z => absurd rfl z) (blo) (hX) (hS) (by omega) _ (lv_sub hl [1, 2, 0] rfl)
                                            · refine lv_aload_n hx hb dX10_reads_263 rfl (lv_at hl 0 rfl) ?_
                                              refine va_get (D := g.1) (ci := 5) (v := .ref sa) (C := RX10) (T := TX10) (N := 6) hx hb hts mX10_reads_0 hown hK (hX.gy) 0 rfl rfl 0 (by decide) (hts _ mX10_reads_1) (fun _ h9 => h9) rfl dX10_reads_264 ?_
                                              refine lv_iload_n hx hb dX10_reads_267 rfl (lv_at hl 1 rfl) ?_
                                              refine lv_dup2_11 hx hb dX10_reads_268 rfl rfl ?_
                                              refine zy_ild hx hb hK hX (by omega) dX10_reads_269 ?_
                                              refine zv_iconst hx hb dX10_reads_270 ?_
                                              refine zv_iadd hx hb dX10_reads_271 ?_
                                              refine zy_ist hx hb hK hX hS (by omega) (by omega) dX10_reads_272 (fun H1 locs hX hS => ?_)
                                              obtain ⟨f272, e272⟩ : ∃ z9, z9 = zApp f3 246 ((f3 246) + 1) := ⟨_, rfl⟩
                                              rw [← e272] at hX
                                              have r272 : f272 246 = (f3 246) + 1 := by rw [e272]; exact zApp_eq _ _ _
                                              have q272 : ∀ x9, x9 ≠ 246 → f272 x9 = f3 x9 := fun x9 h => by rw [e272]; exact zApp_ne h
                                              have l272 : f272 246 = vn2 + j + 1 := by omega
                                              refine lv_aload_n hx hb dX10_reads_273 rfl (lv_at hl 0 rfl) ?_
                                              refine va_get (D := g.1) (ci := 5) (v := .ref sa) (C := RX10) (T := TX10) (N := 6) hx hb hts mX10_reads_0 hown hK (hX.gy) 0 rfl rfl 0 (by decide) (hts _ mX10_reads_1) (fun _ h9 => h9) rfl dX10_reads_274 ?_
                                              refine lv_iload_n hx hb dX10_reads_277 rfl (lv_at hl 1 rfl) ?_
                                              refine lv_aload_n hx hb dX10_reads_278 rfl (lv_at hl 0 rfl) ?_
                                              refine va_get (D := g.1) (ci := 5) (v := .ref sa) (C := RX10) (T := TX10) (N := 6) hx hb hts mX10_reads_0 hown hK (hX.gy) 0 rfl rfl 0 (by decide) (hts _ mX10_reads_1) (fun _ h9 => h9) rfl dX10_reads_279 ?_
                                              refine lv_iload_n hx hb dX10_reads_282 rfl (lv_at hl 1 rfl) ?_
                                              refine zy_ild hx hb hK hX (by omega) dX10_reads_283 ?_
                                              refine zv_iadd hx hb dX10_reads_284 ?_
                                              refine lv_aload_n hx hb dX10_reads_285 rfl (lv_at hl 0 rfl) ?_
                                              refine va_get (D := g.1) (ci := 5) (v := .ref sa) (C := RX10) (T := TX10) (N := 6) hx hb hts mX10_reads_0 hown hK (hX.gy) 0 rfl rfl 0 (by decide) (hts _ mX10_reads_1) (fun _ h9 => h9) rfl dX10_reads_286 ?_
                                              refine lv_iload_n hx hb dX10_reads_289 rfl (lv_at hl 1 rfl) ?_
                                              refine lv_aload_n hx hb dX10_reads_290 rfl (lv_at hl 0 rfl) ?_
                                              refine va_get (D := g.1) (ci := 5) (v := .ref sa) (C := RX10) (T := TX10) (N := 6) hx hb hts mX10_reads_0 hown hK (hX.gy) 0 rfl rfl 0 (by decide) (hts _ mX10_reads_1) (fun _ h9 => h9) rfl dX10_reads_291 ?_
                                              refine lv_iload_n hx hb dX10_reads_294 rfl (lv_at hl 1 rfl) ?_
                                              refine zy_ild hx hb hK hX (by omega) dX10_reads_295 ?_
                                              refine zv_iadd hx hb dX10_reads_296 ?_
                                              refine lv_iload hx hb dX10_reads_297 (lv_at hl 6 rfl) ?_
                                              refine zv_isub hx hb dX10_reads_299 ?_
                                              refine zy_ild hx hb hK hX (by omega) dX10_reads_300 ?_
                                              refine zy_ist hx hb hK hX hS (by omega) (hX.gf (by omega)) dX10_reads_301 (fun H1 locs hX hS => ?_)
                                              obtain ⟨f301, e301⟩ : ∃ z9, z9 = zApp f272 (246 + (f272 246)) (f272 ((246 + (f272 246)) - (vn2 - vn1))) := ⟨_, rfl⟩
                                              rw [← e301] at hX
                                              have r301 : f301 (246 + (f272 246)) = f272 ((246 + (f272 246)) - (vn2 - vn1)) := by rw [e301]; exact zApp_eq _ _ _
                                              have q301 : ∀ x9, x9 ≠ 246 + (f272 246) → f301 x9 = f272 x9 := fun x9 h => by rw [e301]; exact zApp_ne h
                                              refine zv_iinc (lv' := [(8, .int (zI (j + 1))), (0, .ref y), (1, .int (zI 246)), (2, .int (zI (q + 0))), (3, .int (zI vn1)), (4, .int (zI 0)), (5, .int (zI (i + 0))), (6, .int (zI (vn2 - vn1))), (7, .int (zI x))]) hx hb dX10_reads_302 hl (k := 8) rfl (by decide) rfl (fun ls hl => ?_)
                                              refine lv_goto (tgt := 251) hx hb dX10_reads_305 (by decide) ?_
                                              exact ih251 (j + 1) f301 _ _ (by omega) (((b1.app (x := zRep v2 vn2 vn1 (vn2 + j)) (f2 := f301) (by omega) (zRep_bd ⟨by omega, by omega⟩ (fun k a b => (a2.2.2 k a b).2) _ (by omega)) (by rw [q301 246 (by omega), r272, l3]) (by rw [show (246 : Int) + 1 + (vn2 + j) = 246 + f272 246 by omega, r301, q272 _ (by omega), show 246 + f272 246 - (vn2 - vn1) = 246 + 1 + (vn2 + j - (vn2 - vn1)) by omega, (b1.2.2 (vn2 + j - (vn2 - vn1)) (by omega) (by omega)).1]; exact zRep_per ⟨by omega, by omega⟩ (by omega)) (fun k a b => by rw [q301 k (by omega), q272 k (by omega)])).word (n2 := vn2 + (j + 1)) (by omega) (fun k a b => zApp_self))) (fun k a b => by rw [q301 k (by omega), q272 k (by omega)]; exact blo k a b) (hX) (hS) (by omega) _ (lv_sub hl [1, 2, 3, 4, 5, 6, 7, 8, 0] rfl)
                                        exact lp251 _ 0 f2 _ _ (by omega) (a2.word (by omega) (fun k a b => zRep_lo (by omega))) (alo) (hX) (hS) (Nat.lt_succ_self _) _ (lv_sub hl [4, 5, 3, 6, 7, 8, 2, 1, 0] rfl)
                                      · refine lv_iload_n hx hb dX10_reads_246 rfl (lv_at hl 2 rfl) ?_
                                        exact zw_i hx hb hr hlocks hS dX10_reads_247 (⟨_, rfl, (zFl_here s7 (by omega) (fun z => ⟨fun v => by omega, fun v => Or.inr (by rw [← hgq, show gt (q + 0) - 48 = x from ex.symm, zSub1_mul, ← em]; omega), fun v => by omega, fun v => by omega⟩) (fun v => by omega)).symm, by omega, by omega, _, _, _, hX, hm.scr hR.1 alo, hgt, fun z => absurd z (by omega)⟩)
                                · exfalso; omega
                              · exfalso; omega
                            · exfalso; omega
                          · have hgq := hgt q (by omega) (by omega)
                            refine lv_aload_n hx hb dX10_reads_104 rfl (lv_at hl 0 rfl) ?_
                            refine va_get (D := g.1) (ci := 5) (v := .ref sa) (C := RX10) (T := TX10) (N := 6) hx hb hts mX10_reads_0 hown hK (hX.gy) 0 rfl rfl 0 (by decide) (hts _ mX10_reads_1) (fun _ h9 => h9) rfl dX10_reads_105 ?_
                            refine lv_iload_n hx hb dX10_reads_108 rfl (lv_at hl 1 rfl) ?_
                            refine lv_dup2_11 hx hb dX10_reads_109 rfl rfl ?_
                            refine zy_ild hx hb hK hX (by omega) dX10_reads_110 ?_
                            refine zv_iconst hx hb dX10_reads_111 ?_
                            refine zv_iadd hx hb dX10_reads_112 ?_
                            refine zy_ist hx hb hK hX hS (by omega) (by omega) dX10_reads_113 (fun H1 locs hX hS => ?_)
                            obtain ⟨f113, e113⟩ : ∃ z9, z9 = zApp f2 246 ((f2 246) + 1) := ⟨_, rfl⟩
                            rw [← e113] at hX
                            have r113 : f113 246 = (f2 246) + 1 := by rw [e113]; exact zApp_eq _ _ _
                            have q113 : ∀ x9, x9 ≠ 246 → f113 x9 = f2 x9 := fun x9 h => by rw [e113]; exact zApp_ne h
                            have l113 : f113 246 = vn2 + 1 := by omega
                            refine lv_aload_n hx hb dX10_reads_114 rfl (lv_at hl 0 rfl) ?_
                            refine va_get (D := g.1) (ci := 5) (v := .ref sa) (C := RX10) (T := TX10) (N := 6) hx hb hts mX10_reads_0 hown hK (hX.gy) 0 rfl rfl 0 (by decide) (hts _ mX10_reads_1) (fun _ h9 => h9) rfl dX10_reads_115 ?_
                            refine lv_iload_n hx hb dX10_reads_118 rfl (lv_at hl 1 rfl) ?_
                            refine lv_aload_n hx hb dX10_reads_119 rfl (lv_at hl 0 rfl) ?_
                            refine va_get (D := g.1) (ci := 5) (v := .ref sa) (C := RX10) (T := TX10) (N := 6) hx hb hts mX10_reads_0 hown hK (hX.gy) 0 rfl rfl 0 (by decide) (hts _ mX10_reads_1) (fun _ h9 => h9) rfl dX10_reads_120 ?_
                            refine lv_iload_n hx hb dX10_reads_123 rfl (lv_at hl 1 rfl) ?_
                            refine zy_ild hx hb hK hX (by omega) dX10_reads_124 ?_
                            refine zv_iadd hx hb dX10_reads_125 ?_
                            refine lv_aload_n hx hb dX10_reads_126 rfl (lv_at hl 0 rfl) ?_
                            refine va_get (D := g.1) (ci := 5) (v := .ref ta) (C := RX10) (T := TX10) (N := 6) hx hb hts mX10_reads_0 hown hK (hX.gy) 0 rfl rfl 3 (by decide) (hts _ mX10_reads_3) (fun _ h9 => h9) rfl dX10_reads_127 ?_
                            refine lv_iload_n hx hb dX10_reads_130 rfl (lv_at hl 2 rfl) ?_
                            refine zy_tld hx hb hK hX (by omega) dX10_reads_131 ?_
                            refine zv_bipush hx hb dX10_reads_132 (by decide +kernel) ?_
                            refine zv_isub hx hb dX10_reads_134 ?_
                            refine zy_ist hx hb hK hX hS (by omega) (by omega) dX10_reads_135 (fun H1 locs hX hS => ?_)
                            obtain ⟨f135, e135⟩ : ∃ z9, z9 = zApp f113 (246 + (f113 246)) ((gt q) - 97) := ⟨_, rfl⟩
                            rw [← e135] at hX
                            have r135 : f135 (246 + (f113 246)) = (gt q) - 97 := by rw [e135]; exact zApp_eq _ _ _
                            have q135 : ∀ x9, x9 ≠ 246 + (f113 246) → f135 x9 = f113 x9 := fun x9 h => by rw [e135]; exact zApp_ne h
                            refine zv_iinc (lv' := [(2, .int (zI (q + 1))), (0, .ref y), (1, .int (zI 246)), (3, .int (zI vn1)), (4, .int (zI 0)), (5, .int (zI (i + 0)))]) hx hb dX10_reads_136 hl (k := 2) rfl (by decide) rfl (fun ls hl => ?_)
                            refine lv_goto (tgt := 74) hx hb dX10_reads_139 (by decide) ?_
                            exact ih74 (q + 1) f135 (zApp v2 vn2 (gt q - 97)) (vn2 + 1) vn1 1 _ _ (by omega) (by rw [zSt_next (by omega) a1, ← hgq, zTk_let0 (by omega) (by omega), show vn1 = vn2 by omega]) (fun _ => ⟨rfl, rfl⟩) (fun z => absurd z (by omega)) (((a2.app (x := gt q - 97) (f2 := f135) (by omega) (by omega) (by rw [q135 246 (by omega), r113, l2]) (by rw [show (246 : Int) + 1 + vn2 = 246 + f113 246 by omega]; exact r135) (fun k a b => by rw [q135 k (by omega), q113 k (by omega)])))) (fun k a b => by rw [q135 k (by omega), q113 k (by omega)]; exact alo k a b) (hX) (hS) (by omega) _ (lv_sub hl [1, 2, 0, 3, 4, 5] rfl)
                exact lp74 _ (i + 0) f1 v1 vn1 pf1 bp1 _ _ (by omega) (by rw [show i + 0 = i by omega]; exact h1) (fun z => absurd z (by omega)) (fun _ => h3) (h2) (hlo) (hX) (hS) (Nat.lt_succ_self _) _ (lv_sub hl [4, 5, 1, 3, 2, 0] rfl)
              · exfalso; omega
            · refine zv_iconst hx hb dX10_reads_51 ?_
              refine lv_goto (tgt := 56) hx hb dX10_reads_52 (by decide) ?_
              refine lv_istore (lv' := [(4, .int (zI 1)), (3, .int (zI vn1)), (0, .ref y), (1, .int (zI 246)), (2, .int (zI i))]) hx hb dX10_reads_56 hl (by decide) rfl (fun ls hl => ?_)
              refine lv_iload_n hx hb dX10_reads_58 rfl (lv_at hl 4 rfl) ?_
              refine lv_iload hx hb dX10_reads_59 (lv_at hl 0 rfl) ?_
              refine zv_if_eq (tgt := 68) hx hb dX10_reads_61 (by decide) (by omega) (fun c61 => ?_) (fun c61 => ?_)
              · exfalso; omega
              · refine zv_iconst hx hb dX10_reads_64 ?_
                refine lv_goto (tgt := 69) hx hb dX10_reads_65 (by decide) ?_
                refine zv_iadd hx hb dX10_reads_69 ?_
                refine lv_istore_n (lv' := [(2, .int (zI (i + 1))), (4, .int (zI 1)), (3, .int (zI vn1)), (0, .ref y), (1, .int (zI 246))]) hx hb dX10_reads_70 rfl hl (by decide) rfl (fun ls hl => ?_)
                refine lv_iload_n hx hb dX10_reads_71 rfl (lv_at hl 0 rfl) ?_
                refine lv_istore (lv' := [(5, .int (zI (i + 1))), (2, .int (zI (i + 1))), (4, .int (zI 1)), (3, .int (zI vn1)), (0, .ref y), (1, .int (zI 246))]) hx hb dX10_reads_72 hl (by decide) rfl (fun ls hl => ?_)
                have lp74 : ∀ (z_f : Nat) (q : Int) (f2 : Int → Int) (v2 : Int → Int) (vn2 : Int) (H1 : Heap) (locs : List Loc), (i + 1 ≤ q ∧ q ≤ tn ∧ vn1 ≤ vn2 ∧ vn2 - vn1 = q - (i + 1)) → (zSt tc q.toNat = some (v2, vn2, vn1, 1, 0)) → (SL f2 246 v2 vn2) → (∀ k, 0 ≤ k → k < 246 → f2 k = f k) → (RM g y sa ta oa f2 gt od hc hs tn H1) → (va_S (zA4 y sa ta oa) s.heap H1 locs) → ((tn - q).toNat) < z_f → ∀ (ls : Array Slot), lv_has ls 9 [(0, .ref y), (1, .int (zI 246)), (2, .int (zI q)), (3, .int (zI vn1)), (4, .int (zI 1)), (5, .int (zI (i + 1)))] → W p l e (zRm 2 43) s m args below meth c H1 locs 0 0 (MQ below (zQi (fun r H => ∃ z : Int, r = zI z ∧ z = zFl tc tn ∧ -1 ≤ z ∧ z ≤ 60 ∧ ∃ f gt od : Int → Int, RM g y sa ta oa f gt od hc hs tn H ∧ MF f w n ee en hc u un hs ∧ (∀ k, 0 ≤ k → k < tn → gt k = tc k) ∧ (z = -1 → SL f 246 (zLdS tc tn).1 (zLdS tc tn).2.1)) (zA4 y sa ta oa)) args s 0 0 (zA4 y sa ta oa)) (F0 m 74 ls []) := by
                  intro z_f
                  induction z_f with
                  | zero => intro q f2 v2 vn2 H1 locs a0 a1 a2 alo hX hS z_m; exact absurd z_m (Nat.not_lt_zero _)
                  | succ z_f ih74 =>
                    intro q f2 v2 vn2 H1 locs a0 a1 a2 alo hX hS z_m74 ls hl
                    have l2 := a2.1
                    have nb2 := a2.2.1
                    refine lv_aload_n hx hb dX10_reads_74 rfl (lv_at hl 0 rfl) ?_
                    refine lv_iload_n hx hb dX10_reads_75 rfl (lv_at hl 2 rfl) ?_
                    refine zc_V (As := [.int (zI q)]) (rest := []) S hK (kX10_isLetter l g y sa ta oa f2 gt od hc hs tn q (by omega)) (cwV 1 hts gX10_reads_X10_isLetter rfl rfl rfl (by decide +kernel) ⟨Nat.le_of_ble_eq_true rfl, Nat.le_of_ble_eq_true rfl⟩) (hX) (hX.recv hK) rfl hl.1 rfl (Nat.le_of_ble_eq_true rfl) dX10_reads_76 ⟨Nat.zero_le _, Nat.zero_le _⟩ (fun r76 hr76 => ?_)
                    obtain rfl := hr76
                    refine zv_ifB_eq (tgt := 142) hx hb dX10_reads_79 (by decide) (fun c79 => ?_) (fun c79 => ?_)
                    · have hex : q < tn → 97 ≤ tc q ∧ tc q ≤ 122 → 40 ≤ vn2 := fun z v => absurd ⟨z, by rw [hgt q (by omega) z]; exact v⟩ c79
                      refine lv_iload_n hx hb dX10_reads_142 rfl (lv_at hl 2 rfl) ?_
                      refine lv_iload hx hb dX10_reads_143 (lv_at hl 5 rfl) ?_
                      refine zv_icmp_ne (tgt := 150) hx hb dX10_reads_145 (by decide) (by omega) (by omega) (fun c145 => ?_) (fun c145 => ?_)
                      · refine lv_iload hx hb dX10_reads_150 (lv_at hl 4 rfl) ?_
                        refine zv_if_eq (tgt := 176) hx hb dX10_reads_152 (by decide) (by omega) (fun c152 => ?_) (fun c152 => ?_)
                        · exfalso; omega
                        · refine lv_iload_n hx hb dX10_reads_155 rfl (lv_at hl 2 rfl) ?_
                          refine lv_aload_n hx hb dX10_reads_156 rfl (lv_at hl 0 rfl) ?_
                          refine va_get (D := g.1) (ci := 5) (v := .int (zI tn)) (C := RX10) (T := TX10) (N := 6) hx hb hts mX10_reads_0 hown hK (hX.gy) 0 rfl rfl 4 (by decide) (hts _ mX10_reads_2) (fun _ h9 => h9) rfl dX10_reads_157 ?_
                          refine zv_icmp_eq (tgt := 174) hx hb dX10_reads_160 (by decide) (by omega) (by omega) (fun c160 => ?_) (fun c160 => ?_)
                          · refine lv_iload_n hx hb dX10_reads_174 rfl (lv_at hl 2 rfl) ?_
                            exact zw_i hx hb hr hlocks hS dX10_reads_175 (⟨_, rfl, (zFl_here a1 (by omega) (fun z => ⟨hex z, fun _ => Or.inl rfl, fun _ => rfl, fun v => by have := hgt q (by omega) (by omega); omega⟩) (fun _ => Or.inl rfl)).symm, by omega, by omega, _, _, _, hX, hm.scr hR.1 alo, hgt, fun z => absurd z (by omega)⟩)
                          · refine lv_aload_n hx hb dX10_reads_163 rfl (lv_at hl 0 rfl) ?_
                            refine va_get (D := g.1) (ci := 5) (v := .ref ta) (C := RX10) (T := TX10) (N := 6) hx hb hts mX10_reads_0 hown hK (hX.gy) 0 rfl rfl 3 (by decide) (hts _ mX10_reads_3) (fun _ h9 => h9) rfl dX10_reads_164 ?_
                            refine lv_iload_n hx hb dX10_reads_167 rfl (lv_at hl 2 rfl) ?_
                            refine zy_tld hx hb hK hX (by omega) dX10_reads_168 ?_
                            have g8 := hX.gg (k := q) (by omega)
                            refine zv_bipush hx hb dX10_reads_169 (by decide +kernel) ?_
                            refine zv_icmp_eq (tgt := 176) hx hb dX10_reads_171 (by decide) (by omega) (by omega) (fun c171 => ?_) (fun c171 => ?_)
                            · refine lv_iload_n hx hb dX10_reads_176 rfl (lv_at hl 2 rfl) ?_
                              refine lv_iload hx hb dX10_reads_177 (lv_at hl 4 rfl) ?_
                              refine zv_if_eq (tgt := 186) hx hb dX10_reads_179 (by decide) (by omega) (fun c179 => ?_) (fun c179 => ?_)
                              · exfalso; omega
                              · refine zv_iconst hx hb dX10_reads_182 ?_
                                refine lv_goto (tgt := 187) hx hb dX10_reads_183 (by decide) ?_
                                refine zv_iadd hx hb dX10_reads_187 ?_
                                refine lv_istore_n (lv' := [(2, .int (zI (q + 1))), (0, .ref y), (1, .int (zI 246)), (3, .int (zI vn1)), (4, .int (zI 1)), (5, .int (zI (i + 1)))]) hx hb dX10_reads_188 rfl hl (by decide) rfl (fun ls hl => ?_)
                                have s7 : zSt tc (q + 1).toNat = some (v2, vn2, vn1, 0, 1) := by rw [zSt_next (by omega) a1]; exact zTk_close (by rw [← hgt q (by omega) (by omega)]; omega) (by omega)
                                refine lv_aload_n hx hb dX10_reads_189 rfl (lv_at hl 1 rfl) ?_
                                refine va_get (D := g.1) (ci := 5) (v := .ref sa) (C := RX10) (T := TX10) (N := 6) hx hb hts mX10_reads_0 hown hK (hX.gy) 0 rfl rfl 0 (by decide) (hts _ mX10_reads_1) (fun _ h9 => h9) rfl dX10_reads_190 ?_
                                refine lv_iload_n hx hb dX10_reads_193 rfl (lv_at hl 2 rfl) ?_
                                refine zy_ild hx hb hK hX (by omega) dX10_reads_194 ?_
                                rw [l2]
                                refine lv_iload_n hx hb dX10_reads_195 rfl (lv_at hl 3 rfl) ?_
                                refine zv_isub hx hb dX10_reads_196 ?_
                                refine lv_istore (lv' := [(6, .int (zI (vn2 - vn1))), (2, .int (zI (q + 1))), (0, .ref y), (1, .int (zI 246)), (3, .int (zI vn1)), (4, .int (zI 1)), (5, .int (zI (i + 1)))]) hx hb dX10_reads_197 hl (by decide) rfl (fun ls hl => ?_)
                                refine lv_iload_n hx hb dX10_reads_199 rfl (lv_at hl 1 rfl) ?_
                                refine lv_aload_n hx hb dX10_reads_200 rfl (lv_at hl 2 rfl) ?_
                                refine va_get (D := g.1) (ci := 5) (v := .int (zI tn)) (C := RX10) (T := TX10) (N := 6) hx hb hts mX10_reads_0 hown hK (hX.gy) 0 rfl rfl 4 (by decide) (hts _ mX10_reads_2) (fun _ h9 => h9) rfl dX10_reads_201 ?_
                                refine zv_icmp_ge (tgt := 311) hx hb dX10_reads_204 (by decide) (by omega) (by omega) (fun c204 => ?_) (fun c204 => ?_)
                                · refine lv_goto (tgt := 13) hx hb dX10_reads_311 (by decide) ?_
                                  exact ih13 (q + 1) f2 v2 vn2 vn1 1 _ _ (by omega) (s7) (a2) (fun _ z y => by first | omega | exact c220 (by rw [← hgt _ (by omega) z] at y; exact y)) (alo) (hX) (hS) (by omega) _ (lv_sub hl [2, 3, 1] rfl)
                                · refine lv_aload_n hx hb dX10_reads_207 rfl (lv_at hl 2 rfl) ?_
                                  refine va_get (D := g.1) (ci := 5) (v := .ref ta) (C := RX10) (T := TX10) (N := 6) hx hb hts mX10_reads_0 hown hK (hX.gy) 0 rfl rfl 3 (by decide) (hts _ mX10_reads_3) (fun _ h9 => h9) rfl dX10_reads_208 ?_
                                  refine lv_iload_n hx hb dX10_reads_211 rfl (lv_at hl 1 rfl) ?_
                                  refine zy_tld hx hb hK hX (by omega) dX10_reads_212 ?_
                                  have g8 := hX.gg (k := q + 1) (by omega)
                                  refine zv_bipush hx hb dX10_reads_213 (by decide +kernel) ?_
                                  refine zv_bipush hx hb dX10_reads_215 (by decide +kernel) ?_
                                  refine zc_S (As := [.int (zI (gt (q + 1))), .int (zI 50), .int (zI 57)]) (rest := []) S hK (kX10_in l g (gt (q + 1)) 50 57 (by omega) (by omega) (by omega)) (va_cwS 3 hts gX10_reads_X10_in rfl rfl rfl (by decide +kernel) ⟨Nat.le_of_ble_eq_true rfl, Nat.le_of_ble_eq_true rfl⟩) (trivial) rfl hl.1 rfl (Nat.le_of_ble_eq_true rfl) dX10_reads_217 ⟨Nat.zero_le _, Nat.zero_le _⟩ (fun r217 hr217 => ?_)
                                  obtain rfl := hr217
                                  refine zv_ifB_eq (tgt := 311) hx hb dX10_reads_220 (by decide) (fun c220 => ?_) (fun c220 => ?_)
                                  · refine lv_goto (tgt := 13) hx hb dX10_reads_311 (by decide) ?_
                                    exact ih13 (q + 1) f2 v2 vn2 vn1 1 _ _ (by omega) (s7) (a2) (fun _ z y => by first | omega | exact c220 (by rw [← hgt _ (by omega) z] at y; exact y)) (alo) (hX) (hS) (by omega) _ (lv_sub hl [2, 3, 1] rfl)
                                  · refine lv_aload_n hx hb dX10_reads_223 rfl (lv_at hl 2 rfl) ?_
                                    refine va_get (D := g.1) (ci := 5) (v := .ref ta) (C := RX10) (T := TX10) (N := 6) hx hb hts mX10_reads_0 hown hK (hX.gy) 0 rfl rfl 3 (by decide) (hts _ mX10_reads_3) (fun _ h9 => h9) rfl dX10_reads_224 ?_
                                    refine lv_iload_n hx hb dX10_reads_227 rfl (lv_at hl 1 rfl) ?_
                                    refine zy_tld hx hb hK hX (by omega) dX10_reads_228 ?_
                                    refine zv_bipush hx hb dX10_reads_229 (by decide +kernel) ?_
                                    refine zv_isub hx hb dX10_reads_231 ?_
                                    obtain ⟨x, ex⟩ : ∃ x, x = gt (q + 1) - 48 := ⟨_, rfl⟩
                                    rw [← ex]
                                    obtain ⟨mm, em⟩ : ∃ m, m = x * (vn2 - vn1) := ⟨_, rfl⟩
                                    have hgq := hgt (q + 1) (by omega) (by omega)
                                    have bm := zMulBd9 (a := x) (b := vn2 - vn1) (by omega) (by omega)
                                    rw [← em] at bm
                                    have bm2 := Int.mul_nonneg (show 0 ≤ x - 1 by omega) (show 0 ≤ vn2 - vn1 by omega)
                                    rw [zSub1_mul, ← em] at bm2
                                    refine lv_istore (lv' := [(7, .int (zI x)), (6, .int (zI (vn2 - vn1))), (2, .int (zI (q + 1))), (0, .ref y), (1, .int (zI 246)), (3, .int (zI vn1)), (4, .int (zI 1)), (5, .int (zI (i + 1)))]) hx hb dX10_reads_232 hl (by decide) rfl (fun ls hl => ?_)
                                    refine lv_iload_n hx hb dX10_reads_234 rfl (lv_at hl 5 rfl) ?_
                                    refine lv_iload hx hb dX10_reads_235 (lv_at hl 0 rfl) ?_
                                    refine lv_iload hx hb dX10_reads_237 (lv_at hl 1 rfl) ?_
                                    refine zv_imul hx hb dX10_reads_239 ?_
                                    rw [← em]
                                    refine zv_iadd hx hb dX10_reads_240 ?_
                                    refine zv_bipush hx hb dX10_reads_241 (by decide +kernel) ?_
                                    refine zv_icmp_le (tgt := 248) hx hb dX10_reads_243 (by decide) (by omega) (by omega) (fun c243 => ?_) (fun c243 => ?_)
                                    · refine zv_iconst hx hb dX10_reads_248 ?_
                                      refine lv_istore (lv' := [(8, .int (zI 0)), (7, .int (zI x)), (6, .int (zI (vn2 - vn1))), (2, .int (zI (q + 1))), (0, .ref y), (1, .int (zI 246)), (3, .int (zI vn1)), (4, .int (zI 1)), (5, .int (zI (i + 1)))]) hx hb dX10_reads_249 hl (by decide) rfl (fun ls hl => ?_)
                                      have lp251 : ∀ (z_f : Nat) (j : Int) (f3 : Int → Int) (H1 : Heap) (locs : List Loc), (0 ≤ j ∧ j ≤ mm - (vn2 - vn1)) → (SL f3 246 (zRep v2 vn2 vn1) (vn2 + j)) → (∀ k, 0 ≤ k → k < 246 → f3 k = f k) → (RM g y sa ta oa f3 gt od hc hs tn H1) → (va_S (zA4 y sa ta oa) s.heap H1 locs) → ((mm - (vn2 - vn1) - j).toNat) < z_f → ∀ (ls : Array Slot), lv_has ls 9 [(0, .ref y), (1, .int (zI 246)), (2, .int (zI (q + 1))), (3, .int (zI vn1)), (4, .int (zI 1)), (5, .int (zI (i + 1))), (6, .int (zI (vn2 - vn1))), (7, .int (zI x)), (8, .int (zI j))] → W p l e (zRm 2 43) s m args below meth c H1 locs 0 0 (MQ below (zQi (fun r H => ∃ z : Int, r = zI z ∧ z = zFl tc tn ∧ -1 ≤ z ∧ z ≤ 60 ∧ ∃ f gt od : Int → Int, RM g y sa ta oa f gt od hc hs tn H ∧ MF f w n ee en hc u un hs ∧ (∀ k, 0 ≤ k → k < tn → gt k = tc k) ∧ (z = -1 → SL f 246 (zLdS tc tn).1 (zLdS tc tn).2.1)) (zA4 y sa ta oa)) args s 0 0 (zA4 y sa ta oa)) (F0 m 251 ls []) := by
                                        intro z_f
                                        induction z_f with
                                        | zero => intro j f3 H1 locs b0 b1 blo hX hS z_m; exact absurd z_m (Nat.not_lt_zero _)
                                        | succ z_f ih251 =>
                                          intro j f3 H1 locs b0 b1 blo hX hS z_m251 ls hl
                                          have l3 := b1.1
                                          have nb3 := b1.2.1
                                          refine lv_iload hx hb dX10_reads_251 (lv_at hl 8 rfl) ?_
                                          refine lv_iload hx hb dX10_reads_253 (lv_at hl 7 rfl) ?_
                                          refine zv_iconst hx hb dX10_reads_255 ?_
                                          refine zv_isub hx hb dX10_reads_256 ?_
                                          refine lv_iload hx hb dX10_reads_257 (lv_at hl 6 rfl) ?_
                                          refine zv_imul hx hb dX10_reads_259 ?_
                                          rw [show (x - 1) * (vn2 - vn1) = mm - (vn2 - vn1) by rw [zSub1_mul, ← em]]
                                          refine zv_icmp_ge (tgt := 308) hx hb dX10_reads_260 (by decide) (by omega) (by omega) (fun c260 => ?_) (fun c260 => ?_)
                                          · refine zv_iinc (lv' := [(2, .int (zI (q + 1 + 1))), (0, .ref y), (1, .int (zI 246)), (3, .int (zI vn1)), (4, .int (zI 1)), (5, .int (zI (i + 1))), (6, .int (zI (vn2 - vn1))), (7, .int (zI x)), (8, .int (zI j))]) hx hb dX10_reads_308 hl (k := 2) rfl (by decide) rfl (fun ls hl => ?_)
                                            refine lv_goto (tgt := 13) hx hb dX10_reads_311 (by decide) ?_
                                            exact ih13 (q + 1 + 1) f3 (zRep v2 vn2 vn1) (vn2 + j) vn1 0 _ _ (by omega) (by
                                              have ej : vn2 + j = vn2 + (tc (q + 1) - 48 - 1) * (vn2 - vn1) := by rw [← hgq, show gt (q + 1) - 48 = x from ex.symm, zSub1_mul, ← em]; omega
                                              rw [zSt_next (by omega) s7, ej]
                                              exact zTk_dig (by omega) rfl (by omega)) (b1) (fun z => absurd rfl z) (blo) (hX) (hS) (by omega) _ (lv_sub hl [1, 2, 0] rfl)
                                          · refine lv_aload_n hx hb dX10_reads_263 rfl (lv_at hl 0 rfl) ?_
                                            refine va_get (D := g.1) (ci := 5) (v := .ref sa) (C := RX10) (T := TX10) (N := 6) hx hb hts mX10_reads_0 hown hK (hX.gy) 0 rfl rfl 0 (by decide) (hts _ mX10_reads_1) (fun _ h9 => h9) rfl dX10_reads_264 ?_
                                            refine lv_iload_n hx hb dX10_reads_267 rfl (lv_at hl 1 rfl) ?_
                                            refine lv_dup2_11 hx hb dX10_reads_268 rfl rfl ?_
                                            refine zy_ild hx hb hK hX (by omega) dX10_reads_269 ?_
                                            refine zv_iconst hx hb dX10_reads_270 ?_
                                            refine zv_iadd hx hb dX10_reads_271 ?_
                                            refine zy_ist hx hb hK hX hS (by omega) (by omega) dX10_reads_272 (fun H1 locs hX hS => ?_)
                                            obtain ⟨f272, e272⟩ : ∃ z9, z9 = zApp f3 246 ((f3 246) + 1) := ⟨_, rfl⟩
                                            rw [← e272] at hX
                                            have r272 : f272 246 = (f3 246) + 1 := by rw [e272]; exact zApp_eq _ _ _
                                            have q272 : ∀ x9, x9 ≠ 246 → f272 x9 = f3 x9 := fun x9 h => by rw [e272]; exact zApp_ne h
                                            have l272 : f272 246 = vn2 + j + 1 := by omega
                                            refine lv_aload_n hx hb dX10_reads_273 rfl (lv_at hl 0 rfl) ?_
                                            refine va_get (D := g.1) (ci := 5) (v := .ref sa) (C := RX10) (T := TX10) (N := 6) hx hb hts mX10_reads_0 hown hK (hX.gy) 0 rfl rfl 0 (by decide) (hts _ mX10_reads_1) (fun _ h9 => h9) rfl dX10_reads_274 ?_
                                            refine lv_iload_n hx hb dX10_reads_277 rfl (lv_at hl 1 rfl) ?_
                                            refine lv_aload_n hx hb dX10_reads_278 rfl (lv_at hl 0 rfl) ?_
                                            refine va_get (D := g.1) (ci := 5) (v := .ref sa) (C := RX10) (T := TX10) (N := 6) hx hb hts mX10_reads_0 hown hK (hX.gy) 0 rfl rfl 0 (by decide) (hts _ mX10_reads_1) (fun _ h9 => h9) rfl dX10_reads_279 ?_
                                            refine lv_iload_n hx hb dX10_reads_282 rfl (lv_at hl 1 rfl) ?_
                                            refine zy_ild hx hb hK hX (by omega) dX10_reads_283 ?_
                                            refine zv_iadd hx hb dX10_reads_284 ?_
                                            refine lv_aload_n hx hb dX10_reads_285 rfl (lv_at hl 0 rfl) ?_
                                            refine va_get (D := g.1) (ci := 5) (v := .ref sa) (C := RX10) (T := TX10) (N := 6) hx hb hts mX10_reads_0 hown hK (hX.gy) 0 rfl rfl 0 (by decide) (hts _ mX10_reads_1) (fun _ h9 => h9) rfl dX10_reads_286 ?_
                                            refine lv_iload_n hx hb dX10_reads_289 rfl (lv_at hl 1 rfl) ?_
                                            refine lv_aload_n hx hb dX10_reads_290 rfl (lv_at hl 0 rfl) ?_
                                            refine va_get (D := g.1) (ci := 5) (v := .ref sa) (C := RX10) (T := TX10) (N := 6) hx hb hts mX10_reads_0 hown hK (hX.gy) 0 rfl rfl 0 (by decide) (hts _ mX10_reads_1) (fun _ h9 => h9) rfl dX10_reads_291 ?_
                                            refine lv_iload_n hx hb dX10_reads_294 rfl (lv_at hl 1 rfl) ?_
                                            refine zy_ild hx hb hK hX (by omega) dX10_reads_295 ?_
                                            refine zv_iadd hx hb dX10_reads_296 ?_
                                            refine lv_iload hx hb dX10_reads_297 (lv_at hl 6 rfl) ?_
                                            refine zv_isub hx hb dX10_reads_299 ?_
                                            refine zy_ild hx hb hK hX (by omega) dX10_reads_300 ?_
                                            refine zy_ist hx hb hK hX hS (by omega) (hX.gf (by omega)) dX10_reads_301 (fun H1 locs hX hS => ?_)
                                            obtain ⟨f301, e301⟩ : ∃ z9, z9 = zApp f272 (246 + (f272 246)) (f272 ((246 + (f272 246)) - (vn2 - vn1))) := ⟨_, rfl⟩
                                            rw [← e301] at hX
                                            have r301 : f301 (246 + (f272 246)) = f272 ((246 + (f272 246)) - (vn2 - vn1)) := by rw [e301]; exact zApp_eq _ _ _
                                            have q301 : ∀ x9, x9 ≠ 246 + (f272 246) → f301 x9 = f272 x9 := fun x9 h => by rw [e301]; exact zApp_ne h
                                            refine zv_iinc (lv' := [(8, .int (zI (j + 1))), (0, .ref y), (1, .int (zI 246)), (2, .int (zI (q + 1))), (3, .int (zI vn1)), (4, .int (zI 1)), (5, .int (zI (i + 1))), (6, .int (zI (vn2 - vn1))), (7, .int (zI x))]) hx hb dX10_reads_302 hl (k := 8) rfl (by decide) rfl (fun ls hl => ?_)
                                            refine lv_goto (tgt := 251) hx hb dX10_reads_305 (by decide) ?_
                                            exact ih251 (j + 1) f301 _ _ (by omega) (((b1.app (x := zRep v2 vn2 vn1 (vn2 + j)) (f2 := f301) (by omega) (zRep_bd ⟨by omega, by omega⟩ (fun k a b => (a2.2.2 k a b).2) _ (by omega)) (by rw [q301 246 (by omega), r272, l3]) (by rw [show (246 : Int) + 1 + (vn2 + j) = 246 + f272 246 by omega, r301, q272 _ (by omega), show 246 + f272 246 - (vn2 - vn1) = 246 + 1 + (vn2 + j - (vn2 - vn1)) by omega, (b1.2.2 (vn2 + j - (vn2 - vn1)) (by omega) (by omega)).1]; exact zRep_per ⟨by omega, by omega⟩ (by omega)) (fun k a b => by rw [q301 k (by omega), q272 k (by omega)])).word (n2 := vn2 + (j + 1)) (by omega) (fun k a b => zApp_self))) (fun k a b => by rw [q301 k (by omega), q272 k (by omega)]; exact blo k a b) (hX) (hS) (by omega) _ (lv_sub hl [1, 2, 3, 4, 5, 6, 7, 8, 0] rfl)
                                      exact lp251 _ 0 f2 _ _ (by omega) (a2.word (by omega) (fun k a b => zRep_lo (by omega))) (alo) (hX) (hS) (Nat.lt_succ_self _) _ (lv_sub hl [4, 5, 3, 6, 7, 8, 2, 1, 0] rfl)
                                    · refine lv_iload_n hx hb dX10_reads_246 rfl (lv_at hl 2 rfl) ?_
                                      exact zw_i hx hb hr hlocks hS dX10_reads_247 (⟨_, rfl, (zFl_here s7 (by omega) (fun z => ⟨fun v => by omega, fun v => Or.inr (by rw [← hgq, show gt (q + 1) - 48 = x from ex.symm, zSub1_mul, ← em]; omega), fun v => by omega, fun v => by omega⟩) (fun v => by omega)).symm, by omega, by omega, _, _, _, hX, hm.scr hR.1 alo, hgt, fun z => absurd z (by omega)⟩)
                            · refine lv_iload_n hx hb dX10_reads_174 rfl (lv_at hl 2 rfl) ?_
                              exact zw_i hx hb hr hlocks hS dX10_reads_175 (⟨_, rfl, (zFl_here a1 (by omega) (fun z => ⟨hex z, fun _ => Or.inl rfl, fun _ => rfl, fun v => by have := hgt q (by omega) (by omega); omega⟩) (fun _ => Or.inl rfl)).symm, by omega, by omega, _, _, _, hX, hm.scr hR.1 alo, hgt, fun z => absurd z (by omega)⟩)
                      · refine lv_iload_n hx hb dX10_reads_148 rfl (lv_at hl 2 rfl) ?_
                        exact zw_i hx hb hr hlocks hS dX10_reads_149 (⟨_, rfl, (zFl_here a1 (by omega) (fun z => ⟨hex z, fun _ => Or.inl rfl, fun _ => rfl, fun _ => Or.inr (by omega)⟩) (fun _ => Or.inl rfl)).symm, by omega, by omega, _, _, _, hX, hm.scr hR.1 alo, hgt, fun z => absurd z (by omega)⟩)
                    · refine lv_aload_n hx hb dX10_reads_82 rfl (lv_at hl 0 rfl) ?_
                      refine va_get (D := g.1) (ci := 5) (v := .ref sa) (C := RX10) (T := TX10) (N := 6) hx hb hts mX10_reads_0 hown hK (hX.gy) 0 rfl rfl 0 (by decide) (hts _ mX10_reads_1) (fun _ h9 => h9) rfl dX10_reads_83 ?_
                      refine lv_iload_n hx hb dX10_reads_86 rfl (lv_at hl 1 rfl) ?_
                      refine zy_ild hx hb hK hX (by omega) dX10_reads_87 ?_
                      refine zv_bipush hx hb dX10_reads_88 (by decide +kernel) ?_
                      refine zv_icmp_ge (tgt := 142) hx hb dX10_reads_90 (by decide) (by omega) (by omega) (fun c90 => ?_) (fun c90 => ?_)
                      · have hex : q < tn → 97 ≤ tc q ∧ tc q ≤ 122 → 40 ≤ vn2 := fun _ _ => by omega
                        refine lv_iload_n hx hb dX10_reads_142 rfl (lv_at hl 2 rfl) ?_
                        refine lv_iload hx hb dX10_reads_143 (lv_at hl 5 rfl) ?_
                        refine zv_icmp_ne (tgt := 150) hx hb dX10_reads_145 (by decide) (by omega) (by omega) (fun c145 => ?_) (fun c145 => ?_)
                        · refine lv_iload hx hb dX10_reads_150 (lv_at hl 4 rfl) ?_
                          refine zv_if_eq (tgt := 176) hx hb dX10_reads_152 (by decide) (by omega) (fun c152 => ?_) (fun c152 => ?_)
                          · exfalso; omega
                          · refine lv_iload_n hx hb dX10_reads_155 rfl (lv_at hl 2 rfl) ?_
                            refine lv_aload_n hx hb dX10_reads_156 rfl (lv_at hl 0 rfl) ?_
                            refine va_get (D := g.1) (ci := 5) (v := .int (zI tn)) (C := RX10) (T := TX10) (N := 6) hx hb hts mX10_reads_0 hown hK (hX.gy) 0 rfl rfl 4 (by decide) (hts _ mX10_reads_2) (fun _ h9 => h9) rfl dX10_reads_157 ?_
                            refine zv_icmp_eq (tgt := 174) hx hb dX10_reads_160 (by decide) (by omega) (by omega) (fun c160 => ?_) (fun c160 => ?_)
                            · refine lv_iload_n hx hb dX10_reads_174 rfl (lv_at hl 2 rfl) ?_
                              exact zw_i hx hb hr hlocks hS dX10_reads_175 (⟨_, rfl, (zFl_here a1 (by omega) (fun z => ⟨hex z, fun _ => Or.inl rfl, fun _ => rfl, fun v => by have := hgt q (by omega) (by omega); omega⟩) (fun _ => Or.inl rfl)).symm, by omega, by omega, _, _, _, hX, hm.scr hR.1 alo, hgt, fun z => absurd z (by omega)⟩)
                            · refine lv_aload_n hx hb dX10_reads_163 rfl (lv_at hl 0 rfl) ?_
                              refine va_get (D := g.1) (ci := 5) (v := .ref ta) (C := RX10) (T := TX10) (N := 6) hx hb hts mX10_reads_0 hown hK (hX.gy) 0 rfl rfl 3 (by decide) (hts _ mX10_reads_3) (fun _ h9 => h9) rfl dX10_reads_164 ?_
                              refine lv_iload_n hx hb dX10_reads_167 rfl (lv_at hl 2 rfl) ?_
                              refine zy_tld hx hb hK hX (by omega) dX10_reads_168 ?_
                              have g8 := hX.gg (k := q) (by omega)
                              refine zv_bipush hx hb dX10_reads_169 (by decide +kernel) ?_
                              refine zv_icmp_eq (tgt := 176) hx hb dX10_reads_171 (by decide) (by omega) (by omega) (fun c171 => ?_) (fun c171 => ?_)
                              · refine lv_iload_n hx hb dX10_reads_176 rfl (lv_at hl 2 rfl) ?_
                                refine lv_iload hx hb dX10_reads_177 (lv_at hl 4 rfl) ?_
                                refine zv_if_eq (tgt := 186) hx hb dX10_reads_179 (by decide) (by omega) (fun c179 => ?_) (fun c179 => ?_)
                                · exfalso; omega
                                · refine zv_iconst hx hb dX10_reads_182 ?_
                                  refine lv_goto (tgt := 187) hx hb dX10_reads_183 (by decide) ?_
                                  refine zv_iadd hx hb dX10_reads_187 ?_
                                  refine lv_istore_n (lv' := [(2, .int (zI (q + 1))), (0, .ref y), (1, .int (zI 246)), (3, .int (zI vn1)), (4, .int (zI 1)), (5, .int (zI (i + 1)))]) hx hb dX10_reads_188 rfl hl (by decide) rfl (fun ls hl => ?_)
                                  have s7 : zSt tc (q + 1).toNat = some (v2, vn2, vn1, 0, 1) := by rw [zSt_next (by omega) a1]; exact zTk_close (by rw [← hgt q (by omega) (by omega)]; omega) (by omega)
                                  refine lv_aload_n hx hb dX10_reads_189 rfl (lv_at hl 1 rfl) ?_
                                  refine va_get (D := g.1) (ci := 5) (v := .ref sa) (C := RX10) (T := TX10) (N := 6) hx hb hts mX10_reads_0 hown hK (hX.gy) 0 rfl rfl 0 (by decide) (hts _ mX10_reads_1) (fun _ h9 => h9) rfl dX10_reads_190 ?_
                                  refine lv_iload_n hx hb dX10_reads_193 rfl (lv_at hl 2 rfl) ?_
                                  refine zy_ild hx hb hK hX (by omega) dX10_reads_194 ?_
                                  rw [l2]
                                  refine lv_iload_n hx hb dX10_reads_195 rfl (lv_at hl 3 rfl) ?_
                                  refine zv_isub hx hb dX10_reads_196 ?_
                                  refine lv_istore (lv' := [(6, .int (zI (vn2 - vn1))), (2, .int (zI (q + 1))), (0, .ref y), (1, .int (zI 246)), (3, .int (zI vn1)), (4, .int (zI 1)), (5, .int (zI (i + 1)))]) hx hb dX10_reads_197 hl (by decide) rfl (fun ls hl => ?_)
                                  refine lv_iload_n hx hb dX10_reads_199 rfl (lv_at hl 1 rfl) ?_
                                  refine lv_aload_n hx hb dX10_reads_200 rfl (lv_at hl 2 rfl) ?_
                                  refine va_get (D := g.1) (ci := 5) (v := .int (zI tn)) (C := RX10) (T := TX10) (N := 6) hx hb hts mX10_reads_0 hown hK (hX.gy) 0 rfl rfl 4 (by decide) (hts _ mX10_reads_2) (fun _ h9 => h9) rfl dX10_reads_201 ?_
                                  refine zv_icmp_ge (tgt := 311) hx hb dX10_reads_204 (by decide) (by omega) (by omega) (fun c204 => ?_) (fun c204 => ?_)
                                  · refine lv_goto (tgt := 13) hx hb dX10_reads_311 (by decide) ?_
                                    exact ih13 (q + 1) f2 v2 vn2 vn1 1 _ _ (by omega) (s7) (a2) (fun _ z y => by first | omega | exact c220 (by rw [← hgt _ (by omega) z] at y; exact y)) (alo) (hX) (hS) (by omega) _ (lv_sub hl [2, 3, 1] rfl)
                                  · refine lv_aload_n hx hb dX10_reads_207 rfl (lv_at hl 2 rfl) ?_
                                    refine va_get (D := g.1) (ci := 5) (v := .ref ta) (C := RX10) (T := TX10) (N := 6) hx hb hts mX10_reads_0 hown hK (hX.gy) 0 rfl rfl 3 (by decide) (hts _ mX10_reads_3) (fun _ h9 => h9) rfl dX10_reads_208 ?_
                                    refine lv_iload_n hx hb dX10_reads_211 rfl (lv_at hl 1 rfl) ?_
                                    refine zy_tld hx hb hK hX (by omega) dX10_reads_212 ?_
                                    have g8 := hX.gg (k := q + 1) (by omega)
                                    refine zv_bipush hx hb dX10_reads_213 (by decide +kernel) ?_
                                    refine zv_bipush hx hb dX10_reads_215 (by decide +kernel) ?_
                                    refine zc_S (As := [.int (zI (gt (q + 1))), .int (zI 50), .int (zI 57)]) (rest := []) S hK (kX10_in l g (gt (q + 1)) 50 57 (by omega) (by omega) (by omega)) (va_cwS 3 hts gX10_reads_X10_in rfl rfl rfl (by decide +kernel) ⟨Nat.le_of_ble_eq_true rfl, Nat.le_of_ble_eq_true rfl⟩) (trivial) rfl hl.1 rfl (Nat.le_of_ble_eq_true rfl) dX10_reads_217 ⟨Nat.zero_le _, Nat.zero_le _⟩ (fun r217 hr217 => ?_)
                                    obtain rfl := hr217
                                    refine zv_ifB_eq (tgt := 311) hx hb dX10_reads_220 (by decide) (fun c220 => ?_) (fun c220 => ?_)
                                    · refine lv_goto (tgt := 13) hx hb dX10_reads_311 (by decide) ?_
                                      exact ih13 (q + 1) f2 v2 vn2 vn1 1 _ _ (by omega) (s7) (a2) (fun _ z y => by first | omega | exact c220 (by rw [← hgt _ (by omega) z] at y; exact y)) (alo) (hX) (hS) (by omega) _ (lv_sub hl [2, 3, 1] rfl)
                                    · refine lv_aload_n hx hb dX10_reads_223 rfl (lv_at hl 2 rfl) ?_
                                      refine va_get (D := g.1) (ci := 5) (v := .ref ta) (C := RX10) (T := TX10) (N := 6) hx hb hts mX10_reads_0 hown hK (hX.gy) 0 rfl rfl 3 (by decide) (hts _ mX10_reads_3) (fun _ h9 => h9) rfl dX10_reads_224 ?_
                                      refine lv_iload_n hx hb dX10_reads_227 rfl (lv_at hl 1 rfl) ?_
                                      refine zy_tld hx hb hK hX (by omega) dX10_reads_228 ?_
                                      refine zv_bipush hx hb dX10_reads_229 (by decide +kernel) ?_
                                      refine zv_isub hx hb dX10_reads_231 ?_
                                      obtain ⟨x, ex⟩ : ∃ x, x = gt (q + 1) - 48 := ⟨_, rfl⟩
                                      rw [← ex]
                                      obtain ⟨mm, em⟩ : ∃ m, m = x * (vn2 - vn1) := ⟨_, rfl⟩
                                      have hgq := hgt (q + 1) (by omega) (by omega)
                                      have bm := zMulBd9 (a := x) (b := vn2 - vn1) (by omega) (by omega)
                                      rw [← em] at bm
                                      have bm2 := Int.mul_nonneg (show 0 ≤ x - 1 by omega) (show 0 ≤ vn2 - vn1 by omega)
                                      rw [zSub1_mul, ← em] at bm2
                                      refine lv_istore (lv' := [(7, .int (zI x)), (6, .int (zI (vn2 - vn1))), (2, .int (zI (q + 1))), (0, .ref y), (1, .int (zI 246)), (3, .int (zI vn1)), (4, .int (zI 1)), (5, .int (zI (i + 1)))]) hx hb dX10_reads_232 hl (by decide) rfl (fun ls hl => ?_)
                                      refine lv_iload_n hx hb dX10_reads_234 rfl (lv_at hl 5 rfl) ?_
                                      refine lv_iload hx hb dX10_reads_235 (lv_at hl 0 rfl) ?_
                                      refine lv_iload hx hb dX10_reads_237 (lv_at hl 1 rfl) ?_
                                      refine zv_imul hx hb dX10_reads_239 ?_
                                      rw [← em]
                                      refine zv_iadd hx hb dX10_reads_240 ?_
                                      refine zv_bipush hx hb dX10_reads_241 (by decide +kernel) ?_
                                      refine zv_icmp_le (tgt := 248) hx hb dX10_reads_243 (by decide) (by omega) (by omega) (fun c243 => ?_) (fun c243 => ?_)
                                      · refine zv_iconst hx hb dX10_reads_248 ?_
                                        refine lv_istore (lv' := [(8, .int (zI 0)), (7, .int (zI x)), (6, .int (zI (vn2 - vn1))), (2, .int (zI (q + 1))), (0, .ref y), (1, .int (zI 246)), (3, .int (zI vn1)), (4, .int (zI 1)), (5, .int (zI (i + 1)))]) hx hb dX10_reads_249 hl (by decide) rfl (fun ls hl => ?_)
                                        have lp251 : ∀ (z_f : Nat) (j : Int) (f3 : Int → Int) (H1 : Heap) (locs : List Loc), (0 ≤ j ∧ j ≤ mm - (vn2 - vn1)) → (SL f3 246 (zRep v2 vn2 vn1) (vn2 + j)) → (∀ k, 0 ≤ k → k < 246 → f3 k = f k) → (RM g y sa ta oa f3 gt od hc hs tn H1) → (va_S (zA4 y sa ta oa) s.heap H1 locs) → ((mm - (vn2 - vn1) - j).toNat) < z_f → ∀ (ls : Array Slot), lv_has ls 9 [(0, .ref y), (1, .int (zI 246)), (2, .int (zI (q + 1))), (3, .int (zI vn1)), (4, .int (zI 1)), (5, .int (zI (i + 1))), (6, .int (zI (vn2 - vn1))), (7, .int (zI x)), (8, .int (zI j))] → W p l e (zRm 2 43) s m args below meth c H1 locs 0 0 (MQ below (zQi (fun r H => ∃ z : Int, r = zI z ∧ z = zFl tc tn ∧ -1 ≤ z ∧ z ≤ 60 ∧ ∃ f gt od : Int → Int, RM g y sa ta oa f gt od hc hs tn H ∧ MF f w n ee en hc u un hs ∧ (∀ k, 0 ≤ k → k < tn → gt k = tc k) ∧ (z = -1 → SL f 246 (zLdS tc tn).1 (zLdS tc tn).2.1)) (zA4 y sa ta oa)) args s 0 0 (zA4 y sa ta oa)) (F0 m 251 ls []) := by
                                          intro z_f
                                          induction z_f with
                                          | zero => intro j f3 H1 locs b0 b1 blo hX hS z_m; exact absurd z_m (Nat.not_lt_zero _)
                                          | succ z_f ih251 =>
                                            intro j f3 H1 locs b0 b1 blo hX hS z_m251 ls hl
                                            have l3 := b1.1
                                            have nb3 := b1.2.1
                                            refine lv_iload hx hb dX10_reads_251 (lv_at hl 8 rfl) ?_
                                            refine lv_iload hx hb dX10_reads_253 (lv_at hl 7 rfl) ?_
                                            refine zv_iconst hx hb dX10_reads_255 ?_
                                            refine zv_isub hx hb dX10_reads_256 ?_
                                            refine lv_iload hx hb dX10_reads_257 (lv_at hl 6 rfl) ?_
                                            refine zv_imul hx hb dX10_reads_259 ?_
                                            rw [show (x - 1) * (vn2 - vn1) = mm - (vn2 - vn1) by rw [zSub1_mul, ← em]]
                                            refine zv_icmp_ge (tgt := 308) hx hb dX10_reads_260 (by decide) (by omega) (by omega) (fun c260 => ?_) (fun c260 => ?_)
                                            · refine zv_iinc (lv' := [(2, .int (zI (q + 1 + 1))), (0, .ref y), (1, .int (zI 246)), (3, .int (zI vn1)), (4, .int (zI 1)), (5, .int (zI (i + 1))), (6, .int (zI (vn2 - vn1))), (7, .int (zI x)), (8, .int (zI j))]) hx hb dX10_reads_308 hl (k := 2) rfl (by decide) rfl (fun ls hl => ?_)
                                              refine lv_goto (tgt := 13) hx hb dX10_reads_311 (by decide) ?_
                                              exact ih13 (q + 1 + 1) f3 (zRep v2 vn2 vn1) (vn2 + j) vn1 0 _ _ (by omega) (by
                                                have ej : vn2 + j = vn2 + (tc (q + 1) - 48 - 1) * (vn2 - vn1) := by rw [← hgq, show gt (q + 1) - 48 = x from ex.symm, zSub1_mul, ← em]; omega
                                                rw [zSt_next (by omega) s7, ej]
                                                exact zTk_dig (by omega) rfl (by omega)) (b1) (fun z => absurd rfl z) (blo) (hX) (hS) (by omega) _ (lv_sub hl [1, 2, 0] rfl)
                                            · refine lv_aload_n hx hb dX10_reads_263 rfl (lv_at hl 0 rfl) ?_
                                              refine va_get (D := g.1) (ci := 5) (v := .ref sa) (C := RX10) (T := TX10) (N := 6) hx hb hts mX10_reads_0 hown hK (hX.gy) 0 rfl rfl 0 (by decide) (hts _ mX10_reads_1) (fun _ h9 => h9) rfl dX10_reads_264 ?_
                                              refine lv_iload_n hx hb dX10_reads_267 rfl (lv_at hl 1 rfl) ?_
                                              refine lv_dup2_11 hx hb dX10_reads_268 rfl rfl ?_
                                              refine zy_ild hx hb hK hX (by omega) dX10_reads_269 ?_
                                              refine zv_iconst hx hb dX10_reads_270 ?_
                                              refine zv_iadd hx hb dX10_reads_271 ?_
                                              refine zy_ist hx hb hK hX hS (by omega) (by omega) dX10_reads_272 (fun H1 locs hX hS => ?_)
                                              obtain ⟨f272, e272⟩ : ∃ z9, z9 = zApp f3 246 ((f3 246) + 1) := ⟨_, rfl⟩
                                              rw [← e272] at hX
                                              have r272 : f272 246 = (f3 246) + 1 := by rw [e272]; exact zApp_eq _ _ _
                                              have q272 : ∀ x9, x9 ≠ 246 → f272 x9 = f3 x9 := fun x9 h => by rw [e272]; exact zApp_ne h
                                              have l272 : f272 246 = vn2 + j + 1 := by omega
                                              refine lv_aload_n hx hb dX10_reads_273 rfl (lv_at hl 0 rfl) ?_
                                              refine va_get (D := g.1) (ci := 5) (v := .ref sa) (C := RX10) (T := TX10) (N := 6) hx hb hts mX10_reads_0 hown hK (hX.gy) 0 rfl rfl 0 (by decide) (hts _ mX10_reads_1) (fun _ h9 => h9) rfl dX10_reads_274 ?_
                                              refine lv_iload_n hx hb dX10_reads_277 rfl (lv_at hl 1 rfl) ?_
                                              refine lv_aload_n hx hb dX10_reads_278 rfl (lv_at hl 0 rfl) ?_
                                              refine va_get (D := g.1) (ci := 5) (v := .ref sa) (C := RX10) (T := TX10) (N := 6) hx hb hts mX10_reads_0 hown hK (hX.gy) 0 rfl rfl 0 (by decide) (hts _ mX10_reads_1) (fun _ h9 => h9) rfl dX10_reads_279 ?_
                                              refine lv_iload_n hx hb dX10_reads_282 rfl (lv_at hl 1 rfl) ?_
                                              refine zy_ild hx hb hK hX (by omega) dX10_reads_283 ?_
                                              refine zv_iadd hx hb dX10_reads_284 ?_
                                              refine lv_aload_n hx hb dX10_reads_285 rfl (lv_at hl 0 rfl) ?_
                                              refine va_get (D := g.1) (ci := 5) (v := .ref sa) (C := RX10) (T := TX10) (N := 6) hx hb hts mX10_reads_0 hown hK (hX.gy) 0 rfl rfl 0 (by decide) (hts _ mX10_reads_1) (fun _ h9 => h9) rfl dX10_reads_286 ?_
                                              refine lv_iload_n hx hb dX10_reads_289 rfl (lv_at hl 1 rfl) ?_
                                              refine lv_aload_n hx hb dX10_reads_290 rfl (lv_at hl 0 rfl) ?_
                                              refine va_get (D := g.1) (ci := 5) (v := .ref sa) (C := RX10) (T := TX10) (N := 6) hx hb hts mX10_reads_0 hown hK (hX.gy) 0 rfl rfl 0 (by decide) (hts _ mX10_reads_1) (fun _ h9 => h9) rfl dX10_reads_291 ?_
                                              refine lv_iload_n hx hb dX10_reads_294 rfl (lv_at hl 1 rfl) ?_
                                              refine zy_ild hx hb hK hX (by omega) dX10_reads_295 ?_
                                              refine zv_iadd hx hb dX10_reads_296 ?_
                                              refine lv_iload hx hb dX10_reads_297 (lv_at hl 6 rfl) ?_
                                              refine zv_isub hx hb dX10_reads_299 ?_
                                              refine zy_ild hx hb hK hX (by omega) dX10_reads_300 ?_
                                              refine zy_ist hx hb hK hX hS (by omega) (hX.gf (by omega)) dX10_reads_301 (fun H1 locs hX hS => ?_)
                                              obtain ⟨f301, e301⟩ : ∃ z9, z9 = zApp f272 (246 + (f272 246)) (f272 ((246 + (f272 246)) - (vn2 - vn1))) := ⟨_, rfl⟩
                                              rw [← e301] at hX
                                              have r301 : f301 (246 + (f272 246)) = f272 ((246 + (f272 246)) - (vn2 - vn1)) := by rw [e301]; exact zApp_eq _ _ _
                                              have q301 : ∀ x9, x9 ≠ 246 + (f272 246) → f301 x9 = f272 x9 := fun x9 h => by rw [e301]; exact zApp_ne h
                                              refine zv_iinc (lv' := [(8, .int (zI (j + 1))), (0, .ref y), (1, .int (zI 246)), (2, .int (zI (q + 1))), (3, .int (zI vn1)), (4, .int (zI 1)), (5, .int (zI (i + 1))), (6, .int (zI (vn2 - vn1))), (7, .int (zI x))]) hx hb dX10_reads_302 hl (k := 8) rfl (by decide) rfl (fun ls hl => ?_)
                                              refine lv_goto (tgt := 251) hx hb dX10_reads_305 (by decide) ?_
                                              exact ih251 (j + 1) f301 _ _ (by omega) (((b1.app (x := zRep v2 vn2 vn1 (vn2 + j)) (f2 := f301) (by omega) (zRep_bd ⟨by omega, by omega⟩ (fun k a b => (a2.2.2 k a b).2) _ (by omega)) (by rw [q301 246 (by omega), r272, l3]) (by rw [show (246 : Int) + 1 + (vn2 + j) = 246 + f272 246 by omega, r301, q272 _ (by omega), show 246 + f272 246 - (vn2 - vn1) = 246 + 1 + (vn2 + j - (vn2 - vn1)) by omega, (b1.2.2 (vn2 + j - (vn2 - vn1)) (by omega) (by omega)).1]; exact zRep_per ⟨by omega, by omega⟩ (by omega)) (fun k a b => by rw [q301 k (by omega), q272 k (by omega)])).word (n2 := vn2 + (j + 1)) (by omega) (fun k a b => zApp_self))) (fun k a b => by rw [q301 k (by omega), q272 k (by omega)]; exact blo k a b) (hX) (hS) (by omega) _ (lv_sub hl [1, 2, 3, 4, 5, 6, 7, 8, 0] rfl)
                                        exact lp251 _ 0 f2 _ _ (by omega) (a2.word (by omega) (fun k a b => zRep_lo (by omega))) (alo) (hX) (hS) (Nat.lt_succ_self _) _ (lv_sub hl [4, 5, 3, 6, 7, 8, 2, 1, 0] rfl)
                                      · refine lv_iload_n hx hb dX10_reads_246 rfl (lv_at hl 2 rfl) ?_
                                        exact zw_i hx hb hr hlocks hS dX10_reads_247 (⟨_, rfl, (zFl_here s7 (by omega) (fun z => ⟨fun v => by omega, fun v => Or.inr (by rw [← hgq, show gt (q + 1) - 48 = x from ex.symm, zSub1_mul, ← em]; omega), fun v => by omega, fun v => by omega⟩) (fun v => by omega)).symm, by omega, by omega, _, _, _, hX, hm.scr hR.1 alo, hgt, fun z => absurd z (by omega)⟩)
                              · refine lv_iload_n hx hb dX10_reads_174 rfl (lv_at hl 2 rfl) ?_
                                exact zw_i hx hb hr hlocks hS dX10_reads_175 (⟨_, rfl, (zFl_here a1 (by omega) (fun z => ⟨hex z, fun _ => Or.inl rfl, fun _ => rfl, fun v => by have := hgt q (by omega) (by omega); omega⟩) (fun _ => Or.inl rfl)).symm, by omega, by omega, _, _, _, hX, hm.scr hR.1 alo, hgt, fun z => absurd z (by omega)⟩)
                        · refine lv_iload_n hx hb dX10_reads_148 rfl (lv_at hl 2 rfl) ?_
                          exact zw_i hx hb hr hlocks hS dX10_reads_149 (⟨_, rfl, (zFl_here a1 (by omega) (fun z => ⟨hex z, fun _ => Or.inl rfl, fun _ => rfl, fun _ => Or.inr (by omega)⟩) (fun _ => Or.inl rfl)).symm, by omega, by omega, _, _, _, hX, hm.scr hR.1 alo, hgt, fun z => absurd z (by omega)⟩)
                      · refine lv_iload hx hb dX10_reads_93 (lv_at hl 4 rfl) ?_
                        refine zv_if_ne (tgt := 104) hx hb dX10_reads_95 (by decide) (by omega) (fun c95 => ?_) (fun c95 => ?_)
                        · have hgq := hgt q (by omega) (by omega)
                          refine lv_aload_n hx hb dX10_reads_104 rfl (lv_at hl 0 rfl) ?_
                          refine va_get (D := g.1) (ci := 5) (v := .ref sa) (C := RX10) (T := TX10) (N := 6) hx hb hts mX10_reads_0 hown hK (hX.gy) 0 rfl rfl 0 (by decide) (hts _ mX10_reads_1) (fun _ h9 => h9) rfl dX10_reads_105 ?_
                          refine lv_iload_n hx hb dX10_reads_108 rfl (lv_at hl 1 rfl) ?_
                          refine lv_dup2_11 hx hb dX10_reads_109 rfl rfl ?_
                          refine zy_ild hx hb hK hX (by omega) dX10_reads_110 ?_
                          refine zv_iconst hx hb dX10_reads_111 ?_
                          refine zv_iadd hx hb dX10_reads_112 ?_
                          refine zy_ist hx hb hK hX hS (by omega) (by omega) dX10_reads_113 (fun H1 locs hX hS => ?_)
                          obtain ⟨f113, e113⟩ : ∃ z9, z9 = zApp f2 246 ((f2 246) + 1) := ⟨_, rfl⟩
                          rw [← e113] at hX
                          have r113 : f113 246 = (f2 246) + 1 := by rw [e113]; exact zApp_eq _ _ _
                          have q113 : ∀ x9, x9 ≠ 246 → f113 x9 = f2 x9 := fun x9 h => by rw [e113]; exact zApp_ne h
                          have l113 : f113 246 = vn2 + 1 := by omega
                          refine lv_aload_n hx hb dX10_reads_114 rfl (lv_at hl 0 rfl) ?_
                          refine va_get (D := g.1) (ci := 5) (v := .ref sa) (C := RX10) (T := TX10) (N := 6) hx hb hts mX10_reads_0 hown hK (hX.gy) 0 rfl rfl 0 (by decide) (hts _ mX10_reads_1) (fun _ h9 => h9) rfl dX10_reads_115 ?_
                          refine lv_iload_n hx hb dX10_reads_118 rfl (lv_at hl 1 rfl) ?_
                          refine lv_aload_n hx hb dX10_reads_119 rfl (lv_at hl 0 rfl) ?_
                          refine va_get (D := g.1) (ci := 5) (v := .ref sa) (C := RX10) (T := TX10) (N := 6) hx hb hts mX10_reads_0 hown hK (hX.gy) 0 rfl rfl 0 (by decide) (hts _ mX10_reads_1) (fun _ h9 => h9) rfl dX10_reads_120 ?_
                          refine lv_iload_n hx hb dX10_reads_123 rfl (lv_at hl 1 rfl) ?_
                          refine zy_ild hx hb hK hX (by omega) dX10_reads_124 ?_
                          refine zv_iadd hx hb dX10_reads_125 ?_
                          refine lv_aload_n hx hb dX10_reads_126 rfl (lv_at hl 0 rfl) ?_
                          refine va_get (D := g.1) (ci := 5) (v := .ref ta) (C := RX10) (T := TX10) (N := 6) hx hb hts mX10_reads_0 hown hK (hX.gy) 0 rfl rfl 3 (by decide) (hts _ mX10_reads_3) (fun _ h9 => h9) rfl dX10_reads_127 ?_
                          refine lv_iload_n hx hb dX10_reads_130 rfl (lv_at hl 2 rfl) ?_
                          refine zy_tld hx hb hK hX (by omega) dX10_reads_131 ?_
                          refine zv_bipush hx hb dX10_reads_132 (by decide +kernel) ?_
                          refine zv_isub hx hb dX10_reads_134 ?_
                          refine zy_ist hx hb hK hX hS (by omega) (by omega) dX10_reads_135 (fun H1 locs hX hS => ?_)
                          obtain ⟨f135, e135⟩ : ∃ z9, z9 = zApp f113 (246 + (f113 246)) ((gt q) - 97) := ⟨_, rfl⟩
                          rw [← e135] at hX
                          have r135 : f135 (246 + (f113 246)) = (gt q) - 97 := by rw [e135]; exact zApp_eq _ _ _
                          have q135 : ∀ x9, x9 ≠ 246 + (f113 246) → f135 x9 = f113 x9 := fun x9 h => by rw [e135]; exact zApp_ne h
                          refine zv_iinc (lv' := [(2, .int (zI (q + 1))), (0, .ref y), (1, .int (zI 246)), (3, .int (zI vn1)), (4, .int (zI 1)), (5, .int (zI (i + 1)))]) hx hb dX10_reads_136 hl (k := 2) rfl (by decide) rfl (fun ls hl => ?_)
                          refine lv_goto (tgt := 74) hx hb dX10_reads_139 (by decide) ?_
                          exact ih74 (q + 1) f135 (zApp v2 vn2 (gt q - 97)) (vn2 + 1) _ _ (by omega) (by rw [zSt_next (by omega) a1, ← hgq]; exact zTk_let1 (by omega) (by omega)) (((a2.app (x := gt q - 97) (f2 := f135) (by omega) (by omega) (by rw [q135 246 (by omega), r113, l2]) (by rw [show (246 : Int) + 1 + vn2 = 246 + f113 246 by omega]; exact r135) (fun k a b => by rw [q135 k (by omega), q113 k (by omega)])))) (fun k a b => by rw [q135 k (by omega), q113 k (by omega)]; exact alo k a b) (hX) (hS) (by omega) _ (lv_sub hl [1, 2, 0, 3, 4, 5] rfl)
                        · exfalso; omega
                exact lp74 _ (i + 1) f1 v1 vn1 _ _ (by omega) (by rw [zSt_next h0.1 h1]; exact zTk_open (by rw [← hgt i h0.1 (by omega)]; omega)) (h2) (hlo) (hX) (hS) (Nat.lt_succ_self _) _ (lv_sub hl [4, 5, 1, 3, 2, 0] rfl)
  exact lp13 _ 0 f10 (fun _ => 0) 0 0 0 _ _ (by omega) (rfl) (⟨by omega, by omega, fun k a b => absurd b (by omega)⟩) (fun z => absurd rfl z) (fun k a b => q10 k (by omega)) (hX) (hS) (Nat.lt_succ_self _) _ (lv_sub hl [2, 1, 0] rfl)

theorem mX10_load_0 : ∀ w ∈ wsX100, w ∈ wsX10_load := by decide +kernel
theorem mX10_load_1 : (Cond.fieldLink RX10 7 "BorderRunsModel" "s" "[I") ∈ wsX10_load := by decide +kernel
set_option maxHeartbeats 4000000 in
set_option maxRecDepth 100000 in
/-- X10_load -/
theorem kX10_load (l : Launch) (g : zG) (y sa ta oa : Nat) (w : Int → Int) (n : Int) (ee : Nat → Int → Int) (en : Nat → Int) (hc : Int) (u : Int → Int) (un hs : Int) (tc : Int → Int) (tn : Int)  : Met l yX10_load wsX10_load (zRm 3 71) (zP g [.ref y] (AM g y sa ta oa w n ee en hc u un hs tc tn)) (zQi (fun r H => r = zI (sLoad w n ee en hc u un hs tc tn ).1 ∧ AMt g y sa ta oa (sLoad w n ee en hc u un hs tc tn ).2 H) (zA4 y sa ta oa)) 0 0 (zA4 y sa ta oa) := by
  refine Met.ofZ (cc := cX10_load) (maxL := 2) (ret := (some .int)) (by decide) rfl (Nat.le_of_ble_eq_true rfl) ?_
  intro p e s m args below meth c ls hx hb hr hlocks S hin hK hpic hl
  have hown := S.2.2.2.1
  have hts := S.2.2.2.2
  have hl : lv_has ls 2 [(0, .ref y)] := hl
  obtain ⟨f, gt, od, hX, hm, hgt⟩ := hpic
  have hR := hX.rg
  have hsl := hm.1
  have hs0 := hsl.1
  have hn := hsl.2.1
  have hS : va_S (zA4 y sa ta oa) s.heap s.heap [] := va_S.rf
  refine lv_aload_n hx hb dX10_load_0 rfl (lv_at hl 0 rfl) ?_
  refine zc_VWi (As := []) (rest := []) S hK (kX10_reads l g y sa ta oa w n ee en hc u un hs tc tn) (cwV 0 hts gX10_load_X10_reads rfl rfl rfl (by decide +kernel) ⟨Nat.le_of_ble_eq_true rfl, Nat.le_of_ble_eq_true rfl⟩) (⟨_, _, _, hX, hm, hgt⟩) (hX.recv hK) rfl hl.1 rfl (Nat.le_of_ble_eq_true rfl) dX10_load_1 ⟨Nat.zero_le _, Nat.zero_le _⟩ hS (fun _ h9 => h9) (fun r1 H1 locs hp hz hk hS => ?_)
  obtain ⟨z1, rfl, hz1, hy1, hw1, f1, gt1, od1, hX, hm, hgt, hld⟩ := hp
  have hR := hX.rg
  have hsl := hm.1
  have hs0 := hsl.1
  refine lv_istore_n (lv' := [(1, .int (zI z1)), (0, .ref y)]) hx hb dX10_load_4 rfl hl (by decide) rfl (fun ls hl => ?_)
  refine lv_iload_n hx hb dX10_load_5 rfl (lv_at hl 0 rfl) ?_
  refine zv_if_lt (tgt := 14) hx hb dX10_load_6 (by decide) (by omega) (fun c6 => ?_) (fun c6 => ?_)
  · refine lv_aload_n hx hb dX10_load_14 rfl (lv_at hl 1 rfl) ?_
    refine zc_VWv (As := []) (rest := []) S hK (kX10_records l g y sa ta oa f1 gt1 od1 hc hs tn) (cwV 0 hts gX10_load_X10_records rfl rfl rfl (by decide +kernel) ⟨Nat.le_of_ble_eq_true rfl, Nat.le_of_ble_eq_true rfl⟩) (hX) (hX.recv hK) rfl hl.1 rfl (Nat.le_of_ble_eq_true rfl) dX10_load_15 ⟨Nat.zero_le _, Nat.zero_le _⟩ hS (fun _ h9 => h9) (fun H1 locs hp hz hk hS => ?_)
    obtain ⟨f15, sv15, es15, hX, ha15, hb15, hc15, hd15⟩ := hp
    have hm := hm.push hR.1 es15 ha15 hb15 hc15 hd15
    subst es15
    have hR := hX.rg
    have hsl := hm.1
    have hs0 := hsl.1
    refine lv_aload_n hx hb dX10_load_18 rfl (lv_at hl 1 rfl) ?_
    refine zv_bipush hx hb dX10_load_19 (by decide +kernel) ?_
    refine zv_iconst hx hb dX10_load_21 ?_
    refine zc_VWv (As := [.int (zI 6), .int (zI 0)]) (rest := []) S hK (kX10_copies l g y sa ta oa f15 gt1 od1 (min (hc + 1) 4) hs tn 6 0 (by omega)) (cwV 2 hts gX10_load_X10_copies rfl rfl rfl (by decide +kernel) ⟨Nat.le_of_ble_eq_true rfl, Nat.le_of_ble_eq_true rfl⟩) (hX) (hX.recv hK) rfl hl.1 rfl (Nat.le_of_ble_eq_true rfl) dX10_load_22 ⟨Nat.zero_le _, Nat.zero_le _⟩ hS (fun _ h9 => h9) (fun H1 locs hp hz hk hS => ?_)
    have hX := hp
    obtain ⟨f22, e22⟩ : ∃ z9, z9 = zCp f15 6 0 41 := ⟨_, rfl⟩
    rw [← e22] at hX
    have k22 : ∀ x9, 0 ≤ x9 → x9 < 41 → f22 (41 * 0 + x9) = f15 (41 * 6 + x9) := fun x9 a9 b9 => by rw [e22, zCp_in (by omega)]; congr 1; omega
    have o22 : ∀ x9, x9 < 41 * 0 ∨ 41 * 0 + 41 ≤ x9 → f22 x9 = f15 x9 := fun x9 h => by rw [e22, zCp_out (by omega)]
    have sl6 := hld (by omega)
    have sl2 : SL f22 0 (zLdS tc tn).1 (zLdS tc tn).2.1 := (sl6.mv (b2 := 246) (f2 := f15) (fun k a b => hb15 _ (by omega) (by omega))).mv (fun k a b => by rw [show (0 : Int) + k = 41 * 0 + k by omega, show (246 : Int) + k = 41 * 6 + k by omega]; exact k22 k a b)
    have l22 := sl2.1
    have hm := hm.set0 (f2 := f22) hR.1 (fun k a b => o22 k (by omega)) sl2
    refine lv_aload_n hx hb dX10_load_25 rfl (lv_at hl 1 rfl) ?_
    refine va_get (D := g.1) (ci := 5) (v := .ref sa) (C := RX10) (T := TX10) (N := 6) hx hb hts mX10_load_0 hown hK (hX.gy) 0 rfl rfl 0 (by decide) (hts _ mX10_load_1) (fun _ h9 => h9) rfl dX10_load_26 ?_
    refine zv_iconst hx hb dX10_load_29 ?_
    refine zy_ild hx hb hK hX (by omega) dX10_load_30 ?_
    exact zw_i hx hb hr hlocks hS dX10_load_31 (by rw [show sLoad w n ee en hc u un hs tc tn  = _ from zIf_t (by omega)]; exact ⟨congrArg zI l22, ⟨_, _, _, hX, hm, hgt⟩⟩)
  · refine zv_bipush hx hb dX10_load_9 (by decide +kernel) ?_
    refine lv_iload_n hx hb dX10_load_11 rfl (lv_at hl 0 rfl) ?_
    refine zv_isub hx hb dX10_load_12 ?_
    exact zw_i hx hb hr hlocks hS dX10_load_13 (by rw [show sLoad w n ee en hc u un hs tc tn  = _ from zIf_f (by omega)]; exact ⟨by rw [hz1], ⟨_, _, _, hX, hm, hgt⟩⟩)

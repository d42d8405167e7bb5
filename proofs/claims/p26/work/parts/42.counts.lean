theorem mX8_unlikeLetters_0 : ∀ w ∈ wsX80, w ∈ wsX8_unlikeLetters := by decide +kernel
theorem mX8_unlikeLetters_1 : (Cond.fieldLink RX8 15 "BorderRuns$Word" "length" "I") ∈ wsX8_unlikeLetters := by decide +kernel
set_option maxHeartbeats 4000000 in
set_option maxRecDepth 100000 in
/-- Word.unlikeLetters -/
theorem kX8_unlikeLetters (l : Launch) (g : zG) (h a : Nat) (w : Int → Int) (n : Int) : Met l yX8_unlikeLetters wsX8_unlikeLetters (zRm 1 21) (zP g [.ref h] (PW g h a w n)) (vp_Si (fun r => ∃ z : Int, r = zI z ∧ z = zLet w n ∧ 0 ≤ z ∧ z ≤ 26)) 0 0 (fun _ => False) := by
  refine Met.ofZ (cc := cX8_unlikeLetters) (maxL := 3) (ret := (some .int)) (by decide) rfl (Nat.le_of_ble_eq_true rfl) ?_
  intro p e s m args below meth c ls hx hb hr hlocks S hin hK hpic hl
  have hown := S.2.2.2.1
  have hts := S.2.2.2.2
  have hl : lv_has ls 3 [(0, .ref h)] := hl
  obtain ⟨hn, hw, f, hP, hf, hha⟩ := id hpic
  refine zv_iconst hx hb dX8_unlikeLetters_0 ?_
  refine lv_istore_n (lv' := [(1, .int (zI 0)), (0, .ref h)]) hx hb dX8_unlikeLetters_1 rfl hl (by decide) rfl (fun ls hl => ?_)
  refine zv_iconst hx hb dX8_unlikeLetters_2 ?_
  refine lv_istore_n (lv' := [(2, .int (zI 0)), (1, .int (zI 0)), (0, .ref h)]) hx hb dX8_unlikeLetters_3 rfl hl (by decide) rfl (fun ls hl => ?_)
  have lp4 : ∀ (z_f : Nat) (X : Int32) (k : Int), (0 ≤ k ∧ k ≤ n) → (zBi X (zLtP w k)) → ((n - k).toNat) < z_f → ∀ (ls : Array Slot), lv_has ls 3 [(0, .ref h), (1, .int X), (2, .int (zI k))] → W p l e (zRm 1 21) s m args below meth c s.heap [] 0 0 (MQ below (vp_Si (fun r => ∃ z : Int, r = zI z ∧ z = zLet w n ∧ 0 ≤ z ∧ z ≤ 26)) args s 0 0 (fun _ => False)) (F0 m 4 ls []) := by
    intro z_f
    induction z_f with
    | zero => intro X k h0 h1 z_m; exact absurd z_m (Nat.not_lt_zero _)
    | succ z_f ih4 =>
      intro X k h0 h1 z_m4 ls hl
      refine lv_iload_n hx hb dX8_unlikeLetters_4 rfl (lv_at hl 2 rfl) ?_
      refine lv_aload_n hx hb dX8_unlikeLetters_5 rfl (lv_at hl 0 rfl) ?_
      refine va_get (D := g.1) (ci := 3) (v := .int (zI n)) (C := RX8) (T := TX8) (N := 2) hx hb hts mX8_unlikeLetters_0 hown hK hP 0 rfl rfl 1 (by decide) (hts _ mX8_unlikeLetters_1) (fun _ h9 => h9) rfl dX8_unlikeLetters_6 ?_
      refine zv_icmp_ge (tgt := 28) hx hb dX8_unlikeLetters_9 (by decide) (by omega) (by omega) (fun c9 => ?_) (fun c9 => ?_)
      · have e8 : zBi X (zLtP w n) := by rw [show n = k by omega]; exact h1
        refine lv_iload_n hx hb dX8_unlikeLetters_28 rfl (lv_at hl 1 rfl) ?_
        refine zc_S (As := [.int X]) (rest := []) S hK (kJ6_bitCount_0f7a4 l g X (zLtP w n) e8) (va_cwS 1 hts gX8_unlikeLetters_J6_bitCount_0f7a4 rfl rfl rfl (by decide +kernel) ⟨Nat.le_of_ble_eq_true rfl, Nat.le_of_ble_eq_true rfl⟩) (trivial) rfl hl.1 rfl (Nat.le_of_ble_eq_true rfl) dX8_unlikeLetters_29 ⟨Nat.zero_le _, Nat.zero_le _⟩ (fun r29 hr29 => ?_)
        obtain rfl := hr29
        exact zr_i hx hb hr hlocks dX8_unlikeLetters_32 (⟨_, rfl, zLet_hi (by omega) hw, by have := zLet_bd w n; have := zLet_hi (b := 32) (by omega) hw; omega, by have := zLet_bd w n; have := zLet_hi (b := 32) (by omega) hw; omega⟩)
      · refine lv_iload_n hx hb dX8_unlikeLetters_12 rfl (lv_at hl 1 rfl) ?_
        refine zv_iconst hx hb dX8_unlikeLetters_13 ?_
        refine lv_aload_n hx hb dX8_unlikeLetters_14 rfl (lv_at hl 0 rfl) ?_
        refine lv_iload_n hx hb dX8_unlikeLetters_15 rfl (lv_at hl 2 rfl) ?_
        refine zc_V (As := [.int (zI k)]) (rest := [.int (zI 1), .int X]) S hK (kX8_letterAt l g h a w n k (by omega)) (cwV 1 hts gX8_unlikeLetters_X8_letterAt rfl rfl rfl (by decide +kernel) ⟨Nat.le_of_ble_eq_true rfl, Nat.le_of_ble_eq_true rfl⟩) (hpic) (hpic.recv hK) rfl hl.1 rfl (Nat.le_of_ble_eq_true rfl) dX8_unlikeLetters_16 ⟨Nat.zero_le _, Nat.zero_le _⟩ (fun r16 hr16 => ?_)
        obtain ⟨z16, rfl, hz16⟩ := hr16
        have e16 := hz16.1 (by omega) (by omega)
        have b16 := hw k (by omega) (by omega)
        refine lv_ishl hx hb dX8_unlikeLetters_19 ?_
        refine lv_ior hx hb dX8_unlikeLetters_20 ?_
        refine lv_istore_n (lv' := [(1, .int (X ||| ((zI 1) <<< (zI z16 &&& 31)))), (0, .ref h), (2, .int (zI k))]) hx hb dX8_unlikeLetters_21 rfl hl (by decide) rfl (fun ls hl => ?_)
        refine zv_iinc (lv' := [(2, .int (zI (k + 1))), (1, .int (X ||| ((zI 1) <<< (zI z16 &&& 31)))), (0, .ref h)]) hx hb dX8_unlikeLetters_22 hl (k := 2) rfl (by decide) rfl (fun ls hl => ?_)
        refine lv_goto (tgt := 4) hx hb dX8_unlikeLetters_25 (by decide) ?_
        exact ih4 (X ||| ((zI 1) <<< (zI z16 &&& 31))) (k + 1) (by omega) (zBi_congr (zBi_or h1 (zBi_one (by omega))) (fun z a1 a2 => ⟨fun v => v.elim (fun ⟨q, q1, q2, q3⟩ => ⟨q, q1, by omega, q3⟩) (fun v => ⟨k, by omega, by omega, by omega⟩), fun ⟨q, q1, q2, q3⟩ => (show q < k ∨ q = k by omega).elim (fun v => Or.inl ⟨q, q1, v, q3⟩) (fun v => Or.inr (by rw [← q3, v]; omega))⟩)) (by omega) _ (lv_sub hl [2, 1, 0] rfl)
  exact lp4 _ (zI 0) 0 (by omega) (zBi_congr zBi_0 (fun z a1 a2 => ⟨fun v => v.elim, fun ⟨q, q1, q2, _⟩ => absurd q2 (by omega)⟩)) (Nat.lt_succ_self _) _ (lv_sub hl [2, 1, 0] rfl)

set_option maxHeartbeats 4000000 in
set_option maxRecDepth 100000 in
/-- Ends.classesEndingFirstAt -/
theorem kX0_classesEndingFirstAt (l : Launch) (g : zG) (h a : Nat) (w : Int → Int) (n : Int) (t : Int) (ht : 1 ≤ t ∧ t ≤ n) : Met l yX0_classesEndingFirstAt wsX0_classesEndingFirstAt (zRm 3 68) (zP g [.ref h, .int (zI t)] (PW g h a w n)) (vp_Si (fun r => ∃ z : Int, r = zI z ∧ z = zCE w n t ∧ 0 ≤ z ∧ z ≤ t)) 0 0 (fun _ => False) := by
  refine Met.ofZ (cc := cX0_classesEndingFirstAt) (maxL := 7) (ret := (some .int)) (by decide) rfl (Nat.le_of_ble_eq_true rfl) ?_
  intro p e s m args below meth c ls hx hb hr hlocks S hin hK hpic hl
  have hown := S.2.2.2.1
  have hts := S.2.2.2.2
  have hl : lv_has ls 7 [(0, .ref h), (1, .int (zI t))] := hl
  have hn := hpic.1
  refine lv_aload_n hx hb dX0_classesEndingFirstAt_0 rfl (lv_at hl 0 rfl) ?_
  refine lv_iload_n hx hb dX0_classesEndingFirstAt_1 rfl (lv_at hl 1 rfl) ?_
  refine zc_S (As := [.ref h, .int (zI t)]) (rest := []) S hK (kX0_longestKnown l g h a w n t (by omega)) (va_cwS 2 hts gX0_classesEndingFirstAt_X0_longestKnown rfl rfl rfl (by decide +kernel) ⟨Nat.le_of_ble_eq_true rfl, Nat.le_of_ble_eq_true rfl⟩) (hpic) rfl hl.1 rfl (Nat.le_of_ble_eq_true rfl) dX0_classesEndingFirstAt_2 ⟨Nat.zero_le _, Nat.zero_le _⟩ (fun r2 hr2 => ?_)
  obtain ⟨z2, rfl, hz2⟩ := hr2
  refine lv_istore_n (lv' := [(2, .int (zI z2)), (0, .ref h), (1, .int (zI t))]) hx hb dX0_classesEndingFirstAt_5 rfl hl (by decide) rfl (fun ls hl => ?_)
  refine lv_lconst (v := 1) hx hb dX0_classesEndingFirstAt_6 (by decide) ?_
  refine lv_iload_n hx hb dX0_classesEndingFirstAt_7 rfl (lv_at hl 2 rfl) ?_
  refine lv_lshl (v := (1 : Int64) <<< ((zI t).toInt64 &&& 63)) hx hb dX0_classesEndingFirstAt_8 rfl ?_
  refine lv_lstore_n (lv' := [(3, .long ((1 : Int64) <<< ((zI t).toInt64 &&& 63))), (2, .int (zI z2)), (0, .ref h), (1, .int (zI t))]) hx hb dX0_classesEndingFirstAt_9 rfl hl (by decide) rfl (fun ls hl => ?_)
  refine lv_iload_n hx hb dX0_classesEndingFirstAt_10 rfl (lv_at hl 3 rfl) ?_
  refine zv_iconst hx hb dX0_classesEndingFirstAt_11 ?_
  refine zv_iadd hx hb dX0_classesEndingFirstAt_12 ?_
  refine lv_istore (lv' := [(5, .int (zI (t + 1))), (3, .long ((1 : Int64) <<< ((zI t).toInt64 &&& 63))), (2, .int (zI z2)), (0, .ref h), (1, .int (zI t))]) hx hb dX0_classesEndingFirstAt_13 hl (by decide) rfl (fun ls hl => ?_)
  have lp15 : ∀ (z_f : Nat) (X : Int64) (q : Int), (t + 1 ≤ q ∧ q ≤ n + 1) → (zBt X (fun k => k = t ∨ (zKn w t < k ∧ ∃ x9, t < x9 ∧ x9 < q ∧ zAA w t x9 = k))) → ((n + 1 - q).toNat) < z_f → ∀ (ls : Array Slot), lv_has ls 7 [(0, .ref h), (1, .int (zI t)), (2, .int (zI z2)), (3, .long X), (5, .int (zI q))] → W p l e (zRm 3 68) s m args below meth c s.heap [] 0 0 (MQ below (vp_Si (fun r => ∃ z : Int, r = zI z ∧ z = zCE w n t ∧ 0 ≤ z ∧ z ≤ t)) args s 0 0 (fun _ => False)) (F0 m 15 ls []) := by
    intro z_f
    induction z_f with
    | zero => intro X q h0 h1 z_m; exact absurd z_m (Nat.not_lt_zero _)
    | succ z_f ih15 =>
      intro X q h0 h1 z_m15 ls hl
      refine lv_iload hx hb dX0_classesEndingFirstAt_15 (lv_at hl 4 rfl) ?_
      refine lv_aload_n hx hb dX0_classesEndingFirstAt_17 rfl (lv_at hl 0 rfl) ?_
      refine zc_V (As := []) (rest := [.int (zI q)]) S hK (kX8_length l g h a w n) (cwV 0 hts gX0_classesEndingFirstAt_X8_length rfl rfl rfl (by decide +kernel) ⟨Nat.le_of_ble_eq_true rfl, Nat.le_of_ble_eq_true rfl⟩) (hpic) (hpic.recv hK) rfl hl.1 rfl (Nat.le_of_ble_eq_true rfl) dX0_classesEndingFirstAt_18 ⟨Nat.zero_le _, Nat.zero_le _⟩ (fun r18 hr18 => ?_)
      obtain rfl := hr18
      refine zv_icmp_gt (tgt := 52) hx hb dX0_classesEndingFirstAt_21 (by decide) (by omega) (by omega) (fun c21 => ?_) (fun c21 => ?_)
      · have e8 : zBt X (fun k => k = t ∨ (zKn w t < k ∧ ∃ x9, t < x9 ∧ x9 < n + 1 ∧ zAA w t x9 = k)) := by rw [show n + 1 = q by omega]; exact h1
        refine lv_lload_n hx hb dX0_classesEndingFirstAt_52 rfl (lv_at hl 3 rfl) ?_
        refine zc_S (As := [.long X]) (rest := []) S hK (kJ13_bitCount_95d88 l g X (fun k => k = t ∨ (zKn w t < k ∧ ∃ x9, t < x9 ∧ x9 < n + 1 ∧ zAA w t x9 = k)) e8) (va_cwS 1 hts gX0_classesEndingFirstAt_J13_bitCount_95d88 rfl rfl rfl (by decide +kernel) ⟨Nat.le_of_ble_eq_true rfl, Nat.le_of_ble_eq_true rfl⟩) (trivial) rfl hl.1 rfl (Nat.le_of_ble_eq_true rfl) dX0_classesEndingFirstAt_53 ⟨Nat.zero_le _, Nat.zero_le _⟩ (fun r53 hr53 => ?_)
        obtain rfl := hr53
        exact zr_i hx hb hr hlocks dX0_classesEndingFirstAt_56 (⟨_, rfl, zCE_bits ht hn.2, by have := zCE_bits (w := w) ht hn.2; have := zCE_bd w (n := n) ht.1; omega, by have := zCE_bits (w := w) ht hn.2; have := zCE_bd w (n := n) ht.1; omega⟩)
      · refine lv_aload_n hx hb dX0_classesEndingFirstAt_24 rfl (lv_at hl 0 rfl) ?_
        refine lv_iload_n hx hb dX0_classesEndingFirstAt_25 rfl (lv_at hl 1 rfl) ?_
        refine lv_iload hx hb dX0_classesEndingFirstAt_26 (lv_at hl 4 rfl) ?_
        refine zc_V (As := [.int (zI t), .int (zI q)]) (rest := []) S hK (kX8_alikeAhead l g h a w n t q (by omega) (by omega)) (cwV 2 hts gX0_classesEndingFirstAt_X8_alikeAhead rfl rfl rfl (by decide +kernel) ⟨Nat.le_of_ble_eq_true rfl, Nat.le_of_ble_eq_true rfl⟩) (hpic) (hpic.recv hK) rfl hl.1 rfl (Nat.le_of_ble_eq_true rfl) dX0_classesEndingFirstAt_28 ⟨Nat.zero_le _, Nat.zero_le _⟩ (fun r28 hr28 => ?_)
        obtain ⟨z28, rfl, hz28⟩ := hr28
        refine lv_istore (lv' := [(6, .int (zI z28)), (0, .ref h), (1, .int (zI t)), (2, .int (zI z2)), (3, .long X), (5, .int (zI q))]) hx hb dX0_classesEndingFirstAt_31 hl (by decide) rfl (fun ls hl => ?_)
        refine lv_iload hx hb dX0_classesEndingFirstAt_33 (lv_at hl 0 rfl) ?_
        refine lv_iload_n hx hb dX0_classesEndingFirstAt_35 rfl (lv_at hl 3 rfl) ?_
        refine zv_icmp_le (tgt := 46) hx hb dX0_classesEndingFirstAt_36 (by decide) (by omega) (by omega) (fun c36 => ?_) (fun c36 => ?_)
        · refine zv_iinc (lv' := [(5, .int (zI (q + 1))), (6, .int (zI z28)), (0, .ref h), (1, .int (zI t)), (2, .int (zI z2)), (3, .long X)]) hx hb dX0_classesEndingFirstAt_46 hl (k := 5) rfl (by decide) rfl (fun ls hl => ?_)
          refine lv_goto (tgt := 15) hx hb dX0_classesEndingFirstAt_49 (by decide) ?_
          exact ih15 X (q + 1) (by omega) (zBt_congr h1 (fun z a1 a2 => ⟨fun v => v.elim Or.inl (fun ⟨v0, x, x1, x2, x3⟩ => Or.inr ⟨v0, x, x1, by omega, x3⟩), fun v => v.elim Or.inl (fun ⟨v0, x, x1, x2, x3⟩ => (show x < q ∨ x = q by omega).elim (fun y => Or.inr ⟨v0, x, x1, y, x3⟩) (fun y => by rw [y] at x3; omega))⟩)) (by omega) _ (lv_sub hl [2, 3, 4, 5, 0] rfl)
        · refine lv_lload_n hx hb dX0_classesEndingFirstAt_39 rfl (lv_at hl 4 rfl) ?_
          refine lv_lconst (v := 1) hx hb dX0_classesEndingFirstAt_40 (by decide) ?_
          refine lv_iload hx hb dX0_classesEndingFirstAt_41 (lv_at hl 0 rfl) ?_
          refine lv_lshl (v := (1 : Int64) <<< ((zI z28).toInt64 &&& 63)) hx hb dX0_classesEndingFirstAt_43 rfl ?_
          refine lv_lor hx hb dX0_classesEndingFirstAt_44 ?_
          refine lv_lstore_n (lv' := [(3, .long (X ||| ((1 : Int64) <<< ((zI z28).toInt64 &&& 63)))), (6, .int (zI z28)), (0, .ref h), (1, .int (zI t)), (2, .int (zI z2)), (5, .int (zI q))]) hx hb dX0_classesEndingFirstAt_45 rfl hl (by decide) rfl (fun ls hl => ?_)
          refine zv_iinc (lv' := [(5, .int (zI (q + 1))), (3, .long (X ||| ((1 : Int64) <<< ((zI z28).toInt64 &&& 63)))), (6, .int (zI z28)), (0, .ref h), (1, .int (zI t)), (2, .int (zI z2))]) hx hb dX0_classesEndingFirstAt_46 hl (k := 5) rfl (by decide) rfl (fun ls hl => ?_)
          refine lv_goto (tgt := 15) hx hb dX0_classesEndingFirstAt_49 (by decide) ?_
          exact ih15 (X ||| ((1 : Int64) <<< ((zI z28).toInt64 &&& 63))) (q + 1) (by omega) (zBt_congr (zBt_or h1 (zBt_one (by omega))) (fun z a1 a2 => ⟨fun v => v.elim (fun v => v.elim Or.inl (fun ⟨v0, x, x1, x2, x3⟩ => Or.inr ⟨v0, x, x1, by omega, x3⟩)) (fun v => Or.inr ⟨by omega, q, by omega, by omega, by omega⟩), fun v => v.elim (fun v => Or.inl (Or.inl v)) (fun ⟨v0, x, x1, x2, x3⟩ => (show x < q ∨ x = q by omega).elim (fun y => Or.inl (Or.inr ⟨v0, x, x1, y, x3⟩)) (fun y => Or.inr (by rw [← x3, y]; omega)))⟩)) (by omega) _ (lv_sub hl [3, 4, 5, 1, 0] rfl)
  exact lp15 _ ((1 : Int64) <<< ((zI t).toInt64 &&& 63)) (t + 1) (by omega) (zBt_congr (zBt_one (by omega)) (fun z a1 a2 => ⟨fun v => Or.inl v, fun v => v.elim id (fun ⟨_, x, x1, x2, _⟩ => absurd x2 (by omega))⟩)) (Nat.lt_succ_self _) _ (lv_sub hl [3, 4, 2, 1, 0] rfl)

set_option maxHeartbeats 4000000 in
set_option maxRecDepth 100000 in
/-- Ends.classes -/
theorem kX0_classes (l : Launch) (g : zG) (h a : Nat) (w : Int → Int) (n : Int) : Met l yX0_classes wsX0_classes (zRm 4 94) (zP g [.ref h] (PW g h a w n)) (vp_Si (fun r => ∃ z : Int, r = zI z ∧ z = zCl w n ∧ 0 ≤ z ∧ z ≤ 1640)) 0 0 (fun _ => False) := by
  refine Met.ofZ (cc := cX0_classes) (maxL := 3) (ret := (some .int)) (by decide) rfl (Nat.le_of_ble_eq_true rfl) ?_
  intro p e s m args below meth c ls hx hb hr hlocks S hin hK hpic hl
  have hown := S.2.2.2.1
  have hts := S.2.2.2.2
  have hl : lv_has ls 3 [(0, .ref h)] := hl
  have hn := hpic.1
  refine zv_iconst hx hb dX0_classes_0 ?_
  refine lv_istore_n (lv' := [(1, .int (zI 0)), (0, .ref h)]) hx hb dX0_classes_1 rfl hl (by decide) rfl (fun ls hl => ?_)
  refine zv_iconst hx hb dX0_classes_2 ?_
  refine lv_istore_n (lv' := [(2, .int (zI 1)), (1, .int (zI 0)), (0, .ref h)]) hx hb dX0_classes_3 rfl hl (by decide) rfl (fun ls hl => ?_)
  have lp4 : ∀ (z_f : Nat) (o : Int) (q : Int), (1 ≤ q ∧ q ≤ n + 1 ∧ 0 ≤ o ∧ o ≤ 40 * (q - 1)) → (o = zS (zCE w n) 1 q) → ((n + 1 - q).toNat) < z_f → ∀ (ls : Array Slot), lv_has ls 3 [(0, .ref h), (1, .int (zI o)), (2, .int (zI q))] → W p l e (zRm 4 94) s m args below meth c s.heap [] 0 0 (MQ below (vp_Si (fun r => ∃ z : Int, r = zI z ∧ z = zCl w n ∧ 0 ≤ z ∧ z ≤ 1640)) args s 0 0 (fun _ => False)) (F0 m 4 ls []) := by
    intro z_f
    induction z_f with
    | zero => intro o q h0 h1 z_m; exact absurd z_m (Nat.not_lt_zero _)
    | succ z_f ih4 =>
      intro o q h0 h1 z_m4 ls hl
      refine lv_iload_n hx hb dX0_classes_4 rfl (lv_at hl 2 rfl) ?_
      refine lv_aload_n hx hb dX0_classes_5 rfl (lv_at hl 0 rfl) ?_
      refine zc_V (As := []) (rest := [.int (zI q)]) S hK (kX8_length l g h a w n) (cwV 0 hts gX0_classes_X8_length rfl rfl rfl (by decide +kernel) ⟨Nat.le_of_ble_eq_true rfl, Nat.le_of_ble_eq_true rfl⟩) (hpic) (hpic.recv hK) rfl hl.1 rfl (Nat.le_of_ble_eq_true rfl) dX0_classes_6 ⟨Nat.zero_le _, Nat.zero_le _⟩ (fun r6 hr6 => ?_)
      obtain rfl := hr6
      refine zv_icmp_gt (tgt := 26) hx hb dX0_classes_9 (by decide) (by omega) (by omega) (fun c9 => ?_) (fun c9 => ?_)
      · have e9 : o = zCl w n := by rw [h1, show q = n + 1 by omega]; rfl
        refine lv_iload_n hx hb dX0_classes_26 rfl (lv_at hl 1 rfl) ?_
        exact zr_i hx hb hr hlocks dX0_classes_27 (⟨_, rfl, e9, by omega, by omega⟩)
      · refine lv_iload_n hx hb dX0_classes_12 rfl (lv_at hl 1 rfl) ?_
        refine lv_aload_n hx hb dX0_classes_13 rfl (lv_at hl 0 rfl) ?_
        refine lv_iload_n hx hb dX0_classes_14 rfl (lv_at hl 2 rfl) ?_
        refine zc_S (As := [.ref h, .int (zI q)]) (rest := [.int (zI o)]) S hK (kX0_classesEndingFirstAt l g h a w n q (by omega)) (va_cwS 2 hts gX0_classes_X0_classesEndingFirstAt rfl rfl rfl (by decide +kernel) ⟨Nat.le_of_ble_eq_true rfl, Nat.le_of_ble_eq_true rfl⟩) (hpic) rfl hl.1 rfl (Nat.le_of_ble_eq_true rfl) dX0_classes_15 ⟨Nat.zero_le _, Nat.zero_le _⟩ (fun r15 hr15 => ?_)
        obtain ⟨z15, rfl, hz15⟩ := hr15
        refine zv_iadd hx hb dX0_classes_18 ?_
        refine lv_istore_n (lv' := [(1, .int (zI (o + z15))), (0, .ref h), (2, .int (zI q))]) hx hb dX0_classes_19 rfl hl (by decide) rfl (fun ls hl => ?_)
        refine zv_iinc (lv' := [(2, .int (zI (q + 1))), (1, .int (zI (o + z15))), (0, .ref h)]) hx hb dX0_classes_20 hl (k := 2) rfl (by decide) rfl (fun ls hl => ?_)
        refine lv_goto (tgt := 4) hx hb dX0_classes_23 (by decide) ?_
        exact ih4 (o + z15) (q + 1) (by omega) (by rw [zS_succ _ (by omega)]; omega) (by omega) _ (lv_sub hl [2, 1, 0] rfl)
  exact lp4 _ 0 1 (by omega) ((zS_nil _ (by omega)).symm) (Nat.lt_succ_self _) _ (lv_sub hl [2, 1, 0] rfl)

theorem mX9_count_0 : ∀ w ∈ wsX90, w ∈ wsX9_count := by decide +kernel
theorem mX9_count_1 : (Cond.fieldLink RX9 10 "BorderRuns" "word" "LBorderRuns$Word;") ∈ wsX9_count := by decide +kernel
theorem mX9_count_2 : (Cond.fieldLink RX9 29 "BorderRuns" "history" "LBorderRuns$History;") ∈ wsX9_count := by decide +kernel
theorem mX9_count_3 : (Cond.fieldLink RX9 36 "BorderRuns" "text" "LBorderRuns$Text;") ∈ wsX9_count := by decide +kernel
set_option maxHeartbeats 4000000 in
set_option maxRecDepth 100000 in
/-- X9_count -/
theorem kX9_count (l : Launch) (g : zG) (ad : Nat → Nat) (w : Int → Int) (n : Int) (ee : Nat → Int → Int) (en : Nat → Int) (hc : Int) (u : Int → Int) (un hs : Int) (tc : Int → Int) (tn : Int) (q : Int) (hq : -2147483648 ≤ q ∧ q < 2147483648) : Met l yX9_count wsX9_count (zRm 5 116) (zP g [.ref (ad 16), .int (zI q)] (AX g ad w n ee en hc u un hs tc tn)) (vp_Si (fun y => y = zI (zCnt w n hc tn q))) 0 0 (fun _ => False) := by
  refine Met.ofZ (cc := cX9_count) (maxL := 3) (ret := (some .int)) (by decide) rfl (Nat.le_of_ble_eq_true rfl) ?_
  intro p e s m args below meth c ls hx hb hr hlocks S hin hK hpic hl
  have hown := S.2.2.2.1
  have hts := S.2.2.2.2
  have hl : lv_has ls 3 [(0, .ref (ad 16)), (1, .int (zI q))] := hl
  obtain ⟨d, dn, u9, un9, hf, hn, v, vn, nx, pf, ig, bp, hX, hsn, hrg⟩ := hpic
  have hg := hX.grg
  have hn0 := hX.gw.1
  have hd0 := hX.gd.1
  have hu0 := hX.gu.1
  have hv0 := hX.gv.1
  have ht0 := hX.gt.1
  refine lv_aload_n hx hb dX9_count_0 rfl (lv_at hl 0 rfl) ?_
  refine va_get (D := g.1) (ci := 4) (v := .ref (ad 0)) (C := RX9) (T := TX9) (N := 7) hx hb hts mX9_count_0 hown hK (hX.gx) 0 rfl rfl 0 (by decide) (hts _ mX9_count_1) (fun _ h9 => h9) rfl dX9_count_1 ?_
  refine zc_V (As := []) (rest := []) S hK (kX8_length l g (ad 0) (ad 1) w n) (cwV 0 hts gX9_count_X8_length rfl rfl rfl (by decide +kernel) ⟨Nat.le_of_ble_eq_true rfl, Nat.le_of_ble_eq_true rfl⟩) ((hX.gw)) ((hX.gw).recv hK) rfl hl.1 rfl (Nat.le_of_ble_eq_true rfl) dX9_count_4 ⟨Nat.zero_le _, Nat.zero_le _⟩ (fun r4 hr4 => ?_)
  obtain rfl := hr4
  refine lv_istore_n (lv' := [(2, .int (zI n)), (0, .ref (ad 16)), (1, .int (zI q))]) hx hb dX9_count_7 rfl hl (by decide) rfl (fun ls hl => ?_)
  refine lv_iload_n hx hb dX9_count_8 rfl (lv_at hl 2 rfl) ?_
  rcases (show q = 0 ∨ q = 1 ∨ q = 2 ∨ q = 3 ∨ q = 4 ∨ q = 5 ∨ q = 6 ∨ q = 7 ∨ q = 8 ∨ q = 9 ∨ q = 10 ∨ q = 11 ∨ (q < 0 ∨ 11 < q) by omega) with c9 | c9 | c9 | c9 | c9 | c9 | c9 | c9 | c9 | c9 | c9 | c9 | c9
  · subst c9
    refine zv_tableIn (a := 0) (tgt := 72) hx hb dX9_count_9 (by omega) (by omega) (by omega) rfl (by decide) ?_
    refine lv_iload_n hx hb dX9_count_72 rfl (lv_at hl 0 rfl) ?_
    exact zr_i hx hb hr hlocks dX9_count_73 (by unfold zCnt; rw [zIf_t rfl])
  · subst c9
    refine zv_tableIn (a := 1) (tgt := 74) hx hb dX9_count_9 (by omega) (by omega) (by omega) rfl (by decide) ?_
    refine lv_aload_n hx hb dX9_count_74 rfl (lv_at hl 1 rfl) ?_
    refine va_get (D := g.1) (ci := 4) (v := .ref (ad 0)) (C := RX9) (T := TX9) (N := 7) hx hb hts mX9_count_0 hown hK (hX.gx) 0 rfl rfl 0 (by decide) (hts _ mX9_count_1) (fun _ h9 => h9) rfl dX9_count_75 ?_
    refine zc_V (As := []) (rest := []) S hK (kX8_unlikeLetters l g (ad 0) (ad 1) w n  ) (cwV 0 hts gX9_count_X8_unlikeLetters rfl rfl rfl (by decide +kernel) ⟨Nat.le_of_ble_eq_true rfl, Nat.le_of_ble_eq_true rfl⟩) ((hX.gw)) ((hX.gw).recv hK) rfl hl.1 rfl (Nat.le_of_ble_eq_true rfl) dX9_count_78 ⟨Nat.zero_le _, Nat.zero_le _⟩ (fun r78 hr78 => ?_)
    obtain ⟨z78, rfl, hz78⟩ := hr78
    exact zr_i hx hb hr hlocks dX9_count_81 (by unfold zCnt; rw [zIf_f (by omega), zIf_t rfl]; exact congrArg zI hz78.1)
  · subst c9
    refine zv_tableIn (a := 2) (tgt := 82) hx hb dX9_count_9 (by omega) (by omega) (by omega) rfl (by decide) ?_
    refine lv_aload_n hx hb dX9_count_82 rfl (lv_at hl 1 rfl) ?_
    refine va_get (D := g.1) (ci := 4) (v := .ref (ad 0)) (C := RX9) (T := TX9) (N := 7) hx hb hts mX9_count_0 hown hK (hX.gx) 0 rfl rfl 0 (by decide) (hts _ mX9_count_1) (fun _ h9 => h9) rfl dX9_count_83 ?_
    refine lv_iload_n hx hb dX9_count_86 rfl (lv_at hl 0 rfl) ?_
    refine zc_S (As := [.ref (ad 0), .int (zI n)]) (rest := []) S hK (kX0_unlikeFactors l g (ad 0) (ad 1) w n n (by omega)) (va_cwS 2 hts gX9_count_X0_unlikeFactors rfl rfl rfl (by decide +kernel) ⟨Nat.le_of_ble_eq_true rfl, Nat.le_of_ble_eq_true rfl⟩) ((hX.gw)) rfl hl.1 rfl (Nat.le_of_ble_eq_true rfl) dX9_count_87 ⟨Nat.zero_le _, Nat.zero_le _⟩ (fun r87 hr87 => ?_)
    obtain ⟨z87, rfl, hz87⟩ := hr87
    exact zr_i hx hb hr hlocks dX9_count_90 (by unfold zCnt; rw [zIf_f (by omega), zIf_f (by omega), zIf_t rfl]; exact congrArg zI hz87.1)
  · subst c9
    refine zv_tableIn (a := 3) (tgt := 91) hx hb dX9_count_9 (by omega) (by omega) (by omega) rfl (by decide) ?_
    refine lv_aload_n hx hb dX9_count_91 rfl (lv_at hl 1 rfl) ?_
    refine va_get (D := g.1) (ci := 4) (v := .ref (ad 0)) (C := RX9) (T := TX9) (N := 7) hx hb hts mX9_count_0 hown hK (hX.gx) 0 rfl rfl 0 (by decide) (hts _ mX9_count_1) (fun _ h9 => h9) rfl dX9_count_92 ?_
    refine zc_S (As := [.ref (ad 0)]) (rest := []) S hK (kX0_classes l g (ad 0) (ad 1) w n  ) (va_cwS 1 hts gX9_count_X0_classes rfl rfl rfl (by decide +kernel) ⟨Nat.le_of_ble_eq_true rfl, Nat.le_of_ble_eq_true rfl⟩) ((hX.gw)) rfl hl.1 rfl (Nat.le_of_ble_eq_true rfl) dX9_count_95 ⟨Nat.zero_le _, Nat.zero_le _⟩ (fun r95 hr95 => ?_)
    obtain ⟨z95, rfl, hz95⟩ := hr95
    exact zr_i hx hb hr hlocks dX9_count_98 (by unfold zCnt; rw [zIf_f (by omega), zIf_f (by omega), zIf_f (by omega), zIf_t rfl]; exact congrArg zI hz95.1)
  · subst c9
    refine zv_tableIn (a := 4) (tgt := 99) hx hb dX9_count_9 (by omega) (by omega) (by omega) rfl (by decide) ?_
    refine lv_aload_n hx hb dX9_count_99 rfl (lv_at hl 1 rfl) ?_
    refine va_get (D := g.1) (ci := 4) (v := .ref (ad 0)) (C := RX9) (T := TX9) (N := 7) hx hb hts mX9_count_0 hown hK (hX.gx) 0 rfl rfl 0 (by decide) (hts _ mX9_count_1) (fun _ h9 => h9) rfl dX9_count_100 ?_
    refine zc_S (As := [.ref (ad 0)]) (rest := []) S hK (kX5_total l g (ad 0) (ad 1) w n  ) (va_cwS 1 hts gX9_count_X5_total rfl rfl rfl (by decide +kernel) ⟨Nat.le_of_ble_eq_true rfl, Nat.le_of_ble_eq_true rfl⟩) ((hX.gw)) rfl hl.1 rfl (Nat.le_of_ble_eq_true rfl) dX9_count_103 ⟨Nat.zero_le _, Nat.zero_le _⟩ (fun r103 hr103 => ?_)
    obtain ⟨z103, rfl, hz103⟩ := hr103
    exact zr_i hx hb hr hlocks dX9_count_106 (by unfold zCnt; rw [zIf_f (by omega), zIf_f (by omega), zIf_f (by omega), zIf_f (by omega), zIf_t rfl]; exact congrArg zI hz103.1)
  · subst c9
    refine zv_tableIn (a := 5) (tgt := 107) hx hb dX9_count_9 (by omega) (by omega) (by omega) rfl (by decide) ?_
    refine lv_aload_n hx hb dX9_count_107 rfl (lv_at hl 1 rfl) ?_
    refine va_get (D := g.1) (ci := 4) (v := .ref (ad 0)) (C := RX9) (T := TX9) (N := 7) hx hb hts mX9_count_0 hown hK (hX.gx) 0 rfl rfl 0 (by decide) (hts _ mX9_count_1) (fun _ h9 => h9) rfl dX9_count_108 ?_
    refine zc_S (As := [.ref (ad 0)]) (rest := []) S hK (kX4_total l g (ad 0) (ad 1) w n  ) (va_cwS 1 hts gX9_count_X4_total rfl rfl rfl (by decide +kernel) ⟨Nat.le_of_ble_eq_true rfl, Nat.le_of_ble_eq_true rfl⟩) ((hX.gw)) rfl hl.1 rfl (Nat.le_of_ble_eq_true rfl) dX9_count_111 ⟨Nat.zero_le _, Nat.zero_le _⟩ (fun r111 hr111 => ?_)
    obtain ⟨z111, rfl, hz111⟩ := hr111
    exact zr_i hx hb hr hlocks dX9_count_114 (by unfold zCnt; rw [zIf_f (by omega), zIf_f (by omega), zIf_f (by omega), zIf_f (by omega), zIf_f (by omega), zIf_t rfl]; exact congrArg zI hz111.1)
  · subst c9
    refine zv_tableIn (a := 6) (tgt := 115) hx hb dX9_count_9 (by omega) (by omega) (by omega) rfl (by decide) ?_
    refine lv_aload_n hx hb dX9_count_115 rfl (lv_at hl 1 rfl) ?_
    refine va_get (D := g.1) (ci := 4) (v := .ref (ad 0)) (C := RX9) (T := TX9) (N := 7) hx hb hts mX9_count_0 hown hK (hX.gx) 0 rfl rfl 0 (by decide) (hts _ mX9_count_1) (fun _ h9 => h9) rfl dX9_count_116 ?_
    refine zv_iconst hx hb dX9_count_119 ?_
    refine lv_iload_n hx hb dX9_count_120 rfl (lv_at hl 0 rfl) ?_
    refine zc_S (As := [.ref (ad 0), .int (zI 0), .int (zI n)]) (rest := []) S hK (kX2_longestBorder l g (ad 0) (ad 1) w n 0 n (by omega)) (va_cwS 3 hts gX9_count_X2_longestBorder rfl rfl rfl (by decide +kernel) ⟨Nat.le_of_ble_eq_true rfl, Nat.le_of_ble_eq_true rfl⟩) ((hX.gw)) rfl hl.1 rfl (Nat.le_of_ble_eq_true rfl) dX9_count_121 ⟨Nat.zero_le _, Nat.zero_le _⟩ (fun r121 hr121 => ?_)
    obtain ⟨z121, rfl, hz121⟩ := hr121
    exact zr_i hx hb hr hlocks dX9_count_124 (by unfold zCnt; rw [zIf_f (by omega), zIf_f (by omega), zIf_f (by omega), zIf_f (by omega), zIf_f (by omega), zIf_f (by omega), zIf_t rfl]; exact congrArg zI (hz121.1.trans (by rw [show n - 0 = n by omega])))
  · subst c9
    refine zv_tableIn (a := 7) (tgt := 125) hx hb dX9_count_9 (by omega) (by omega) (by omega) rfl (by decide) ?_
    refine lv_aload_n hx hb dX9_count_125 rfl (lv_at hl 1 rfl) ?_
    refine va_get (D := g.1) (ci := 4) (v := .ref (ad 0)) (C := RX9) (T := TX9) (N := 7) hx hb hts mX9_count_0 hown hK (hX.gx) 0 rfl rfl 0 (by decide) (hts _ mX9_count_1) (fun _ h9 => h9) rfl dX9_count_126 ?_
    refine zv_iconst hx hb dX9_count_129 ?_
    refine lv_iload_n hx hb dX9_count_130 rfl (lv_at hl 0 rfl) ?_
    refine zc_S (As := [.ref (ad 0), .int (zI 0), .int (zI n)]) (rest := []) S hK (kX2_least l g (ad 0) (ad 1) w n 0 n (by omega)) (va_cwS 3 hts gX9_count_X2_least rfl rfl rfl (by decide +kernel) ⟨Nat.le_of_ble_eq_true rfl, Nat.le_of_ble_eq_true rfl⟩) ((hX.gw)) rfl hl.1 rfl (Nat.le_of_ble_eq_true rfl) dX9_count_131 ⟨Nat.zero_le _, Nat.zero_le _⟩ (fun r131 hr131 => ?_)
    obtain ⟨z131, rfl, hz131⟩ := hr131
    exact zr_i hx hb hr hlocks dX9_count_134 (by unfold zCnt; rw [zIf_f (by omega), zIf_f (by omega), zIf_f (by omega), zIf_f (by omega), zIf_f (by omega), zIf_f (by omega), zIf_f (by omega), zIf_t rfl]; exact congrArg zI hz131.1)
  · subst c9
    refine zv_tableIn (a := 8) (tgt := 135) hx hb dX9_count_9 (by omega) (by omega) (by omega) rfl (by decide) ?_
    refine lv_aload_n hx hb dX9_count_135 rfl (lv_at hl 1 rfl) ?_
    refine va_get (D := g.1) (ci := 4) (v := .ref (ad 0)) (C := RX9) (T := TX9) (N := 7) hx hb hts mX9_count_0 hown hK (hX.gx) 0 rfl rfl 0 (by decide) (hts _ mX9_count_1) (fun _ h9 => h9) rfl dX9_count_136 ?_
    refine zc_S (As := [.ref (ad 0)]) (rest := []) S hK (kX0_longestTwice l g (ad 0) (ad 1) w n  ) (va_cwS 1 hts gX9_count_X0_longestTwice rfl rfl rfl (by decide +kernel) ⟨Nat.le_of_ble_eq_true rfl, Nat.le_of_ble_eq_true rfl⟩) ((hX.gw)) rfl hl.1 rfl (Nat.le_of_ble_eq_true rfl) dX9_count_139 ⟨Nat.zero_le _, Nat.zero_le _⟩ (fun r139 hr139 => ?_)
    obtain ⟨z139, rfl, hz139⟩ := hr139
    exact zr_i hx hb hr hlocks dX9_count_142 (by unfold zCnt; rw [zIf_f (by omega), zIf_f (by omega), zIf_f (by omega), zIf_f (by omega), zIf_f (by omega), zIf_f (by omega), zIf_f (by omega), zIf_f (by omega), zIf_t rfl]; exact congrArg zI hz139.1)
  · subst c9
    refine zv_tableIn (a := 9) (tgt := 143) hx hb dX9_count_9 (by omega) (by omega) (by omega) rfl (by decide) ?_
    refine lv_aload_n hx hb dX9_count_143 rfl (lv_at hl 1 rfl) ?_
    refine va_get (D := g.1) (ci := 4) (v := .ref (ad 0)) (C := RX9) (T := TX9) (N := 7) hx hb hts mX9_count_0 hown hK (hX.gx) 0 rfl rfl 0 (by decide) (hts _ mX9_count_1) (fun _ h9 => h9) rfl dX9_count_144 ?_
    refine zc_S (As := [.ref (ad 0)]) (rest := []) S hK (kX5_unlikeTotal l g (ad 0) (ad 1) w n  ) (va_cwS 1 hts gX9_count_X5_unlikeTotal rfl rfl rfl (by decide +kernel) ⟨Nat.le_of_ble_eq_true rfl, Nat.le_of_ble_eq_true rfl⟩) ((hX.gw)) rfl hl.1 rfl (Nat.le_of_ble_eq_true rfl) dX9_count_147 ⟨Nat.zero_le _, Nat.zero_le _⟩ (fun r147 hr147 => ?_)
    obtain ⟨z147, rfl, hz147⟩ := hr147
    exact zr_i hx hb hr hlocks dX9_count_150 (by unfold zCnt; rw [zIf_f (by omega), zIf_f (by omega), zIf_f (by omega), zIf_f (by omega), zIf_f (by omega), zIf_f (by omega), zIf_f (by omega), zIf_f (by omega), zIf_f (by omega), zIf_t rfl]; exact congrArg zI hz147.1)
  · subst c9
    refine zv_tableIn (a := 10) (tgt := 151) hx hb dX9_count_9 (by omega) (by omega) (by omega) rfl (by decide) ?_
    refine lv_aload_n hx hb dX9_count_151 rfl (lv_at hl 1 rfl) ?_
    refine va_get (D := g.1) (ci := 4) (v := .ref (ad 17)) (C := RX9) (T := TX9) (N := 7) hx hb hts mX9_count_0 hown hK (hX.gx) 0 rfl rfl 4 (by decide) (hts _ mX9_count_2) (fun _ h9 => h9) rfl dX9_count_152 ?_
    refine zc_V (As := []) (rest := []) S hK (kX1_size l g ad w n d dn u9 un9 hf hn v vn hs nx hc tn pf ig bp tc) (cwV 0 hts gX9_count_X1_size rfl rfl rfl (by decide +kernel) ⟨Nat.le_of_ble_eq_true rfl, Nat.le_of_ble_eq_true rfl⟩) (hX) (hX.recvh hK) rfl hl.1 rfl (Nat.le_of_ble_eq_true rfl) dX9_count_155 ⟨Nat.zero_le _, Nat.zero_le _⟩ (fun r155 hr155 => ?_)
    obtain rfl := hr155
    exact zr_i hx hb hr hlocks dX9_count_158 (by unfold zCnt; rw [zIf_f (by omega), zIf_f (by omega), zIf_f (by omega), zIf_f (by omega), zIf_f (by omega), zIf_f (by omega), zIf_f (by omega), zIf_f (by omega), zIf_f (by omega), zIf_f (by omega), zIf_t rfl])
  · subst c9
    refine zv_tableIn (a := 11) (tgt := 159) hx hb dX9_count_9 (by omega) (by omega) (by omega) rfl (by decide) ?_
    refine lv_aload_n hx hb dX9_count_159 rfl (lv_at hl 1 rfl) ?_
    refine va_get (D := g.1) (ci := 4) (v := .ref (ad 19)) (C := RX9) (T := TX9) (N := 7) hx hb hts mX9_count_0 hown hK (hX.gx) 0 rfl rfl 5 (by decide) (hts _ mX9_count_3) (fun _ h9 => h9) rfl dX9_count_160 ?_
    refine zc_V (As := []) (rest := []) S hK (kX7_length l g (ad 19) (ad 20) tc tn ) (cwV 0 hts gX9_count_X7_length rfl rfl rfl (by decide +kernel) ⟨Nat.le_of_ble_eq_true rfl, Nat.le_of_ble_eq_true rfl⟩) (hX.gt) (hX.gt.recv hK) rfl hl.1 rfl (Nat.le_of_ble_eq_true rfl) dX9_count_163 ⟨Nat.zero_le _, Nat.zero_le _⟩ (fun r163 hr163 => ?_)
    obtain rfl := hr163
    exact zr_i hx hb hr hlocks dX9_count_166 (by unfold zCnt; rw [zIf_f (by omega), zIf_f (by omega), zIf_f (by omega), zIf_f (by omega), zIf_f (by omega), zIf_f (by omega), zIf_f (by omega), zIf_f (by omega), zIf_f (by omega), zIf_f (by omega), zIf_f (by omega), zIf_t rfl])
  · refine zv_tableOut (tgt := 167) hx hb dX9_count_9 (by omega) (by omega) (by decide) ?_
    refine zv_bipush hx hb dX9_count_167 (by decide +kernel) ?_
    exact zr_i hx hb hr hlocks dX9_count_169 (by unfold zCnt; rw [zIf_f (by omega), zIf_f (by omega), zIf_f (by omega), zIf_f (by omega), zIf_f (by omega), zIf_f (by omega), zIf_f (by omega), zIf_f (by omega), zIf_f (by omega), zIf_f (by omega), zIf_f (by omega), zIf_f (by omega)])

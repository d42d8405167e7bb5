theorem mX8_clear_0 : ∀ w ∈ wsX80, w ∈ wsX8_clear := by decide +kernel
theorem mX8_clear_1 : (Cond.fieldLink RX8 15 "BorderRuns$Word" "length" "I") ∈ wsX8_clear := by decide +kernel
set_option maxHeartbeats 4000000 in
set_option maxRecDepth 100000 in
/-- Word.clear() -/
theorem kX8_clear (l : Launch) (g : zG) (h a : Nat) (w : Int → Int) (n : Int) : Met l yX8_clear wsX8_clear (zRm 0 0) (zP g [.ref h] (PW g h a w n)) (zQv (fun H => PW g h a w 0 H) (zA2 h a)) 0 0 (zA2 h a) := by
  refine Met.ofZ (cc := cX8_clear) (maxL := 1) (ret := none) (by decide) rfl (Nat.le_of_ble_eq_true rfl) ?_
  intro p e s m args below meth c ls hx hb hr hlocks S hin hK hpic hl
  have hown := S.2.2.2.1
  have hts := S.2.2.2.2
  have hl : lv_has ls 1 [(0, .ref h)] := hl
  obtain ⟨hn, hw, f, hP, hf, hha⟩ := id hpic
  have hD : va_D (zA2 h a) [(h, .inr (3, [.ref a, .int (zI n)])), (a, .inl (g.2.1, 40, .inl f))] := va_D.two hha (Or.inl rfl) (Or.inr rfl)
  have hS : va_S (zA2 h a) s.heap s.heap [] := va_S.rf
  refine lv_aload_n hx hb dX8_clear_0 rfl (lv_at hl 0 rfl) ?_
  refine zv_iconst hx hb dX8_clear_1 ?_
  refine va_put (D := g.1) (ci := 3) (v := .int (zI 0)) (ty := .int) (C := RX8) (T := TX8) (N := 2) hx hb hts mX8_clear_0 tyX8 tyX8_ok nmX8 hown hK hP hD hS 0 rfl rfl 1 (by decide) (hts _ mX8_clear_1) (fun _ h9 => h9) rfl (by decide +kernel) rfl rfl (Nat.le_of_ble_eq_true rfl) dX8_clear_2 (fun H1 locs hP1 hD1 hS => ?_)
  have hP : va_P g.1 vwCl [(h, .inr (3, [.ref a, .int (zI 0)])), (a, .inl (g.2.1, 40, .inl f))] H1 := hP1
  have hD : va_D (zA2 h a) [(h, .inr (3, [.ref a, .int (zI 0)])), (a, .inl (g.2.1, 40, .inl f))] := hD1
  exact zw_v hx hb hr hlocks hS dX8_clear_5 (⟨by omega, fun k h1 h2 => absurd h2 (by omega), f, hP, fun k h1 h2 => absurd h2 (by omega), hha⟩)

theorem mX8_append_0 : ∀ w ∈ wsX80, w ∈ wsX8_append := by decide +kernel
theorem mX8_append_1 : (Cond.fieldLink RX8 15 "BorderRuns$Word" "length" "I") ∈ wsX8_append := by decide +kernel
theorem mX8_append_2 : (Cond.fieldLink RX8 9 "BorderRuns$Word" "letters" "[I") ∈ wsX8_append := by decide +kernel
set_option maxHeartbeats 4000000 in
set_option maxRecDepth 100000 in
/-- Word.append(x) -/
theorem kX8_append (l : Launch) (g : zG) (h a : Nat) (w : Int → Int) (n : Int) (x : Int) (hx0 : 0 ≤ x ∧ x ≤ 25) (hn40 : n < 40) : Met l yX8_append wsX8_append (zRm 0 0) (zP g [.ref h, .int (zI x)] (PW g h a w n)) (zQv (fun H => PW g h a (zApp w n x) (n + 1) H) (zA2 h a)) 0 0 (zA2 h a) := by
  refine Met.ofZ (cc := cX8_append) (maxL := 2) (ret := none) (by decide) rfl (Nat.le_of_ble_eq_true rfl) ?_
  intro p e s m args below meth c ls hx hb hr hlocks S hin hK hpic hl
  have hown := S.2.2.2.1
  have hts := S.2.2.2.2
  have hl : lv_has ls 2 [(0, .ref h), (1, .int (zI x))] := hl
  obtain ⟨hn, hw, f, hP, hf, hha⟩ := id hpic
  have hD : va_D (zA2 h a) [(h, .inr (3, [.ref a, .int (zI n)])), (a, .inl (g.2.1, 40, .inl f))] := va_D.two hha (Or.inl rfl) (Or.inr rfl)
  have hS : va_S (zA2 h a) s.heap s.heap [] := va_S.rf
  refine lv_aload_n hx hb dX8_append_0 rfl (lv_at hl 0 rfl) ?_
  refine va_get (D := g.1) (ci := 3) (v := .int (zI n)) (C := RX8) (T := TX8) (N := 2) hx hb hts mX8_append_0 hown hK hP 0 rfl rfl 1 (by decide) (hts _ mX8_append_1) (fun _ h9 => h9) rfl dX8_append_1 ?_
  refine zv_if_lt (tgt := 39) hx hb dX8_append_4 (by decide) (by omega) (fun c4 => ?_) (fun c4 => ?_)
  · exact absurd c4 (by omega)
  · refine lv_aload_n hx hb dX8_append_7 rfl (lv_at hl 0 rfl) ?_
    refine va_get (D := g.1) (ci := 3) (v := .int (zI n)) (C := RX8) (T := TX8) (N := 2) hx hb hts mX8_append_0 hown hK hP 0 rfl rfl 1 (by decide) (hts _ mX8_append_1) (fun _ h9 => h9) rfl dX8_append_8 ?_
    refine lv_aload_n hx hb dX8_append_11 rfl (lv_at hl 0 rfl) ?_
    refine va_get (D := g.1) (ci := 3) (v := .ref a) (C := RX8) (T := TX8) (N := 2) hx hb hts mX8_append_0 hown hK hP 0 rfl rfl 0 (by decide) (hts _ mX8_append_2) (fun _ h9 => h9) rfl dX8_append_12 ?_
    refine va_alen (D := g.1) hx hb hK hP 1 0 rfl rfl (v := zI 40) rfl dX8_append_15 ?_
    refine zv_icmp_ge (tgt := 39) hx hb dX8_append_16 (by decide) (by omega) (by omega) (fun c16 => ?_) (fun c16 => ?_)
    · exact absurd c16 (by omega)
    · refine lv_aload_n hx hb dX8_append_19 rfl (lv_at hl 0 rfl) ?_
      refine va_get (D := g.1) (ci := 3) (v := .ref a) (C := RX8) (T := TX8) (N := 2) hx hb hts mX8_append_0 hown hK hP 0 rfl rfl 0 (by decide) (hts _ mX8_append_2) (fun _ h9 => h9) rfl dX8_append_20 ?_
      refine lv_aload_n hx hb dX8_append_23 rfl (lv_at hl 0 rfl) ?_
      refine va_get (D := g.1) (ci := 3) (v := .int (zI n)) (C := RX8) (T := TX8) (N := 2) hx hb hts mX8_append_0 hown hK hP 0 rfl rfl 1 (by decide) (hts _ mX8_append_1) (fun _ h9 => h9) rfl dX8_append_24 ?_
      refine lv_iload_n hx hb dX8_append_27 rfl (lv_at hl 1 rfl) ?_
      refine va_iast (D := g.1) hx hb hK hP hD hS 1 0 rfl rfl (zI_in (by omega) (by decide)) dX8_append_28 (fun H1 locs hP1 hD1 hS => ?_)
      have hP : va_P g.1 vwCl [(h, .inr (3, [.ref a, .int (zI n)])), (a, .inl (g.2.1, 40, .inl (upd f (zI n).toNatClampNeg (zI x))))] H1 := hP1
      have hD : va_D (zA2 h a) [(h, .inr (3, [.ref a, .int (zI n)])), (a, .inl (g.2.1, 40, .inl (upd f (zI n).toNatClampNeg (zI x))))] := hD1
      obtain ⟨f28, ef28⟩ : ∃ f9, f9 = (upd f (zI n).toNatClampNeg (zI x)) := ⟨_, rfl⟩
      rw [← ef28] at hP hD
      rw [zI_cl (by omega)] at ef28
      refine lv_aload_n hx hb dX8_append_29 rfl (lv_at hl 0 rfl) ?_
      refine lv_dup hx hb dX8_append_30 rfl ?_
      refine va_get (D := g.1) (ci := 3) (v := .int (zI n)) (C := RX8) (T := TX8) (N := 2) hx hb hts mX8_append_0 hown hK hP 0 rfl rfl 1 (by decide) (hts _ mX8_append_1) (fun _ h9 => h9) rfl dX8_append_31 ?_
      refine zv_iconst hx hb dX8_append_34 ?_
      refine zv_iadd hx hb dX8_append_35 ?_
      refine va_put (D := g.1) (ci := 3) (v := .int (zI (n + 1))) (ty := .int) (C := RX8) (T := TX8) (N := 2) hx hb hts mX8_append_0 tyX8 tyX8_ok nmX8 hown hK hP hD hS 0 rfl rfl 1 (by decide) (hts _ mX8_append_1) (fun _ h9 => h9) rfl (by decide +kernel) rfl rfl (Nat.le_of_ble_eq_true rfl) dX8_append_36 (fun H1 locs hP1 hD1 hS => ?_)
      have hP : va_P g.1 vwCl [(h, .inr (3, [.ref a, .int (zI (n + 1))])), (a, .inl (g.2.1, 40, .inl f28))] H1 := hP1
      have hD : va_D (zA2 h a) [(h, .inr (3, [.ref a, .int (zI (n + 1))])), (a, .inl (g.2.1, 40, .inl f28))] := hD1
      exact zw_v hx hb hr hlocks hS dX8_append_39 (⟨by omega, fun k h1 h2 => by
            by_cases q : k = n
            · subst q; rw [zApp_eq]; exact hx0
            · rw [zApp_ne q]; exact hw k h1 (by omega), f28, hP, fun k h1 h2 => by
            rw [ef28]
            by_cases q : k = n
            · subst q; rw [zApp_eq]; exact if_pos rfl
            · rw [zApp_ne q]; refine Eq.trans (if_neg (by omega)) (hf k h1 (by omega)), hha⟩)

theorem mX8_isSameAs_0 : ∀ w ∈ wsX80, w ∈ wsX8_isSameAs := by decide +kernel
theorem mX8_isSameAs_1 : (Cond.fieldLink RX8 15 "BorderRuns$Word" "length" "I") ∈ wsX8_isSameAs := by decide +kernel
set_option maxHeartbeats 4000000 in
set_option maxRecDepth 100000 in
/-- Word.isSameAs -/
theorem kX8_isSameAs (l : Launch) (g : zG) (h a : Nat) (w : Int → Int) (n : Int) (h2 a2 : Nat) (o : Int → Int) (q : Int) : Met l yX8_isSameAs wsX8_isSameAs (zRm 1 21) (zP g [.ref h, .ref h2] (fun H => PW g h a w n H ∧ PW g h2 a2 o q H)) (vp_Si (fun r => r = zI (zB (zEqW w n o q)))) 0 0 (fun _ => False) := by
  refine Met.ofZ (cc := cX8_isSameAs) (maxL := 3) (ret := (some .boolean)) (by decide) rfl (Nat.le_of_ble_eq_true rfl) ?_
  intro p e s m args below meth c ls hx hb hr hlocks S hin hK hpic hl
  have hown := S.2.2.2.1
  have hts := S.2.2.2.2
  have hl : lv_has ls 3 [(0, .ref h), (1, .ref h2)] := hl
  obtain ⟨hn, hw, f, hP, hf, hha⟩ := id hpic.1
  have hq := hpic.2.1
  refine lv_aload_n hx hb dX8_isSameAs_0 rfl (lv_at hl 0 rfl) ?_
  refine va_get (D := g.1) (ci := 3) (v := .int (zI n)) (C := RX8) (T := TX8) (N := 2) hx hb hts mX8_isSameAs_0 hown hK hP 0 rfl rfl 1 (by decide) (hts _ mX8_isSameAs_1) (fun _ h9 => h9) rfl dX8_isSameAs_1 ?_
  refine lv_aload_n hx hb dX8_isSameAs_4 rfl (lv_at hl 1 rfl) ?_
  refine zc_V (As := []) (rest := [.int (zI n)]) S hK (kX8_length l g h2 a2 o q) (cwV 0 hts gX8_isSameAs_X8_length rfl rfl rfl (by decide +kernel) ⟨Nat.le_of_ble_eq_true rfl, Nat.le_of_ble_eq_true rfl⟩) (hpic.2) (hpic.2.recv hK) rfl hl.1 rfl (Nat.le_of_ble_eq_true rfl) dX8_isSameAs_5 ⟨Nat.zero_le _, Nat.zero_le _⟩ (fun r5 hr5 => ?_)
  obtain rfl := hr5
  refine zv_icmp_eq (tgt := 13) hx hb dX8_isSameAs_8 (by decide) (by omega) (by omega) (fun c8 => ?_) (fun c8 => ?_)
  · refine zv_iconst hx hb dX8_isSameAs_13 ?_
    refine lv_istore_n (lv' := [(2, .int (zI 0)), (0, .ref h), (1, .ref h2)]) hx hb dX8_isSameAs_14 rfl hl (by decide) rfl (fun ls hl => ?_)
    have lp15 : ∀ (z_f : Nat) (k : Int), (0 ≤ k ∧ k ≤ n) → (∀ x, 0 ≤ x → x < k → w x = o x) → ((n - k).toNat) < z_f → ∀ (ls : Array Slot), lv_has ls 3 [(0, .ref h), (1, .ref h2), (2, .int (zI k))] → W p l e (zRm 1 21) s m args below meth c s.heap [] 0 0 (MQ below (vp_Si (fun r => r = zI (zB (zEqW w n o q)))) args s 0 0 (fun _ => False)) (F0 m 15 ls []) := by
      intro z_f
      induction z_f with
      | zero => intro k h0 h1 z_m; exact absurd z_m (Nat.not_lt_zero _)
      | succ z_f ih15 =>
        intro k h0 h1 z_m15 ls hl
        refine lv_iload_n hx hb dX8_isSameAs_15 rfl (lv_at hl 2 rfl) ?_
        refine lv_aload_n hx hb dX8_isSameAs_16 rfl (lv_at hl 0 rfl) ?_
        refine va_get (D := g.1) (ci := 3) (v := .int (zI n)) (C := RX8) (T := TX8) (N := 2) hx hb hts mX8_isSameAs_0 hown hK hP 0 rfl rfl 1 (by decide) (hts _ mX8_isSameAs_1) (fun _ h9 => h9) rfl dX8_isSameAs_17 ?_
        refine zv_icmp_ge (tgt := 44) hx hb dX8_isSameAs_20 (by decide) (by omega) (by omega) (fun c20 => ?_) (fun c20 => ?_)
        · have e9 : zEqW w n o q := ⟨c8, fun x h1x h2x => h1 x h1x (by omega)⟩
          refine zv_iconst hx hb dX8_isSameAs_44 ?_
          exact zr_z hx hb hr hlocks dX8_isSameAs_45 rfl (by rw [zB_t e9])
        · refine lv_aload_n hx hb dX8_isSameAs_23 rfl (lv_at hl 0 rfl) ?_
          refine lv_iload_n hx hb dX8_isSameAs_24 rfl (lv_at hl 2 rfl) ?_
          refine zc_V (As := [.int (zI k)]) (rest := []) S hK (kX8_letterAt l g h a w n k (by omega)) (cwV 1 hts gX8_isSameAs_X8_letterAt rfl rfl rfl (by decide +kernel) ⟨Nat.le_of_ble_eq_true rfl, Nat.le_of_ble_eq_true rfl⟩) (hpic.1) (hpic.1.recv hK) rfl hl.1 rfl (Nat.le_of_ble_eq_true rfl) dX8_isSameAs_25 ⟨Nat.zero_le _, Nat.zero_le _⟩ (fun r25 hr25 => ?_)
          obtain ⟨z25, rfl, hz25⟩ := hr25
          refine lv_aload_n hx hb dX8_isSameAs_28 rfl (lv_at hl 1 rfl) ?_
          refine lv_iload_n hx hb dX8_isSameAs_29 rfl (lv_at hl 2 rfl) ?_
          refine zc_V (As := [.int (zI k)]) (rest := [.int (zI z25)]) S hK (kX8_letterAt l g h2 a2 o q k (by omega)) (cwV 1 hts gX8_isSameAs_X8_letterAt rfl rfl rfl (by decide +kernel) ⟨Nat.le_of_ble_eq_true rfl, Nat.le_of_ble_eq_true rfl⟩) (hpic.2) (hpic.2.recv hK) rfl hl.1 rfl (Nat.le_of_ble_eq_true rfl) dX8_isSameAs_30 ⟨Nat.zero_le _, Nat.zero_le _⟩ (fun r30 hr30 => ?_)
          obtain ⟨z30, rfl, hz30⟩ := hr30
          refine zv_icmp_eq (tgt := 38) hx hb dX8_isSameAs_33 (by decide) (by omega) (by omega) (fun c33 => ?_) (fun c33 => ?_)
          · refine zv_iinc (lv' := [(2, .int (zI (k + 1))), (0, .ref h), (1, .ref h2)]) hx hb dX8_isSameAs_38 hl (k := 2) rfl (by decide) rfl (fun ls hl => ?_)
            refine lv_goto (tgt := 15) hx hb dX8_isSameAs_41 (by decide) ?_
            exact ih15 (k + 1) (by omega) (fun x h1x h2x => (show x < k ∨ x = k by omega).elim (fun h8 => h1 x h1x h8) (fun h8 => by subst h8; omega)) (by omega) _ (lv_sub hl [1, 2, 0] rfl)
          · have e9 : ¬ zEqW w n o q := fun z => by have := z.2 k (by omega) (by omega); omega
            refine zv_iconst hx hb dX8_isSameAs_36 ?_
            exact zr_z hx hb hr hlocks dX8_isSameAs_37 rfl (by rw [zB_f e9])
    exact lp15 _ 0 (by omega) (fun x h1x h2x => absurd h2x (by omega)) (Nat.lt_succ_self _) _ (lv_sub hl [1, 2, 0] rfl)
  · have e9 : ¬ zEqW w n o q := fun z => c8 z.1
    refine zv_iconst hx hb dX8_isSameAs_11 ?_
    exact zr_z hx hb hr hlocks dX8_isSameAs_12 rfl (by rw [zB_f e9])

set_option maxHeartbeats 4000000 in
set_option maxRecDepth 100000 in
/-- Word.appendFactor(other, i, j) -/
theorem kX8_appendFactor (l : Launch) (g : zG) (h a : Nat) (w : Int → Int) (n : Int) (h2 a2 : Nat) (o : Int → Int) (q : Int) (hd : h2 ≠ h ∧ h2 ≠ a ∧ a2 ≠ h ∧ a2 ≠ a) (i j : Int) (hi : 0 ≤ i ∧ i ≤ j ∧ j ≤ q ∧ n + (j - i) ≤ 40) : Met l yX8_appendFactor wsX8_appendFactor (zRm 1 21) (zP g [.ref h, .ref h2, .int (zI i), .int (zI j)] (fun H => PW g h a w n H ∧ PW g h2 a2 o q H)) (zQv (fun H => PW g h a (zExt w n o i) (n + (j - i)) H) (zA2 h a)) 0 0 (zA2 h a) := by
  refine Met.ofZ (cc := cX8_appendFactor) (maxL := 5) (ret := none) (by decide) rfl (Nat.le_of_ble_eq_true rfl) ?_
  intro p e s m args below meth c ls hx hb hr hlocks S hin hK hpic hl
  have hown := S.2.2.2.1
  have hts := S.2.2.2.2
  have hl : lv_has ls 5 [(0, .ref h), (1, .ref h2), (2, .int (zI i)), (3, .int (zI j))] := hl
  have hS : va_S (zA2 h a) s.heap s.heap [] := va_S.rf
  have hn := hpic.1.1
  have hq := hpic.2.1
  refine lv_iload_n hx hb dX8_appendFactor_0 rfl (lv_at hl 2 rfl) ?_
  refine lv_istore (lv' := [(4, .int (zI i)), (0, .ref h), (1, .ref h2), (2, .int (zI i)), (3, .int (zI j))]) hx hb dX8_appendFactor_1 hl (by decide) rfl (fun ls hl => ?_)
  have lp3 : ∀ (z_f : Nat) (k : Int) (H1 : Heap) (locs : List Loc), (i ≤ k ∧ k ≤ j) → (PW g h a (zExt w n o i) (n + (k - i)) H1) → (PW g h2 a2 o q H1) → (va_S (zA2 h a) s.heap H1 locs) → ((j - k).toNat) < z_f → ∀ (ls : Array Slot), lv_has ls 5 [(0, .ref h), (1, .ref h2), (2, .int (zI i)), (3, .int (zI j)), (4, .int (zI k))] → W p l e (zRm 1 21) s m args below meth c H1 locs 0 0 (MQ below (zQv (fun H => PW g h a (zExt w n o i) (n + (j - i)) H) (zA2 h a)) args s 0 0 (zA2 h a)) (F0 m 3 ls []) := by
    intro z_f
    induction z_f with
    | zero => intro k H1 locs h0 hw1 hw2 hS z_m; exact absurd z_m (Nat.not_lt_zero _)
    | succ z_f ih3 =>
      intro k H1 locs h0 hw1 hw2 hS z_m3 ls hl
      refine lv_iload hx hb dX8_appendFactor_3 (lv_at hl 4 rfl) ?_
      refine lv_iload_n hx hb dX8_appendFactor_5 rfl (lv_at hl 3 rfl) ?_
      refine zv_icmp_ge (tgt := 25) hx hb dX8_appendFactor_6 (by decide) (by omega) (by omega) (fun c6 => ?_) (fun c6 => ?_)
      · have e9 : k = j := by omega
        subst e9
        exact zw_v hx hb hr hlocks hS dX8_appendFactor_25 hw1
      · refine lv_aload_n hx hb dX8_appendFactor_9 rfl (lv_at hl 0 rfl) ?_
        refine lv_aload_n hx hb dX8_appendFactor_10 rfl (lv_at hl 1 rfl) ?_
        refine lv_iload hx hb dX8_appendFactor_11 (lv_at hl 4 rfl) ?_
        refine zc_V (As := [.int (zI k)]) (rest := [.ref h]) S hK (kX8_letterAt l g h2 a2 o q k (by omega)) (cwV 1 hts gX8_appendFactor_X8_letterAt rfl rfl rfl (by decide +kernel) ⟨Nat.le_of_ble_eq_true rfl, Nat.le_of_ble_eq_true rfl⟩) (hw2) (hw2.recv hK) rfl hl.1 rfl (Nat.le_of_ble_eq_true rfl) dX8_appendFactor_13 ⟨Nat.zero_le _, Nat.zero_le _⟩ (fun r13 hr13 => ?_)
        obtain ⟨z13, rfl, hz13⟩ := hr13
        have e13 : z13 = o k := hz13.1 (by omega) (by omega)
        have b13 : 0 ≤ o k ∧ o k ≤ 25 := hpic.2.2.1 k (by omega) (by omega)
        refine zc_VWv (As := [.int (zI z13)]) (rest := []) S hK (kX8_append l g h a (zExt w n o i) (n + (k - i)) z13 (by omega) (by omega)) (cwV 1 hts gX8_appendFactor_X8_append rfl rfl rfl (by decide +kernel) ⟨Nat.le_of_ble_eq_true rfl, Nat.le_of_ble_eq_true rfl⟩) (hw1) (hw1.recv hK) rfl hl.1 rfl (Nat.le_of_ble_eq_true rfl) dX8_appendFactor_16 ⟨Nat.zero_le _, Nat.zero_le _⟩ hS (fun q h => h) (fun H1 locs hp hz hk hS => ?_)
        have hw1 := hp.congr (w2 := zExt w n o i) (fun x h1x h2x => by rw [zExt_step (k := k) (by omega) x h2x, e13])
        have hw2 := hw2.frm hk (zA2_no hd.1 hd.2.1) (zA2_no hd.2.2.1 hd.2.2.2)
        refine zv_iinc (lv' := [(4, .int (zI (k + 1))), (0, .ref h), (1, .ref h2), (2, .int (zI i)), (3, .int (zI j))]) hx hb dX8_appendFactor_19 hl (k := 4) rfl (by decide) rfl (fun ls hl => ?_)
        refine lv_goto (tgt := 3) hx hb dX8_appendFactor_22 (by decide) ?_
        exact ih3 (k + 1) _ _ (by omega) (by rw [show n + (k + 1 - i) = n + (k - i) + 1 by omega]; exact hw1) (hw2) (hS) (by omega) _ (lv_sub hl [1, 2, 3, 4, 0] rfl)
  exact lp3 _ i _ _ (by omega) (by rw [show n + (i - i) = n by omega]; exact hpic.1.congr (n := n) (fun x h1x h2x => zExt_lo h2x)) (hpic.2) (hS) (Nat.lt_succ_self _) _ (lv_sub hl [1, 2, 3, 4, 0] rfl)

set_option maxHeartbeats 4000000 in
set_option maxRecDepth 100000 in
/-- Word.appendFactor(this, i, j) -/
theorem kX8_appendFactorS (l : Launch) (g : zG) (h a : Nat) (w : Int → Int) (n : Int) (i j : Int) (hi : 0 ≤ i ∧ i ≤ j ∧ j ≤ n ∧ n + (j - i) ≤ 40) : Met l yX8_appendFactor wsX8_appendFactor (zRm 1 21) (zP g [.ref h, .ref h, .int (zI i), .int (zI j)] (PW g h a w n)) (zQv (fun H => PW g h a (zExt w n w i) (n + (j - i)) H) (zA2 h a)) 0 0 (zA2 h a) := by
  refine Met.ofZ (cc := cX8_appendFactor) (maxL := 5) (ret := none) (by decide) rfl (Nat.le_of_ble_eq_true rfl) ?_
  intro p e s m args below meth c ls hx hb hr hlocks S hin hK hpic hl
  have hown := S.2.2.2.1
  have hts := S.2.2.2.2
  have hl : lv_has ls 5 [(0, .ref h), (1, .ref h), (2, .int (zI i)), (3, .int (zI j))] := hl
  have hS : va_S (zA2 h a) s.heap s.heap [] := va_S.rf
  have hn := hpic.1
  have hq := hpic.1
  refine lv_iload_n hx hb dX8_appendFactor_0 rfl (lv_at hl 2 rfl) ?_
  refine lv_istore (lv' := [(4, .int (zI i)), (0, .ref h), (1, .ref h), (2, .int (zI i)), (3, .int (zI j))]) hx hb dX8_appendFactor_1 hl (by decide) rfl (fun ls hl => ?_)
  have lp3 : ∀ (z_f : Nat) (k : Int) (H1 : Heap) (locs : List Loc), (i ≤ k ∧ k ≤ j) → (PW g h a (zExt w n w i) (n + (k - i)) H1) → (va_S (zA2 h a) s.heap H1 locs) → ((j - k).toNat) < z_f → ∀ (ls : Array Slot), lv_has ls 5 [(0, .ref h), (1, .ref h), (2, .int (zI i)), (3, .int (zI j)), (4, .int (zI k))] → W p l e (zRm 1 21) s m args below meth c H1 locs 0 0 (MQ below (zQv (fun H => PW g h a (zExt w n w i) (n + (j - i)) H) (zA2 h a)) args s 0 0 (zA2 h a)) (F0 m 3 ls []) := by
    intro z_f
    induction z_f with
    | zero => intro k H1 locs h0 hw1 hS z_m; exact absurd z_m (Nat.not_lt_zero _)
    | succ z_f ih3 =>
      intro k H1 locs h0 hw1 hS z_m3 ls hl
      refine lv_iload hx hb dX8_appendFactor_3 (lv_at hl 4 rfl) ?_
      refine lv_iload_n hx hb dX8_appendFactor_5 rfl (lv_at hl 3 rfl) ?_
      refine zv_icmp_ge (tgt := 25) hx hb dX8_appendFactor_6 (by decide) (by omega) (by omega) (fun c6 => ?_) (fun c6 => ?_)
      · have e9 : k = j := by omega
        subst e9
        exact zw_v hx hb hr hlocks hS dX8_appendFactor_25 hw1
      · refine lv_aload_n hx hb dX8_appendFactor_9 rfl (lv_at hl 0 rfl) ?_
        refine lv_aload_n hx hb dX8_appendFactor_10 rfl (lv_at hl 1 rfl) ?_
        refine lv_iload hx hb dX8_appendFactor_11 (lv_at hl 4 rfl) ?_
        refine zc_V (As := [.int (zI k)]) (rest := [.ref h]) S hK (kX8_letterAt l g h a (zExt w n w i) (n + (k - i)) k (by omega)) (cwV 1 hts gX8_appendFactor_X8_letterAt rfl rfl rfl (by decide +kernel) ⟨Nat.le_of_ble_eq_true rfl, Nat.le_of_ble_eq_true rfl⟩) (hw1) (hw1.recv hK) rfl hl.1 rfl (Nat.le_of_ble_eq_true rfl) dX8_appendFactor_13 ⟨Nat.zero_le _, Nat.zero_le _⟩ (fun r13 hr13 => ?_)
        obtain ⟨z13, rfl, hz13⟩ := hr13
        have e13 : z13 = w k := by have := hz13.1 (by omega) (by omega); rw [this, zExt_lo (by omega)]
        have b13 : 0 ≤ w k ∧ w k ≤ 25 := hpic.2.1 k (by omega) (by omega)
        refine zc_VWv (As := [.int (zI z13)]) (rest := []) S hK (kX8_append l g h a (zExt w n w i) (n + (k - i)) z13 (by omega) (by omega)) (cwV 1 hts gX8_appendFactor_X8_append rfl rfl rfl (by decide +kernel) ⟨Nat.le_of_ble_eq_true rfl, Nat.le_of_ble_eq_true rfl⟩) (hw1) (hw1.recv hK) rfl hl.1 rfl (Nat.le_of_ble_eq_true rfl) dX8_appendFactor_16 ⟨Nat.zero_le _, Nat.zero_le _⟩ hS (fun q h => h) (fun H1 locs hp hz hk hS => ?_)
        have hw1 := hp.congr (w2 := zExt w n w i) (fun x h1x h2x => by rw [zExt_step (k := k) (by omega) x h2x, e13])
        refine zv_iinc (lv' := [(4, .int (zI (k + 1))), (0, .ref h), (1, .ref h), (2, .int (zI i)), (3, .int (zI j))]) hx hb dX8_appendFactor_19 hl (k := 4) rfl (by decide) rfl (fun ls hl => ?_)
        refine lv_goto (tgt := 3) hx hb dX8_appendFactor_22 (by decide) ?_
        exact ih3 (k + 1) _ _ (by omega) (by rw [show n + (k + 1 - i) = n + (k - i) + 1 by omega]; exact hw1) (hS) (by omega) _ (lv_sub hl [1, 2, 3, 4, 0] rfl)
  exact lp3 _ i _ _ (by omega) (by rw [show n + (i - i) = n by omega]; exact hpic.congr (n := n) (fun x h1x h2x => zExt_lo h2x)) (hS) (Nat.lt_succ_self _) _ (lv_sub hl [1, 2, 3, 4, 0] rfl)

set_option maxHeartbeats 4000000 in
set_option maxRecDepth 100000 in
/-- Word.copyFrom(other) -/
theorem kX8_copyFrom (l : Launch) (g : zG) (h a : Nat) (w : Int → Int) (n : Int) (h2 a2 : Nat) (o : Int → Int) (q : Int) (hd : h2 ≠ h ∧ h2 ≠ a ∧ a2 ≠ h ∧ a2 ≠ a) : Met l yX8_copyFrom wsX8_copyFrom (zRm 2 45) (zP g [.ref h, .ref h2] (fun H => PW g h a w n H ∧ PW g h2 a2 o q H)) (zQv (fun H => PW g h a o q H) (zA2 h a)) 0 0 (zA2 h a) := by
  refine Met.ofZ (cc := cX8_copyFrom) (maxL := 2) (ret := none) (by decide) rfl (Nat.le_of_ble_eq_true rfl) ?_
  intro p e s m args below meth c ls hx hb hr hlocks S hin hK hpic hl
  have hown := S.2.2.2.1
  have hts := S.2.2.2.2
  have hl : lv_has ls 2 [(0, .ref h), (1, .ref h2)] := hl
  have hS : va_S (zA2 h a) s.heap s.heap [] := va_S.rf
  have hq := hpic.2.1
  refine lv_aload_n hx hb dX8_copyFrom_0 rfl (lv_at hl 0 rfl) ?_
  refine zc_VWv (As := []) (rest := []) S hK (kX8_clear l g h a w n) (cwV 0 hts gX8_copyFrom_X8_clear rfl rfl rfl (by decide +kernel) ⟨Nat.le_of_ble_eq_true rfl, Nat.le_of_ble_eq_true rfl⟩) (hpic.1) (hpic.1.recv hK) rfl hl.1 rfl (Nat.le_of_ble_eq_true rfl) dX8_copyFrom_1 ⟨Nat.zero_le _, Nat.zero_le _⟩ hS (fun q h => h) (fun H1 locs hp hz hk hS => ?_)
  have hw1 := hp
  have hw2 := hpic.2.frm hk (zA2_no hd.1 hd.2.1) (zA2_no hd.2.2.1 hd.2.2.2)
  refine lv_aload_n hx hb dX8_copyFrom_4 rfl (lv_at hl 0 rfl) ?_
  refine lv_aload_n hx hb dX8_copyFrom_5 rfl (lv_at hl 1 rfl) ?_
  refine zv_iconst hx hb dX8_copyFrom_6 ?_
  refine lv_aload_n hx hb dX8_copyFrom_7 rfl (lv_at hl 1 rfl) ?_
  refine zc_V (As := []) (rest := [.int (zI 0), .ref h2, .ref h]) S hK (kX8_length l g h2 a2 o q) (cwV 0 hts gX8_copyFrom_X8_length rfl rfl rfl (by decide +kernel) ⟨Nat.le_of_ble_eq_true rfl, Nat.le_of_ble_eq_true rfl⟩) (hw2) (hw2.recv hK) rfl hl.1 rfl (Nat.le_of_ble_eq_true rfl) dX8_copyFrom_8 ⟨Nat.zero_le _, Nat.zero_le _⟩ (fun r8 hr8 => ?_)
  obtain rfl := hr8
  refine zc_VWv (As := [.ref h2, .int (zI 0), .int (zI q)]) (rest := []) S hK (kX8_appendFactor l g h a w 0 h2 a2 o q hd 0 q (by omega)) (cwV 3 hts gX8_copyFrom_X8_appendFactor rfl rfl rfl (by decide +kernel) ⟨Nat.le_of_ble_eq_true rfl, Nat.le_of_ble_eq_true rfl⟩) (⟨hw1, hw2⟩) (hw1.recv hK) rfl hl.1 rfl (Nat.le_of_ble_eq_true rfl) dX8_copyFrom_11 ⟨Nat.zero_le _, Nat.zero_le _⟩ hS (fun q h => h) (fun H1 locs hp hz hk hS => ?_)
  have hw1 := (show PW g h a (zExt w 0 o 0) q H1 by have := hp; rw [show 0 + (q - 0) = q by omega] at this; exact this).congr (w2 := o) (fun x h1x h2x => by rw [zExt_hi h1x, show 0 + (x - 0) = x by omega])
  exact zw_v hx hb hr hlocks hS dX8_copyFrom_14 hw1

set_option maxHeartbeats 4000000 in
set_option maxRecDepth 100000 in
/-- Ends.howMany -/
theorem kX0_howMany (l : Launch) (g : zG) (h a : Nat) (w : Int → Int) (n : Int) (t k : Int) (ht : 1 ≤ k ∧ k ≤ t ∧ t ≤ n) : Met l yX0_howMany wsX0_howMany (zRm 2 45) (zP g [.ref h, .int (zI t), .int (zI k)] (PW g h a w n)) (vp_Si (fun r => ∃ z : Int, r = zI z ∧ z = zHow w n t k ∧ 0 ≤ z ∧ z ≤ 40)) 0 0 (fun _ => False) := by
  refine Met.ofZ (cc := cX0_howMany) (maxL := 5) (ret := (some .int)) (by decide) rfl (Nat.le_of_ble_eq_true rfl) ?_
  intro p e s m args below meth c ls hx hb hr hlocks S hin hK hpic hl
  have hown := S.2.2.2.1
  have hts := S.2.2.2.2
  have hl : lv_has ls 5 [(0, .ref h), (1, .int (zI t)), (2, .int (zI k))] := hl
  have hn := hpic.1
  refine zv_iconst hx hb dX0_howMany_0 ?_
  refine lv_istore_n (lv' := [(3, .int (zI 0)), (0, .ref h), (1, .int (zI t)), (2, .int (zI k))]) hx hb dX0_howMany_1 rfl hl (by decide) rfl (fun ls hl => ?_)
  refine zv_iconst hx hb dX0_howMany_2 ?_
  refine lv_istore (lv' := [(4, .int (zI 1)), (3, .int (zI 0)), (0, .ref h), (1, .int (zI t)), (2, .int (zI k))]) hx hb dX0_howMany_3 hl (by decide) rfl (fun ls hl => ?_)
  have lp5 : ∀ (z_f : Nat) (o : Int) (q : Int), (1 ≤ q ∧ q ≤ n + 1 ∧ 0 ≤ o ∧ o < q) → (o = zC (fun q => k ≤ zAA w t q) 1 q) → ((n + 1 - q).toNat) < z_f → ∀ (ls : Array Slot), lv_has ls 5 [(0, .ref h), (1, .int (zI t)), (2, .int (zI k)), (3, .int (zI o)), (4, .int (zI q))] → W p l e (zRm 2 45) s m args below meth c s.heap [] 0 0 (MQ below (vp_Si (fun r => ∃ z : Int, r = zI z ∧ z = zHow w n t k ∧ 0 ≤ z ∧ z ≤ 40)) args s 0 0 (fun _ => False)) (F0 m 5 ls []) := by
    intro z_f
    induction z_f with
    | zero => intro o q h0 h1 z_m; exact absurd z_m (Nat.not_lt_zero _)
    | succ z_f ih5 =>
      intro o q h0 h1 z_m5 ls hl
      refine lv_iload hx hb dX0_howMany_5 (lv_at hl 4 rfl) ?_
      refine lv_aload_n hx hb dX0_howMany_7 rfl (lv_at hl 0 rfl) ?_
      refine zc_V (As := []) (rest := [.int (zI q)]) S hK (kX8_length l g h a w n) (cwV 0 hts gX0_howMany_X8_length rfl rfl rfl (by decide +kernel) ⟨Nat.le_of_ble_eq_true rfl, Nat.le_of_ble_eq_true rfl⟩) (hpic) (hpic.recv hK) rfl hl.1 rfl (Nat.le_of_ble_eq_true rfl) dX0_howMany_8 ⟨Nat.zero_le _, Nat.zero_le _⟩ (fun r8 hr8 => ?_)
      obtain rfl := hr8
      refine zv_icmp_gt (tgt := 34) hx hb dX0_howMany_11 (by decide) (by omega) (by omega) (fun c11 => ?_) (fun c11 => ?_)
      · have e9 : o = zHow w n t k := by rw [h1, show q = n + 1 by omega]; rfl
        refine lv_iload_n hx hb dX0_howMany_34 rfl (lv_at hl 3 rfl) ?_
        exact zr_i hx hb hr hlocks dX0_howMany_35 (⟨_, rfl, e9, by omega, by omega⟩)
      · refine lv_aload_n hx hb dX0_howMany_14 rfl (lv_at hl 0 rfl) ?_
        refine lv_iload_n hx hb dX0_howMany_15 rfl (lv_at hl 1 rfl) ?_
        refine lv_iload hx hb dX0_howMany_16 (lv_at hl 4 rfl) ?_
        refine zc_V (As := [.int (zI t), .int (zI q)]) (rest := []) S hK (kX8_alikeAhead l g h a w n t q (by omega) (by omega)) (cwV 2 hts gX0_howMany_X8_alikeAhead rfl rfl rfl (by decide +kernel) ⟨Nat.le_of_ble_eq_true rfl, Nat.le_of_ble_eq_true rfl⟩) (hpic) (hpic.recv hK) rfl hl.1 rfl (Nat.le_of_ble_eq_true rfl) dX0_howMany_18 ⟨Nat.zero_le _, Nat.zero_le _⟩ (fun r18 hr18 => ?_)
        obtain ⟨z18, rfl, hz18⟩ := hr18
        refine lv_iload_n hx hb dX0_howMany_21 rfl (lv_at hl 2 rfl) ?_
        refine zv_icmp_lt (tgt := 28) hx hb dX0_howMany_22 (by decide) (by omega) (by omega) (fun c22 => ?_) (fun c22 => ?_)
        · refine zv_iinc (lv' := [(4, .int (zI (q + 1))), (0, .ref h), (1, .int (zI t)), (2, .int (zI k)), (3, .int (zI o))]) hx hb dX0_howMany_28 hl (k := 4) rfl (by decide) rfl (fun ls hl => ?_)
          refine lv_goto (tgt := 5) hx hb dX0_howMany_31 (by decide) ?_
          exact ih5 o (q + 1) (by omega) (by rw [zC_f (P := fun q => k ≤ zAA w t q) (b := q) (by omega) (by omega)]; omega) (by omega) _ (lv_sub hl [1, 2, 3, 4, 0] rfl)
        · refine zv_iinc (lv' := [(3, .int (zI (o + 1))), (0, .ref h), (1, .int (zI t)), (2, .int (zI k)), (4, .int (zI q))]) hx hb dX0_howMany_25 hl (k := 3) rfl (by decide) rfl (fun ls hl => ?_)
          refine zv_iinc (lv' := [(4, .int (zI (q + 1))), (3, .int (zI (o + 1))), (0, .ref h), (1, .int (zI t)), (2, .int (zI k))]) hx hb dX0_howMany_28 hl (k := 4) rfl (by decide) rfl (fun ls hl => ?_)
          refine lv_goto (tgt := 5) hx hb dX0_howMany_31 (by decide) ?_
          exact ih5 (o + 1) (q + 1) (by omega) (by rw [zC_t (P := fun q => k ≤ zAA w t q) (b := q) (by omega) (by omega)]; omega) (by omega) _ (lv_sub hl [2, 3, 4, 1, 0] rfl)
  exact lp5 _ 0 1 (by omega) ((zC_nil _ (by omega)).symm) (Nat.lt_succ_self _) _ (lv_sub hl [2, 3, 4, 1, 0] rfl)

set_option maxHeartbeats 4000000 in
set_option maxRecDepth 100000 in
/-- Ends.first -/
theorem kX0_first (l : Launch) (g : zG) (h a : Nat) (w : Int → Int) (n : Int) (t k : Int) (ht : 1 ≤ k ∧ k ≤ t ∧ t ≤ n) : Met l yX0_first wsX0_first (zRm 2 45) (zP g [.ref h, .int (zI t), .int (zI k)] (PW g h a w n)) (vp_Si (fun r => ∃ z : Int, r = zI z ∧ z = zFst w t k ∧ 0 ≤ z ∧ z ≤ 40)) 0 0 (fun _ => False) := by
  refine Met.ofZ (cc := cX0_first) (maxL := 5) (ret := (some .int)) (by decide) rfl (Nat.le_of_ble_eq_true rfl) ?_
  intro p e s m args below meth c ls hx hb hr hlocks S hin hK hpic hl
  have hown := S.2.2.2.1
  have hts := S.2.2.2.2
  have hl : lv_has ls 5 [(0, .ref h), (1, .int (zI t)), (2, .int (zI k))] := hl
  have hn := hpic.1
  refine lv_iload_n hx hb dX0_first_0 rfl (lv_at hl 1 rfl) ?_
  refine lv_istore_n (lv' := [(3, .int (zI t)), (0, .ref h), (1, .int (zI t)), (2, .int (zI k))]) hx hb dX0_first_1 rfl hl (by decide) rfl (fun ls hl => ?_)
  refine lv_iload_n hx hb dX0_first_2 rfl (lv_at hl 2 rfl) ?_
  refine zv_iconst hx hb dX0_first_3 ?_
  refine zv_isub hx hb dX0_first_4 ?_
  refine lv_istore (lv' := [(4, .int (zI (t - 1))), (3, .int (zI t)), (0, .ref h), (1, .int (zI t)), (2, .int (zI k))]) hx hb dX0_first_5 hl (by decide) rfl (fun ls hl => ?_)
  have lp7 : ∀ (z_f : Nat) (o : Int) (q : Int), (k - 1 ≤ q ∧ q < o ∧ o ≤ t) → (k ≤ zAA w t o) → (∀ x, q < x → x < o → ¬ k ≤ zAA w t x) → ((q + 1).toNat) < z_f → ∀ (ls : Array Slot), lv_has ls 5 [(0, .ref h), (1, .int (zI t)), (2, .int (zI k)), (3, .int (zI o)), (4, .int (zI q))] → W p l e (zRm 2 45) s m args below meth c s.heap [] 0 0 (MQ below (vp_Si (fun r => ∃ z : Int, r = zI z ∧ z = zFst w t k ∧ 0 ≤ z ∧ z ≤ 40)) args s 0 0 (fun _ => False)) (F0 m 7 ls []) := by
    intro z_f
    induction z_f with
    | zero => intro o q h0 h1 h2 z_m; exact absurd z_m (Nat.not_lt_zero _)
    | succ z_f ih7 =>
      intro o q h0 h1 h2 z_m7 ls hl
      refine lv_iload hx hb dX0_first_7 (lv_at hl 4 rfl) ?_
      refine lv_iload_n hx hb dX0_first_9 rfl (lv_at hl 2 rfl) ?_
      refine zv_icmp_lt (tgt := 33) hx hb dX0_first_10 (by decide) (by omega) (by omega) (fun c10 => ?_) (fun c10 => ?_)
      · have e9 : zFst w t k = o := zFst_un ⟨by omega, by omega, h1, fun x h1x h2x => h2 x (by omega) h2x⟩
        refine lv_iload_n hx hb dX0_first_33 rfl (lv_at hl 3 rfl) ?_
        exact zr_i hx hb hr hlocks dX0_first_34 (⟨_, rfl, e9.symm, by omega, by omega⟩)
      · refine lv_aload_n hx hb dX0_first_13 rfl (lv_at hl 0 rfl) ?_
        refine lv_iload_n hx hb dX0_first_14 rfl (lv_at hl 1 rfl) ?_
        refine lv_iload hx hb dX0_first_15 (lv_at hl 4 rfl) ?_
        refine zc_V (As := [.int (zI t), .int (zI q)]) (rest := []) S hK (kX8_alikeAhead l g h a w n t q (by omega) (by omega)) (cwV 2 hts gX0_first_X8_alikeAhead rfl rfl rfl (by decide +kernel) ⟨Nat.le_of_ble_eq_true rfl, Nat.le_of_ble_eq_true rfl⟩) (hpic) (hpic.recv hK) rfl hl.1 rfl (Nat.le_of_ble_eq_true rfl) dX0_first_17 ⟨Nat.zero_le _, Nat.zero_le _⟩ (fun r17 hr17 => ?_)
        obtain ⟨z17, rfl, hz17⟩ := hr17
        refine lv_iload_n hx hb dX0_first_20 rfl (lv_at hl 2 rfl) ?_
        refine zv_icmp_lt (tgt := 27) hx hb dX0_first_21 (by decide) (by omega) (by omega) (fun c21 => ?_) (fun c21 => ?_)
        · refine zv_iinc (lv' := [(4, .int (zI (q + (-1)))), (0, .ref h), (1, .int (zI t)), (2, .int (zI k)), (3, .int (zI o))]) hx hb dX0_first_27 hl (k := 4) rfl (by decide) rfl (fun ls hl => ?_)
          refine lv_goto (tgt := 7) hx hb dX0_first_30 (by decide) ?_
          exact ih7 o (q + (-1)) (by omega) (h1) (fun x h1x h2x => (show x = q ∨ q < x by omega).elim (fun h8 => by subst h8; omega) (fun h8 => by exact h2 x h8 h2x)) (by omega) _ (lv_sub hl [1, 2, 3, 4, 0] rfl)
        · refine lv_iload hx hb dX0_first_24 (lv_at hl 4 rfl) ?_
          refine lv_istore_n (lv' := [(3, .int (zI q)), (0, .ref h), (1, .int (zI t)), (2, .int (zI k)), (4, .int (zI q))]) hx hb dX0_first_26 rfl hl (by decide) rfl (fun ls hl => ?_)
          refine zv_iinc (lv' := [(4, .int (zI (q + (-1)))), (3, .int (zI q)), (0, .ref h), (1, .int (zI t)), (2, .int (zI k))]) hx hb dX0_first_27 hl (k := 4) rfl (by decide) rfl (fun ls hl => ?_)
          refine lv_goto (tgt := 7) hx hb dX0_first_30 (by decide) ?_
          exact ih7 q (q + (-1)) (by omega) (by omega) (fun x h1x h2x => absurd h2x (by omega)) (by omega) _ (lv_sub hl [2, 3, 4, 1, 0] rfl)
  exact lp7 _ t (t - 1) (by omega) (by rw [zAA_self w (by omega)]; omega) (fun x h1x h2x => absurd h2x (by omega)) (Nat.lt_succ_self _) _ (lv_sub hl [2, 3, 4, 1, 0] rfl)

set_option maxHeartbeats 4000000 in
set_option maxRecDepth 100000 in
/-- Ends.last -/
theorem kX0_last (l : Launch) (g : zG) (h a : Nat) (w : Int → Int) (n : Int) (t k : Int) (ht : 1 ≤ k ∧ k ≤ t ∧ t ≤ n) : Met l yX0_last wsX0_last (zRm 2 45) (zP g [.ref h, .int (zI t), .int (zI k)] (PW g h a w n)) (vp_Si (fun r => ∃ z : Int, r = zI z ∧ z = zLst w n t k ∧ 0 ≤ z ∧ z ≤ 40)) 0 0 (fun _ => False) := by
  refine Met.ofZ (cc := cX0_last) (maxL := 5) (ret := (some .int)) (by decide) rfl (Nat.le_of_ble_eq_true rfl) ?_
  intro p e s m args below meth c ls hx hb hr hlocks S hin hK hpic hl
  have hown := S.2.2.2.1
  have hts := S.2.2.2.2
  have hl : lv_has ls 5 [(0, .ref h), (1, .int (zI t)), (2, .int (zI k))] := hl
  have hn := hpic.1
  refine lv_iload_n hx hb dX0_last_0 rfl (lv_at hl 1 rfl) ?_
  refine lv_istore_n (lv' := [(3, .int (zI t)), (0, .ref h), (1, .int (zI t)), (2, .int (zI k))]) hx hb dX0_last_1 rfl hl (by decide) rfl (fun ls hl => ?_)
  refine lv_iload_n hx hb dX0_last_2 rfl (lv_at hl 2 rfl) ?_
  refine zv_iconst hx hb dX0_last_3 ?_
  refine zv_iadd hx hb dX0_last_4 ?_
  refine lv_istore (lv' := [(4, .int (zI (t + 1))), (3, .int (zI t)), (0, .ref h), (1, .int (zI t)), (2, .int (zI k))]) hx hb dX0_last_5 hl (by decide) rfl (fun ls hl => ?_)
  have lp7 : ∀ (z_f : Nat) (o : Int) (q : Int), (t ≤ o ∧ o < q ∧ q ≤ n + 1) → (k ≤ zAA w t o) → (∀ x, o < x → x < q → ¬ k ≤ zAA w t x) → ((n + 1 - q).toNat) < z_f → ∀ (ls : Array Slot), lv_has ls 5 [(0, .ref h), (1, .int (zI t)), (2, .int (zI k)), (3, .int (zI o)), (4, .int (zI q))] → W p l e (zRm 2 45) s m args below meth c s.heap [] 0 0 (MQ below (vp_Si (fun r => ∃ z : Int, r = zI z ∧ z = zLst w n t k ∧ 0 ≤ z ∧ z ≤ 40)) args s 0 0 (fun _ => False)) (F0 m 7 ls []) := by
    intro z_f
    induction z_f with
    | zero => intro o q h0 h1 h2 z_m; exact absurd z_m (Nat.not_lt_zero _)
    | succ z_f ih7 =>
      intro o q h0 h1 h2 z_m7 ls hl
      refine lv_iload hx hb dX0_last_7 (lv_at hl 4 rfl) ?_
      refine lv_aload_n hx hb dX0_last_9 rfl (lv_at hl 0 rfl) ?_
      refine zc_V (As := []) (rest := [.int (zI q)]) S hK (kX8_length l g h a w n) (cwV 0 hts gX0_last_X8_length rfl rfl rfl (by decide +kernel) ⟨Nat.le_of_ble_eq_true rfl, Nat.le_of_ble_eq_true rfl⟩) (hpic) (hpic.recv hK) rfl hl.1 rfl (Nat.le_of_ble_eq_true rfl) dX0_last_10 ⟨Nat.zero_le _, Nat.zero_le _⟩ (fun r10 hr10 => ?_)
      obtain rfl := hr10
      refine zv_icmp_gt (tgt := 36) hx hb dX0_last_13 (by decide) (by omega) (by omega) (fun c13 => ?_) (fun c13 => ?_)
      · have e9 : zLst w n t k = o := zLst_un ⟨by omega, by omega, h1, fun x h1x h2x => h2 x h1x (by omega)⟩
        refine lv_iload_n hx hb dX0_last_36 rfl (lv_at hl 3 rfl) ?_
        exact zr_i hx hb hr hlocks dX0_last_37 (⟨_, rfl, e9.symm, by omega, by omega⟩)
      · refine lv_aload_n hx hb dX0_last_16 rfl (lv_at hl 0 rfl) ?_
        refine lv_iload_n hx hb dX0_last_17 rfl (lv_at hl 1 rfl) ?_
        refine lv_iload hx hb dX0_last_18 (lv_at hl 4 rfl) ?_
        refine zc_V (As := [.int (zI t), .int (zI q)]) (rest := []) S hK (kX8_alikeAhead l g h a w n t q (by omega) (by omega)) (cwV 2 hts gX0_last_X8_alikeAhead rfl rfl rfl (by decide +kernel) ⟨Nat.le_of_ble_eq_true rfl, Nat.le_of_ble_eq_true rfl⟩) (hpic) (hpic.recv hK) rfl hl.1 rfl (Nat.le_of_ble_eq_true rfl) dX0_last_20 ⟨Nat.zero_le _, Nat.zero_le _⟩ (fun r20 hr20 => ?_)
        obtain ⟨z20, rfl, hz20⟩ := hr20
        refine lv_iload_n hx hb dX0_last_23 rfl (lv_at hl 2 rfl) ?_
        refine zv_icmp_lt (tgt := 30) hx hb dX0_last_24 (by decide) (by omega) (by omega) (fun c24 => ?_) (fun c24 => ?_)
        · refine zv_iinc (lv' := [(4, .int (zI (q + 1))), (0, .ref h), (1, .int (zI t)), (2, .int (zI k)), (3, .int (zI o))]) hx hb dX0_last_30 hl (k := 4) rfl (by decide) rfl (fun ls hl => ?_)
          refine lv_goto (tgt := 7) hx hb dX0_last_33 (by decide) ?_
          exact ih7 o (q + 1) (by omega) (h1) (fun x h1x h2x => (show x = q ∨ x < q by omega).elim (fun h8 => by subst h8; omega) (fun h8 => by exact h2 x h1x h8)) (by omega) _ (lv_sub hl [1, 2, 3, 4, 0] rfl)
        · refine lv_iload hx hb dX0_last_27 (lv_at hl 4 rfl) ?_
          refine lv_istore_n (lv' := [(3, .int (zI q)), (0, .ref h), (1, .int (zI t)), (2, .int (zI k)), (4, .int (zI q))]) hx hb dX0_last_29 rfl hl (by decide) rfl (fun ls hl => ?_)
          refine zv_iinc (lv' := [(4, .int (zI (q + 1))), (3, .int (zI q)), (0, .ref h), (1, .int (zI t)), (2, .int (zI k))]) hx hb dX0_last_30 hl (k := 4) rfl (by decide) rfl (fun ls hl => ?_)
          refine lv_goto (tgt := 7) hx hb dX0_last_33 (by decide) ?_
          exact ih7 q (q + 1) (by omega) (by omega) (fun x h1x h2x => absurd h2x (by omega)) (by omega) _ (lv_sub hl [2, 3, 4, 1, 0] rfl)
  exact lp7 _ t (t + 1) (by omega) (by rw [zAA_self w (by omega)]; omega) (fun x h1x h2x => absurd h2x (by omega)) (Nat.lt_succ_self _) _ (lv_sub hl [2, 3, 4, 1, 0] rfl)

theorem mX0_longestOfClass_0 : (Cond.methodLink RX0 17 Lib.Math.min.name) ∈ wsX0_longestOfClass := by decide +kernel
theorem mX0_longestOfClass_1 : (Cond.static Lib.Math.min.name) ∈ wsX0_longestOfClass := by decide +kernel
theorem mX0_longestOfClass_2 : (Cond.initialized "java/lang/Math") ∈ wsX0_longestOfClass := by decide +kernel
theorem mX0_longestOfClass_3 : (Cond.code Lib.Math.min.name Lib.Math.min.code 2 (some .int)) ∈ wsX0_longestOfClass := by decide +kernel
set_option maxHeartbeats 4000000 in
set_option maxRecDepth 100000 in
/-- Ends.longestOfClass -/
theorem kX0_longestOfClass (l : Launch) (g : zG) (h a : Nat) (w : Int → Int) (n : Int) (t k : Int) (ht : 1 ≤ k ∧ k ≤ t ∧ t ≤ n) : Met l yX0_longestOfClass wsX0_longestOfClass (zRm 2 45) (zP g [.ref h, .int (zI t), .int (zI k)] (PW g h a w n)) (vp_Si (fun r => ∃ z : Int, r = zI z ∧ z = zLC w n t k ∧ 0 ≤ z ∧ z ≤ 40)) 0 0 (fun _ => False) := by
  refine Met.ofZ (cc := cX0_longestOfClass) (maxL := 6) (ret := (some .int)) (by decide) rfl (Nat.le_of_ble_eq_true rfl) ?_
  intro p e s m args below meth c ls hx hb hr hlocks S hin hK hpic hl
  have hown := S.2.2.2.1
  have hts := S.2.2.2.2
  have hl : lv_has ls 6 [(0, .ref h), (1, .int (zI t)), (2, .int (zI k))] := hl
  have hn := hpic.1
  refine lv_iload_n hx hb dX0_longestOfClass_0 rfl (lv_at hl 1 rfl) ?_
  refine lv_istore_n (lv' := [(3, .int (zI t)), (0, .ref h), (1, .int (zI t)), (2, .int (zI k))]) hx hb dX0_longestOfClass_1 rfl hl (by decide) rfl (fun ls hl => ?_)
  refine zv_iconst hx hb dX0_longestOfClass_2 ?_
  refine lv_istore (lv' := [(4, .int (zI 1)), (3, .int (zI t)), (0, .ref h), (1, .int (zI t)), (2, .int (zI k))]) hx hb dX0_longestOfClass_3 hl (by decide) rfl (fun ls hl => ?_)
  have lp5 : ∀ (z_f : Nat) (o : Int) (q : Int), (1 ≤ q ∧ q ≤ n + 1 ∧ k ≤ o ∧ o ≤ t) → (∃ x, 1 ≤ x ∧ x ≤ n ∧ zAA w t x = o) → (∀ x, 1 ≤ x → x < q → k ≤ zAA w t x → o ≤ zAA w t x) → ((n + 1 - q).toNat) < z_f → ∀ (ls : Array Slot), lv_has ls 6 [(0, .ref h), (1, .int (zI t)), (2, .int (zI k)), (3, .int (zI o)), (4, .int (zI q))] → W p l e (zRm 2 45) s m args below meth c s.heap [] 0 0 (MQ below (vp_Si (fun r => ∃ z : Int, r = zI z ∧ z = zLC w n t k ∧ 0 ≤ z ∧ z ≤ 40)) args s 0 0 (fun _ => False)) (F0 m 5 ls []) := by
    intro z_f
    induction z_f with
    | zero => intro o q h0 h1 h2 z_m; exact absurd z_m (Nat.not_lt_zero _)
    | succ z_f ih5 =>
      intro o q h0 h1 h2 z_m5 ls hl
      refine lv_iload hx hb dX0_longestOfClass_5 (lv_at hl 4 rfl) ?_
      refine lv_aload_n hx hb dX0_longestOfClass_7 rfl (lv_at hl 0 rfl) ?_
      refine zc_V (As := []) (rest := [.int (zI q)]) S hK (kX8_length l g h a w n) (cwV 0 hts gX0_longestOfClass_X8_length rfl rfl rfl (by decide +kernel) ⟨Nat.le_of_ble_eq_true rfl, Nat.le_of_ble_eq_true rfl⟩) (hpic) (hpic.recv hK) rfl hl.1 rfl (Nat.le_of_ble_eq_true rfl) dX0_longestOfClass_8 ⟨Nat.zero_le _, Nat.zero_le _⟩ (fun r8 hr8 => ?_)
      obtain rfl := hr8
      refine zv_icmp_gt (tgt := 42) hx hb dX0_longestOfClass_11 (by decide) (by omega) (by omega) (fun c11 => ?_) (fun c11 => ?_)
      · have e9 : zLC w n t k = o := zLC_un ⟨by omega, h1, fun x h1x h2x h3x => h2 x h1x (by omega) h3x⟩
        refine lv_iload_n hx hb dX0_longestOfClass_42 rfl (lv_at hl 3 rfl) ?_
        exact zr_i hx hb hr hlocks dX0_longestOfClass_43 (⟨_, rfl, e9.symm, by omega, by omega⟩)
      · refine lv_aload_n hx hb dX0_longestOfClass_14 rfl (lv_at hl 0 rfl) ?_
        refine lv_iload_n hx hb dX0_longestOfClass_15 rfl (lv_at hl 1 rfl) ?_
        refine lv_iload hx hb dX0_longestOfClass_16 (lv_at hl 4 rfl) ?_
        refine zc_V (As := [.int (zI t), .int (zI q)]) (rest := []) S hK (kX8_alikeAhead l g h a w n t q (by omega) (by omega)) (cwV 2 hts gX0_longestOfClass_X8_alikeAhead rfl rfl rfl (by decide +kernel) ⟨Nat.le_of_ble_eq_true rfl, Nat.le_of_ble_eq_true rfl⟩) (hpic) (hpic.recv hK) rfl hl.1 rfl (Nat.le_of_ble_eq_true rfl) dX0_longestOfClass_18 ⟨Nat.zero_le _, Nat.zero_le _⟩ (fun r18 hr18 => ?_)
        obtain ⟨z18, rfl, hz18⟩ := hr18
        refine lv_istore (lv' := [(5, .int (zI z18)), (0, .ref h), (1, .int (zI t)), (2, .int (zI k)), (3, .int (zI o)), (4, .int (zI q))]) hx hb dX0_longestOfClass_21 hl (by decide) rfl (fun ls hl => ?_)
        refine lv_iload hx hb dX0_longestOfClass_23 (lv_at hl 0 rfl) ?_
        refine lv_iload_n hx hb dX0_longestOfClass_25 rfl (lv_at hl 3 rfl) ?_
        refine zv_icmp_lt (tgt := 36) hx hb dX0_longestOfClass_26 (by decide) (by omega) (by omega) (fun c26 => ?_) (fun c26 => ?_)
        · refine zv_iinc (lv' := [(4, .int (zI (q + 1))), (5, .int (zI z18)), (0, .ref h), (1, .int (zI t)), (2, .int (zI k)), (3, .int (zI o))]) hx hb dX0_longestOfClass_36 hl (k := 5) rfl (by decide) rfl (fun ls hl => ?_)
          refine lv_goto (tgt := 5) hx hb dX0_longestOfClass_39 (by decide) ?_
          exact ih5 o (q + 1) (by omega) (h1) (fun x h1x h2x h3x => (show x = q ∨ x < q by omega).elim (fun h8 => by subst h8; omega) (fun h8 => by exact h2 x h1x h8 h3x)) (by omega) _ (lv_sub hl [2, 3, 4, 5, 0] rfl)
        · refine lv_iload_n hx hb dX0_longestOfClass_29 rfl (lv_at hl 4 rfl) ?_
          refine lv_iload hx hb dX0_longestOfClass_30 (lv_at hl 0 rfl) ?_
          refine zv_mmin hx hb (S.2.2.1.trans hl.1.symm) hown (hts _ mX0_longestOfClass_0) (hts _ mX0_longestOfClass_1) (hts _ mX0_longestOfClass_2) (hts _ mX0_longestOfClass_3) (Nat.le_of_ble_eq_true rfl) (Nat.le_of_ble_eq_true rfl) (Nat.zero_le _) (Nat.zero_le _) (by omega) (by omega) dX0_longestOfClass_32 ?_
          refine lv_istore_n (lv' := [(3, .int (zI (min o z18))), (5, .int (zI z18)), (0, .ref h), (1, .int (zI t)), (2, .int (zI k)), (4, .int (zI q))]) hx hb dX0_longestOfClass_35 rfl hl (by decide) rfl (fun ls hl => ?_)
          refine zv_iinc (lv' := [(4, .int (zI (q + 1))), (3, .int (zI (min o z18))), (5, .int (zI z18)), (0, .ref h), (1, .int (zI t)), (2, .int (zI k))]) hx hb dX0_longestOfClass_36 hl (k := 5) rfl (by decide) rfl (fun ls hl => ?_)
          refine lv_goto (tgt := 5) hx hb dX0_longestOfClass_39 (by decide) ?_
          exact ih5 (min o z18) (q + 1) (by omega) ((show min o z18 = o ∨ min o z18 = z18 by omega).elim (fun h8 => by rw [h8]; exact h1) (fun h8 => by rw [h8]; exact ⟨q, by omega, by omega, by omega⟩)) (fun x h1x h2x h3x => (show x = q ∨ x < q by omega).elim (fun h8 => by subst h8; omega) (fun h8 => by have := h2 x h1x h8 h3x; omega)) (by omega) _ (lv_sub hl [3, 4, 5, 1, 0] rfl)
  exact lp5 _ t 1 (by omega) (⟨t, by omega, by omega, zAA_self w (by omega)⟩) (fun x h1x h2x => absurd h2x (by omega)) (Nat.lt_succ_self _) _ (lv_sub hl [2, 3, 4, 1, 0] rfl)

theorem mX0_longestOfLink_0 : (Cond.methodLink RX0 28 Lib.Math.max.name) ∈ wsX0_longestOfLink := by decide +kernel
theorem mX0_longestOfLink_1 : (Cond.static Lib.Math.max.name) ∈ wsX0_longestOfLink := by decide +kernel
theorem mX0_longestOfLink_2 : (Cond.initialized "java/lang/Math") ∈ wsX0_longestOfLink := by decide +kernel
theorem mX0_longestOfLink_3 : (Cond.code Lib.Math.max.name Lib.Math.max.code 2 (some .int)) ∈ wsX0_longestOfLink := by decide +kernel
set_option maxHeartbeats 4000000 in
set_option maxRecDepth 100000 in
/-- Ends.longestOfLink -/
theorem kX0_longestOfLink (l : Launch) (g : zG) (h a : Nat) (w : Int → Int) (n : Int) (t k : Int) (ht : 1 ≤ k ∧ k ≤ t ∧ t ≤ n) : Met l yX0_longestOfLink wsX0_longestOfLink (zRm 2 45) (zP g [.ref h, .int (zI t), .int (zI k)] (PW g h a w n)) (vp_Si (fun r => ∃ z : Int, r = zI z ∧ z = zLL w n t k ∧ 0 ≤ z ∧ z < k)) 0 0 (fun _ => False) := by
  refine Met.ofZ (cc := cX0_longestOfLink) (maxL := 6) (ret := (some .int)) (by decide) rfl (Nat.le_of_ble_eq_true rfl) ?_
  intro p e s m args below meth c ls hx hb hr hlocks S hin hK hpic hl
  have hown := S.2.2.2.1
  have hts := S.2.2.2.2
  have hl : lv_has ls 6 [(0, .ref h), (1, .int (zI t)), (2, .int (zI k))] := hl
  have hn := hpic.1
  refine zv_iconst hx hb dX0_longestOfLink_0 ?_
  refine lv_istore_n (lv' := [(3, .int (zI 0)), (0, .ref h), (1, .int (zI t)), (2, .int (zI k))]) hx hb dX0_longestOfLink_1 rfl hl (by decide) rfl (fun ls hl => ?_)
  refine zv_iconst hx hb dX0_longestOfLink_2 ?_
  refine lv_istore (lv' := [(4, .int (zI 1)), (3, .int (zI 0)), (0, .ref h), (1, .int (zI t)), (2, .int (zI k))]) hx hb dX0_longestOfLink_3 hl (by decide) rfl (fun ls hl => ?_)
  have lp5 : ∀ (z_f : Nat) (o : Int) (q : Int), (1 ≤ q ∧ q ≤ n + 1 ∧ 0 ≤ o ∧ o < k) → (o = zM (fun q => @ite _ (zAA w t q < k) (Classical.propDecidable _) (zAA w t q) 0) 1 q) → ((n + 1 - q).toNat) < z_f → ∀ (ls : Array Slot), lv_has ls 6 [(0, .ref h), (1, .int (zI t)), (2, .int (zI k)), (3, .int (zI o)), (4, .int (zI q))] → W p l e (zRm 2 45) s m args below meth c s.heap [] 0 0 (MQ below (vp_Si (fun r => ∃ z : Int, r = zI z ∧ z = zLL w n t k ∧ 0 ≤ z ∧ z < k)) args s 0 0 (fun _ => False)) (F0 m 5 ls []) := by
    intro z_f
    induction z_f with
    | zero => intro o q h0 h1 z_m; exact absurd z_m (Nat.not_lt_zero _)
    | succ z_f ih5 =>
      intro o q h0 h1 z_m5 ls hl
      refine lv_iload hx hb dX0_longestOfLink_5 (lv_at hl 4 rfl) ?_
      refine lv_aload_n hx hb dX0_longestOfLink_7 rfl (lv_at hl 0 rfl) ?_
      refine zc_V (As := []) (rest := [.int (zI q)]) S hK (kX8_length l g h a w n) (cwV 0 hts gX0_longestOfLink_X8_length rfl rfl rfl (by decide +kernel) ⟨Nat.le_of_ble_eq_true rfl, Nat.le_of_ble_eq_true rfl⟩) (hpic) (hpic.recv hK) rfl hl.1 rfl (Nat.le_of_ble_eq_true rfl) dX0_longestOfLink_8 ⟨Nat.zero_le _, Nat.zero_le _⟩ (fun r8 hr8 => ?_)
      obtain rfl := hr8
      refine zv_icmp_gt (tgt := 42) hx hb dX0_longestOfLink_11 (by decide) (by omega) (by omega) (fun c11 => ?_) (fun c11 => ?_)
      · have e9 : o = zLL w n t k := by rw [h1, show q = n + 1 by omega]; rfl
        refine lv_iload_n hx hb dX0_longestOfLink_42 rfl (lv_at hl 3 rfl) ?_
        exact zr_i hx hb hr hlocks dX0_longestOfLink_43 (⟨_, rfl, e9, by omega, by omega⟩)
      · refine lv_aload_n hx hb dX0_longestOfLink_14 rfl (lv_at hl 0 rfl) ?_
        refine lv_iload_n hx hb dX0_longestOfLink_15 rfl (lv_at hl 1 rfl) ?_
        refine lv_iload hx hb dX0_longestOfLink_16 (lv_at hl 4 rfl) ?_
        refine zc_V (As := [.int (zI t), .int (zI q)]) (rest := []) S hK (kX8_alikeAhead l g h a w n t q (by omega) (by omega)) (cwV 2 hts gX0_longestOfLink_X8_alikeAhead rfl rfl rfl (by decide +kernel) ⟨Nat.le_of_ble_eq_true rfl, Nat.le_of_ble_eq_true rfl⟩) (hpic) (hpic.recv hK) rfl hl.1 rfl (Nat.le_of_ble_eq_true rfl) dX0_longestOfLink_18 ⟨Nat.zero_le _, Nat.zero_le _⟩ (fun r18 hr18 => ?_)
        obtain ⟨z18, rfl, hz18⟩ := hr18
        refine lv_istore (lv' := [(5, .int (zI z18)), (0, .ref h), (1, .int (zI t)), (2, .int (zI k)), (3, .int (zI o)), (4, .int (zI q))]) hx hb dX0_longestOfLink_21 hl (by decide) rfl (fun ls hl => ?_)
        refine lv_iload hx hb dX0_longestOfLink_23 (lv_at hl 0 rfl) ?_
        refine lv_iload_n hx hb dX0_longestOfLink_25 rfl (lv_at hl 3 rfl) ?_
        refine zv_icmp_ge (tgt := 36) hx hb dX0_longestOfLink_26 (by decide) (by omega) (by omega) (fun c26 => ?_) (fun c26 => ?_)
        · refine zv_iinc (lv' := [(4, .int (zI (q + 1))), (5, .int (zI z18)), (0, .ref h), (1, .int (zI t)), (2, .int (zI k)), (3, .int (zI o))]) hx hb dX0_longestOfLink_36 hl (k := 5) rfl (by decide) rfl (fun ls hl => ?_)
          refine lv_goto (tgt := 5) hx hb dX0_longestOfLink_39 (by decide) ?_
          exact ih5 o (q + 1) (by omega) (by rw [zLL_f (by omega) (by omega)]; exact h1) (by omega) _ (lv_sub hl [2, 3, 4, 5, 0] rfl)
        · refine lv_iload_n hx hb dX0_longestOfLink_29 rfl (lv_at hl 4 rfl) ?_
          refine lv_iload hx hb dX0_longestOfLink_30 (lv_at hl 0 rfl) ?_
          refine zv_mmax hx hb (S.2.2.1.trans hl.1.symm) hown (hts _ mX0_longestOfLink_0) (hts _ mX0_longestOfLink_1) (hts _ mX0_longestOfLink_2) (hts _ mX0_longestOfLink_3) (Nat.le_of_ble_eq_true rfl) (Nat.le_of_ble_eq_true rfl) (Nat.zero_le _) (Nat.zero_le _) (by omega) (by omega) dX0_longestOfLink_32 ?_
          refine lv_istore_n (lv' := [(3, .int (zI (max o z18))), (5, .int (zI z18)), (0, .ref h), (1, .int (zI t)), (2, .int (zI k)), (4, .int (zI q))]) hx hb dX0_longestOfLink_35 rfl hl (by decide) rfl (fun ls hl => ?_)
          refine zv_iinc (lv' := [(4, .int (zI (q + 1))), (3, .int (zI (max o z18))), (5, .int (zI z18)), (0, .ref h), (1, .int (zI t)), (2, .int (zI k))]) hx hb dX0_longestOfLink_36 hl (k := 5) rfl (by decide) rfl (fun ls hl => ?_)
          refine lv_goto (tgt := 5) hx hb dX0_longestOfLink_39 (by decide) ?_
          exact ih5 (max o z18) (q + 1) (by omega) (by rw [zLL_t (by omega) (by omega)]; omega) (by omega) _ (lv_sub hl [3, 4, 5, 1, 0] rfl)
  exact lp5 _ 0 1 (by omega) ((zM_nil _ (by omega)).symm) (Nat.lt_succ_self _) _ (lv_sub hl [2, 3, 4, 1, 0] rfl)

set_option maxHeartbeats 4000000 in
set_option maxRecDepth 100000 in
/-- Ends.shortestOfClass -/
theorem kX0_shortestOfClass (l : Launch) (g : zG) (h a : Nat) (w : Int → Int) (n : Int) (t k : Int) (ht : 1 ≤ k ∧ k ≤ t ∧ t ≤ n) : Met l yX0_shortestOfClass wsX0_shortestOfClass (zRm 3 70) (zP g [.ref h, .int (zI t), .int (zI k)] (PW g h a w n)) (vp_Si (fun r => ∃ z : Int, r = zI z ∧ z = zLL w n t k + 1 ∧ 0 ≤ z ∧ z ≤ 40)) 0 0 (fun _ => False) := by
  refine Met.ofZ (cc := cX0_shortestOfClass) (maxL := 3) (ret := (some .int)) (by decide) rfl (Nat.le_of_ble_eq_true rfl) ?_
  intro p e s m args below meth c ls hx hb hr hlocks S hin hK hpic hl
  have hown := S.2.2.2.1
  have hts := S.2.2.2.2
  have hl : lv_has ls 3 [(0, .ref h), (1, .int (zI t)), (2, .int (zI k))] := hl
  have hn := hpic.1
  refine lv_aload_n hx hb dX0_shortestOfClass_0 rfl (lv_at hl 0 rfl) ?_
  refine lv_iload_n hx hb dX0_shortestOfClass_1 rfl (lv_at hl 1 rfl) ?_
  refine lv_iload_n hx hb dX0_shortestOfClass_2 rfl (lv_at hl 2 rfl) ?_
  refine zc_S (As := [.ref h, .int (zI t), .int (zI k)]) (rest := []) S hK (kX0_longestOfLink l g h a w n t k (by omega)) (va_cwS 3 hts gX0_shortestOfClass_X0_longestOfLink rfl rfl rfl (by decide +kernel) ⟨Nat.le_of_ble_eq_true rfl, Nat.le_of_ble_eq_true rfl⟩) (hpic) rfl hl.1 rfl (Nat.le_of_ble_eq_true rfl) dX0_shortestOfClass_3 ⟨Nat.zero_le _, Nat.zero_le _⟩ (fun r3 hr3 => ?_)
  obtain ⟨z3, rfl, hz3⟩ := hr3
  refine zv_iconst hx hb dX0_shortestOfClass_6 ?_
  refine zv_iadd hx hb dX0_shortestOfClass_7 ?_
  exact zr_i hx hb hr hlocks dX0_shortestOfClass_8 (⟨_, rfl, by omega, by omega, by omega⟩)

theorem mX0_longestKnown_0 : (Cond.methodLink RX0 28 Lib.Math.max.name) ∈ wsX0_longestKnown := by decide +kernel
theorem mX0_longestKnown_1 : (Cond.static Lib.Math.max.name) ∈ wsX0_longestKnown := by decide +kernel
theorem mX0_longestKnown_2 : (Cond.initialized "java/lang/Math") ∈ wsX0_longestKnown := by decide +kernel
theorem mX0_longestKnown_3 : (Cond.code Lib.Math.max.name Lib.Math.max.code 2 (some .int)) ∈ wsX0_longestKnown := by decide +kernel
set_option maxHeartbeats 4000000 in
set_option maxRecDepth 100000 in
/-- Ends.longestKnown -/
theorem kX0_longestKnown (l : Launch) (g : zG) (h a : Nat) (w : Int → Int) (n : Int) (t : Int) (ht : 1 ≤ t ∧ t ≤ n) : Met l yX0_longestKnown wsX0_longestKnown (zRm 2 45) (zP g [.ref h, .int (zI t)] (PW g h a w n)) (vp_Si (fun r => ∃ z : Int, r = zI z ∧ z = zKn w t ∧ 0 ≤ z ∧ z < t)) 0 0 (fun _ => False) := by
  refine Met.ofZ (cc := cX0_longestKnown) (maxL := 4) (ret := (some .int)) (by decide) rfl (Nat.le_of_ble_eq_true rfl) ?_
  intro p e s m args below meth c ls hx hb hr hlocks S hin hK hpic hl
  have hown := S.2.2.2.1
  have hts := S.2.2.2.2
  have hl : lv_has ls 4 [(0, .ref h), (1, .int (zI t))] := hl
  have hn := hpic.1
  refine zv_iconst hx hb dX0_longestKnown_0 ?_
  refine lv_istore_n (lv' := [(2, .int (zI 0)), (0, .ref h), (1, .int (zI t))]) hx hb dX0_longestKnown_1 rfl hl (by decide) rfl (fun ls hl => ?_)
  refine zv_iconst hx hb dX0_longestKnown_2 ?_
  refine lv_istore_n (lv' := [(3, .int (zI 1)), (2, .int (zI 0)), (0, .ref h), (1, .int (zI t))]) hx hb dX0_longestKnown_3 rfl hl (by decide) rfl (fun ls hl => ?_)
  have lp4 : ∀ (z_f : Nat) (o : Int) (q : Int), (1 ≤ q ∧ q ≤ t ∧ 0 ≤ o ∧ o < q) → (o = zM (zAA w t) 1 q) → ((t - q).toNat) < z_f → ∀ (ls : Array Slot), lv_has ls 4 [(0, .ref h), (1, .int (zI t)), (2, .int (zI o)), (3, .int (zI q))] → W p l e (zRm 2 45) s m args below meth c s.heap [] 0 0 (MQ below (vp_Si (fun r => ∃ z : Int, r = zI z ∧ z = zKn w t ∧ 0 ≤ z ∧ z < t)) args s 0 0 (fun _ => False)) (F0 m 4 ls []) := by
    intro z_f
    induction z_f with
    | zero => intro o q h0 h1 z_m; exact absurd z_m (Nat.not_lt_zero _)
    | succ z_f ih4 =>
      intro o q h0 h1 z_m4 ls hl
      refine lv_iload_n hx hb dX0_longestKnown_4 rfl (lv_at hl 3 rfl) ?_
      refine lv_iload_n hx hb dX0_longestKnown_5 rfl (lv_at hl 1 rfl) ?_
      refine zv_icmp_ge (tgt := 26) hx hb dX0_longestKnown_6 (by decide) (by omega) (by omega) (fun c6 => ?_) (fun c6 => ?_)
      · have e9 : o = zKn w t := by rw [h1, show q = t by omega]; rfl
        refine lv_iload_n hx hb dX0_longestKnown_26 rfl (lv_at hl 2 rfl) ?_
        exact zr_i hx hb hr hlocks dX0_longestKnown_27 (⟨_, rfl, e9, by omega, by omega⟩)
      · refine lv_iload_n hx hb dX0_longestKnown_9 rfl (lv_at hl 2 rfl) ?_
        refine lv_aload_n hx hb dX0_longestKnown_10 rfl (lv_at hl 0 rfl) ?_
        refine lv_iload_n hx hb dX0_longestKnown_11 rfl (lv_at hl 1 rfl) ?_
        refine lv_iload_n hx hb dX0_longestKnown_12 rfl (lv_at hl 3 rfl) ?_
        refine zc_V (As := [.int (zI t), .int (zI q)]) (rest := [.int (zI o)]) S hK (kX8_alikeAhead l g h a w n t q (by omega) (by omega)) (cwV 2 hts gX0_longestKnown_X8_alikeAhead rfl rfl rfl (by decide +kernel) ⟨Nat.le_of_ble_eq_true rfl, Nat.le_of_ble_eq_true rfl⟩) (hpic) (hpic.recv hK) rfl hl.1 rfl (Nat.le_of_ble_eq_true rfl) dX0_longestKnown_13 ⟨Nat.zero_le _, Nat.zero_le _⟩ (fun r13 hr13 => ?_)
        obtain ⟨z13, rfl, hz13⟩ := hr13
        refine zv_mmax hx hb (S.2.2.1.trans hl.1.symm) hown (hts _ mX0_longestKnown_0) (hts _ mX0_longestKnown_1) (hts _ mX0_longestKnown_2) (hts _ mX0_longestKnown_3) (Nat.le_of_ble_eq_true rfl) (Nat.le_of_ble_eq_true rfl) (Nat.zero_le _) (Nat.zero_le _) (by omega) (by omega) dX0_longestKnown_16 ?_
        refine lv_istore_n (lv' := [(2, .int (zI (max o z13))), (0, .ref h), (1, .int (zI t)), (3, .int (zI q))]) hx hb dX0_longestKnown_19 rfl hl (by decide) rfl (fun ls hl => ?_)
        refine zv_iinc (lv' := [(3, .int (zI (q + 1))), (2, .int (zI (max o z13))), (0, .ref h), (1, .int (zI t))]) hx hb dX0_longestKnown_20 hl (k := 3) rfl (by decide) rfl (fun ls hl => ?_)
        refine lv_goto (tgt := 4) hx hb dX0_longestKnown_23 (by decide) ?_
        exact ih4 (max o z13) (q + 1) (by omega) (by rw [zM_succ _ (by omega)]; omega) (by omega) _ (lv_sub hl [2, 3, 1, 0] rfl)
  exact lp4 _ 0 1 (by omega) ((zM_nil _ (by omega)).symm) (Nat.lt_succ_self _) _ (lv_sub hl [2, 3, 1, 0] rfl)

theorem mX0_longestTwice_0 : (Cond.methodLink RX0 28 Lib.Math.max.name) ∈ wsX0_longestTwice := by decide +kernel
theorem mX0_longestTwice_1 : (Cond.static Lib.Math.max.name) ∈ wsX0_longestTwice := by decide +kernel
theorem mX0_longestTwice_2 : (Cond.initialized "java/lang/Math") ∈ wsX0_longestTwice := by decide +kernel
theorem mX0_longestTwice_3 : (Cond.code Lib.Math.max.name Lib.Math.max.code 2 (some .int)) ∈ wsX0_longestTwice := by decide +kernel
set_option maxHeartbeats 4000000 in
set_option maxRecDepth 100000 in
/-- Ends.longestTwice -/
theorem kX0_longestTwice (l : Launch) (g : zG) (h a : Nat) (w : Int → Int) (n : Int) : Met l yX0_longestTwice wsX0_longestTwice (zRm 3 68) (zP g [.ref h] (PW g h a w n)) (vp_Si (fun r => ∃ z : Int, r = zI z ∧ z = zTw w n ∧ 0 ≤ z ∧ z ≤ 40)) 0 0 (fun _ => False) := by
  refine Met.ofZ (cc := cX0_longestTwice) (maxL := 3) (ret := (some .int)) (by decide) rfl (Nat.le_of_ble_eq_true rfl) ?_
  intro p e s m args below meth c ls hx hb hr hlocks S hin hK hpic hl
  have hown := S.2.2.2.1
  have hts := S.2.2.2.2
  have hl : lv_has ls 3 [(0, .ref h)] := hl
  have hn := hpic.1
  refine zv_iconst hx hb dX0_longestTwice_0 ?_
  refine lv_istore_n (lv' := [(1, .int (zI 0)), (0, .ref h)]) hx hb dX0_longestTwice_1 rfl hl (by decide) rfl (fun ls hl => ?_)
  refine zv_iconst hx hb dX0_longestTwice_2 ?_
  refine lv_istore_n (lv' := [(2, .int (zI 1)), (1, .int (zI 0)), (0, .ref h)]) hx hb dX0_longestTwice_3 rfl hl (by decide) rfl (fun ls hl => ?_)
  have lp4 : ∀ (z_f : Nat) (o : Int) (q : Int), (1 ≤ q ∧ q ≤ n + 1 ∧ 0 ≤ o ∧ o < q) → (o = zM (zKn w) 1 q) → ((n + 1 - q).toNat) < z_f → ∀ (ls : Array Slot), lv_has ls 3 [(0, .ref h), (1, .int (zI o)), (2, .int (zI q))] → W p l e (zRm 3 68) s m args below meth c s.heap [] 0 0 (MQ below (vp_Si (fun r => ∃ z : Int, r = zI z ∧ z = zTw w n ∧ 0 ≤ z ∧ z ≤ 40)) args s 0 0 (fun _ => False)) (F0 m 4 ls []) := by
    intro z_f
    induction z_f with
    | zero => intro o q h0 h1 z_m; exact absurd z_m (Nat.not_lt_zero _)
    | succ z_f ih4 =>
      intro o q h0 h1 z_m4 ls hl
      refine lv_iload_n hx hb dX0_longestTwice_4 rfl (lv_at hl 2 rfl) ?_
      refine lv_aload_n hx hb dX0_longestTwice_5 rfl (lv_at hl 0 rfl) ?_
      refine zc_V (As := []) (rest := [.int (zI q)]) S hK (kX8_length l g h a w n) (cwV 0 hts gX0_longestTwice_X8_length rfl rfl rfl (by decide +kernel) ⟨Nat.le_of_ble_eq_true rfl, Nat.le_of_ble_eq_true rfl⟩) (hpic) (hpic.recv hK) rfl hl.1 rfl (Nat.le_of_ble_eq_true rfl) dX0_longestTwice_6 ⟨Nat.zero_le _, Nat.zero_le _⟩ (fun r6 hr6 => ?_)
      obtain rfl := hr6
      refine zv_icmp_gt (tgt := 28) hx hb dX0_longestTwice_9 (by decide) (by omega) (by omega) (fun c9 => ?_) (fun c9 => ?_)
      · have e9 : o = zTw w n := by rw [h1, show q = n + 1 by omega]; rfl
        refine lv_iload_n hx hb dX0_longestTwice_28 rfl (lv_at hl 1 rfl) ?_
        exact zr_i hx hb hr hlocks dX0_longestTwice_29 (⟨_, rfl, e9, by omega, by omega⟩)
      · refine lv_iload_n hx hb dX0_longestTwice_12 rfl (lv_at hl 1 rfl) ?_
        refine lv_aload_n hx hb dX0_longestTwice_13 rfl (lv_at hl 0 rfl) ?_
        refine lv_iload_n hx hb dX0_longestTwice_14 rfl (lv_at hl 2 rfl) ?_
        refine zc_S (As := [.ref h, .int (zI q)]) (rest := [.int (zI o)]) S hK (kX0_longestKnown l g h a w n q (by omega)) (va_cwS 2 hts gX0_longestTwice_X0_longestKnown rfl rfl rfl (by decide +kernel) ⟨Nat.le_of_ble_eq_true rfl, Nat.le_of_ble_eq_true rfl⟩) (hpic) rfl hl.1 rfl (Nat.le_of_ble_eq_true rfl) dX0_longestTwice_15 ⟨Nat.zero_le _, Nat.zero_le _⟩ (fun r15 hr15 => ?_)
        obtain ⟨z15, rfl, hz15⟩ := hr15
        refine zv_mmax hx hb (S.2.2.1.trans hl.1.symm) hown (hts _ mX0_longestTwice_0) (hts _ mX0_longestTwice_1) (hts _ mX0_longestTwice_2) (hts _ mX0_longestTwice_3) (Nat.le_of_ble_eq_true rfl) (Nat.le_of_ble_eq_true rfl) (Nat.zero_le _) (Nat.zero_le _) (by omega) (by omega) dX0_longestTwice_18 ?_
        refine lv_istore_n (lv' := [(1, .int (zI (max o z15))), (0, .ref h), (2, .int (zI q))]) hx hb dX0_longestTwice_21 rfl hl (by decide) rfl (fun ls hl => ?_)
        refine zv_iinc (lv' := [(2, .int (zI (q + 1))), (1, .int (zI (max o z15))), (0, .ref h)]) hx hb dX0_longestTwice_22 hl (k := 2) rfl (by decide) rfl (fun ls hl => ?_)
        refine lv_goto (tgt := 4) hx hb dX0_longestTwice_25 (by decide) ?_
        exact ih4 (max o z15) (q + 1) (by omega) (by rw [zM_succ _ (by omega)]; omega) (by omega) _ (lv_sub hl [2, 1, 0] rfl)
  exact lp4 _ 0 1 (by omega) ((zM_nil _ (by omega)).symm) (Nat.lt_succ_self _) _ (lv_sub hl [2, 1, 0] rfl)

set_option maxHeartbeats 4000000 in
set_option maxRecDepth 100000 in
/-- Ends.endingFirstAt -/
theorem kX0_endingFirstAt (l : Launch) (g : zG) (h a : Nat) (w : Int → Int) (n : Int) (t : Int) (ht : 1 ≤ t ∧ t ≤ n) : Met l yX0_endingFirstAt wsX0_endingFirstAt (zRm 3 68) (zP g [.ref h, .int (zI t)] (PW g h a w n)) (vp_Si (fun r => ∃ z : Int, r = zI z ∧ z = zUf w t ∧ 1 ≤ z ∧ z ≤ t)) 0 0 (fun _ => False) := by
  refine Met.ofZ (cc := cX0_endingFirstAt) (maxL := 2) (ret := (some .int)) (by decide) rfl (Nat.le_of_ble_eq_true rfl) ?_
  intro p e s m args below meth c ls hx hb hr hlocks S hin hK hpic hl
  have hown := S.2.2.2.1
  have hts := S.2.2.2.2
  have hl : lv_has ls 2 [(0, .ref h), (1, .int (zI t))] := hl
  have hn := hpic.1
  refine lv_iload_n hx hb dX0_endingFirstAt_0 rfl (lv_at hl 1 rfl) ?_
  refine lv_aload_n hx hb dX0_endingFirstAt_1 rfl (lv_at hl 0 rfl) ?_
  refine lv_iload_n hx hb dX0_endingFirstAt_2 rfl (lv_at hl 1 rfl) ?_
  refine zc_S (As := [.ref h, .int (zI t)]) (rest := [.int (zI t)]) S hK (kX0_longestKnown l g h a w n t (by omega)) (va_cwS 2 hts gX0_endingFirstAt_X0_longestKnown rfl rfl rfl (by decide +kernel) ⟨Nat.le_of_ble_eq_true rfl, Nat.le_of_ble_eq_true rfl⟩) (hpic) rfl hl.1 rfl (Nat.le_of_ble_eq_true rfl) dX0_endingFirstAt_3 ⟨Nat.zero_le _, Nat.zero_le _⟩ (fun r3 hr3 => ?_)
  obtain ⟨z3, rfl, hz3⟩ := hr3
  refine zv_isub hx hb dX0_endingFirstAt_6 ?_
  exact zr_i hx hb hr hlocks dX0_endingFirstAt_7 (⟨_, rfl, by show _ = t - zKn w t; omega, by omega, by omega⟩)

set_option maxHeartbeats 4000000 in
set_option maxRecDepth 100000 in
/-- Ends.unlikeFactors -/
theorem kX0_unlikeFactors (l : Launch) (g : zG) (h a : Nat) (w : Int → Int) (n : Int) (t : Int) (ht : 0 ≤ t ∧ t ≤ n) : Met l yX0_unlikeFactors wsX0_unlikeFactors (zRm 4 89) (zP g [.ref h, .int (zI t)] (PW g h a w n)) (vp_Si (fun r => ∃ z : Int, r = zI z ∧ z = zUn w t ∧ 0 ≤ z ∧ z ≤ 1640)) 0 0 (fun _ => False) := by
  refine Met.ofZ (cc := cX0_unlikeFactors) (maxL := 4) (ret := (some .int)) (by decide) rfl (Nat.le_of_ble_eq_true rfl) ?_
  intro p e s m args below meth c ls hx hb hr hlocks S hin hK hpic hl
  have hown := S.2.2.2.1
  have hts := S.2.2.2.2
  have hl : lv_has ls 4 [(0, .ref h), (1, .int (zI t))] := hl
  have hn := hpic.1
  refine zv_iconst hx hb dX0_unlikeFactors_0 ?_
  refine lv_istore_n (lv' := [(2, .int (zI 0)), (0, .ref h), (1, .int (zI t))]) hx hb dX0_unlikeFactors_1 rfl hl (by decide) rfl (fun ls hl => ?_)
  refine zv_iconst hx hb dX0_unlikeFactors_2 ?_
  refine lv_istore_n (lv' := [(3, .int (zI 1)), (2, .int (zI 0)), (0, .ref h), (1, .int (zI t))]) hx hb dX0_unlikeFactors_3 rfl hl (by decide) rfl (fun ls hl => ?_)
  have lp4 : ∀ (z_f : Nat) (o : Int) (q : Int), (1 ≤ q ∧ q ≤ t + 1 ∧ 0 ≤ o ∧ o ≤ 40 * (q - 1)) → (o = zS (zUf w) 1 q) → ((t + 1 - q).toNat) < z_f → ∀ (ls : Array Slot), lv_has ls 4 [(0, .ref h), (1, .int (zI t)), (2, .int (zI o)), (3, .int (zI q))] → W p l e (zRm 4 89) s m args below meth c s.heap [] 0 0 (MQ below (vp_Si (fun r => ∃ z : Int, r = zI z ∧ z = zUn w t ∧ 0 ≤ z ∧ z ≤ 1640)) args s 0 0 (fun _ => False)) (F0 m 4 ls []) := by
    intro z_f
    induction z_f with
    | zero => intro o q h0 h1 z_m; exact absurd z_m (Nat.not_lt_zero _)
    | succ z_f ih4 =>
      intro o q h0 h1 z_m4 ls hl
      refine lv_iload_n hx hb dX0_unlikeFactors_4 rfl (lv_at hl 3 rfl) ?_
      refine lv_iload_n hx hb dX0_unlikeFactors_5 rfl (lv_at hl 1 rfl) ?_
      refine zv_icmp_gt (tgt := 23) hx hb dX0_unlikeFactors_6 (by decide) (by omega) (by omega) (fun c6 => ?_) (fun c6 => ?_)
      · have e9 : o = zUn w t := by rw [h1, show q = t + 1 by omega]; rfl
        refine lv_iload_n hx hb dX0_unlikeFactors_23 rfl (lv_at hl 2 rfl) ?_
        exact zr_i hx hb hr hlocks dX0_unlikeFactors_24 (⟨_, rfl, e9, by omega, by omega⟩)
      · refine lv_iload_n hx hb dX0_unlikeFactors_9 rfl (lv_at hl 2 rfl) ?_
        refine lv_aload_n hx hb dX0_unlikeFactors_10 rfl (lv_at hl 0 rfl) ?_
        refine lv_iload_n hx hb dX0_unlikeFactors_11 rfl (lv_at hl 3 rfl) ?_
        refine zc_S (As := [.ref h, .int (zI q)]) (rest := [.int (zI o)]) S hK (kX0_endingFirstAt l g h a w n q (by omega)) (va_cwS 2 hts gX0_unlikeFactors_X0_endingFirstAt rfl rfl rfl (by decide +kernel) ⟨Nat.le_of_ble_eq_true rfl, Nat.le_of_ble_eq_true rfl⟩) (hpic) rfl hl.1 rfl (Nat.le_of_ble_eq_true rfl) dX0_unlikeFactors_12 ⟨Nat.zero_le _, Nat.zero_le _⟩ (fun r12 hr12 => ?_)
        obtain ⟨z12, rfl, hz12⟩ := hr12
        refine zv_iadd hx hb dX0_unlikeFactors_15 ?_
        refine lv_istore_n (lv' := [(2, .int (zI (o + z12))), (0, .ref h), (1, .int (zI t)), (3, .int (zI q))]) hx hb dX0_unlikeFactors_16 rfl hl (by decide) rfl (fun ls hl => ?_)
        refine zv_iinc (lv' := [(3, .int (zI (q + 1))), (2, .int (zI (o + z12))), (0, .ref h), (1, .int (zI t))]) hx hb dX0_unlikeFactors_17 hl (k := 3) rfl (by decide) rfl (fun ls hl => ?_)
        refine lv_goto (tgt := 4) hx hb dX0_unlikeFactors_20 (by decide) ?_
        exact ih4 (o + z12) (q + 1) (by omega) (by rw [zS_succ _ (by omega)]; omega) (by omega) _ (lv_sub hl [2, 3, 1, 0] rfl)
  exact lp4 _ 0 1 (by omega) ((zS_nil _ (by omega)).symm) (Nat.lt_succ_self _) _ (lv_sub hl [2, 3, 1, 0] rfl)

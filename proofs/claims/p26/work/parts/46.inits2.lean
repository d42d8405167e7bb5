theorem mX3_init_0 : (Cond.methodLink RX3 3 Lib.objectInit) ∈ wsX3_init := by decide +kernel
theorem mX3_init_1 : (Cond.instanceMethod Lib.objectInit) ∈ wsX3_init := by decide +kernel
theorem mX3_init_2 : (Cond.code Lib.objectInit ⟨#[0xb1]⟩ 1 none) ∈ wsX3_init := by decide +kernel
theorem mX3_init_3 : ∀ w ∈ wsX80, w ∈ wsX3_init := by decide +kernel
theorem mX3_init_4 : (Cond.classLink RX3 9 RX8) ∈ wsX3_init := by decide +kernel
theorem mX3_init_5 : (Cond.instantiable RX8 2) ∈ wsX3_init := by decide +kernel
theorem mX3_init_6 : (Cond.initialized RX8) ∈ wsX3_init := by decide +kernel
theorem mX3_init_7 : (Cond.instanceMethod yX8_init) ∈ wsX3_init := by decide +kernel
theorem mX3_init_8 : ∀ w ∈ wsX30, w ∈ wsX3_init := by decide +kernel
theorem mX3_init_9 : (Cond.fieldLink RX3 12 "BorderRuns$Reader" "read" "LBorderRuns$Word;") ∈ wsX3_init := by decide +kernel
theorem mX3_init_10 : (Cond.fieldLink RX3 18 "BorderRuns$Reader" "pieceFrom" "I") ∈ wsX3_init := by decide +kernel
theorem mX3_init_11 : (Cond.fieldLink RX3 22 "BorderRuns$Reader" "inGroup" "Z") ∈ wsX3_init := by decide +kernel
theorem mX3_init_12 : (Cond.fieldLink RX3 26 "BorderRuns$Reader" "behindPiece" "Z") ∈ wsX3_init := by decide +kernel
set_option maxHeartbeats 4000000 in
set_option maxRecDepth 100000 in
theorem kX3_init (l : Launch) (g : zG) (h : Nat) : Met l yX3_init wsX3_init { frames := 2, cells := 2, slots := 42, locals := 40 } (zPn g [.ref h] (va_P g.1 vwCl [(h, .inr (1, [.null, .int 0, .int 0, .int 0]))])) (zQv (fun H => ∃ w a, h < w ∧ w < a ∧ PW g w a (fun _ => 0) 0 H ∧ va_P g.1 vwCl [(h, .inr (1, [.ref w, .int (zI 0), .int (zI 0), .int (zI 0)]))] H) (zGe h)) 2 42 (zGe h) := by
  refine Met.ofZn (cc := cX3_init) (maxL := 1) (ret := none) (by decide) rfl (Nat.le_of_ble_eq_true rfl) ?_
  intro p e s m args below meth c ls hx hb hr hlocks S hin hK hN hpic hl
  have hown := S.2.2.2.1
  have hts := S.2.2.2.2
  have hl : lv_has ls 1 [(0, .ref h)] := hl
  have hP := hpic
  have hS : va_S (zGe h) s.heap s.heap [] := va_S.rf
  refine lv_aload_n hx hb dX3_init_0 rfl (lv_at hl 0 rfl) ?_
  refine lv_objInit hx hb hown (hts _ mX3_init_0) (hts _ mX3_init_1) (hts _ mX3_init_2) (hl.1.trans S.2.2.1.symm) dX3_init_1 (Nat.le_of_ble_eq_true rfl) (Nat.le_of_ble_eq_true rfl) (Nat.le_of_ble_eq_true rfl) ?_
  refine lv_aload_n hx hb dX3_init_4 rfl (lv_at hl 0 rfl) ?_
  have ltP := hP.lt1
  refine zn_new (ci := 3) (fs := [.null, .int 0]) (C := RX8) (T := TX8) (N := 2) hx hb hts mX3_init_3 tyX8 tyX8_ok hown (hts _ mX3_init_4) (hts _ mX3_init_5) (hts _ mX3_init_6) hK hS rfl (fun j hj => by rcases j with _ | _ | j <;> first | rfl | omega) (Nat.le_of_ble_eq_true rfl) (Nat.le_of_ble_eq_true rfl) dX3_init_5 (fun q1 H1 hq1 hp1 hk hS => ?_)
  have hk0 : ∀ x : Nat, x < _ → ¬ False → H1[x]? = _ := fun x a _ => hk x a
  have hP := hP.frm1 hk0 (id)
  refine lv_dup hx hb dX3_init_8 rfl ?_
  refine zc_IN (As := []) (rest := [.ref q1, .ref h]) S (kX8_init l g q1) ⟨va_cnB 0 hts gX3_init_X8_init_n11 rfl rfl rfl hN.2.2.2.2.1 (hts _ mX3_init_6) (by decide +kernel) ⟨Nat.le_of_ble_eq_true rfl, Nat.le_of_ble_eq_true rfl⟩, rfl, hts _ mX3_init_7⟩ (zc_pre hK hp1) rfl hl.1 rfl (Nat.le_of_ble_eq_true rfl) dX3_init_9 ⟨Nat.le_of_ble_eq_true rfl, Nat.le_of_ble_eq_true rfl⟩ hS (fun x hx9 => by have h9 : q1 ≤ x := hx9; show h ≤ x; omega) (fun H1 locs hp hz hk hS => ?_)
  have hP := hP.frm1 hk (by show ¬ q1 ≤ h; omega)
  obtain ⟨a2, la2, hw2⟩ := hp
  refine zx_putF (D := g.1) (A := zGe h) (ci := 1) (v := .ref q1) (ty := (.object "BorderRuns$Word")) (C := RX3) (T := TX3) (N := 4) hx hb hts mX3_init_8 tyX3 tyX3_ok nmX3 hown hK hP (Nat.le_refl h) hS rfl 0 (by decide) (hts _ mX3_init_9) (fun _ h9 => h9) rfl hin rfl (by decide +kernel) rfl rfl (Nat.le_of_ble_eq_true rfl) dX3_init_12 (fun H1 locs hP hz hk hS => ?_)
  have hP : va_P g.1 vwCl [(h, .inr (1, [.ref q1, .int 0, .int 0, .int 0]))] H1 := hP
  have hw2 := hw2.frm hk (by omega) (by omega)
  refine lv_aload_n hx hb dX3_init_15 rfl (lv_at hl 0 rfl) ?_
  refine zv_iconst hx hb dX3_init_16 ?_
  refine zx_put (D := g.1) (A := zGe h) (ci := 1) (v := .int (zI 0)) (ty := .int) (C := RX3) (T := TX3) (N := 4) hx hb hts mX3_init_8 tyX3 tyX3_ok nmX3 hown hK hP (Nat.le_refl h) hS rfl 1 (by decide) (hts _ mX3_init_10) (fun _ h9 => h9) rfl (by decide +kernel) rfl rfl (Nat.le_of_ble_eq_true rfl) dX3_init_17 (fun H1 locs hP hk hS => ?_)
  have hP : va_P g.1 vwCl [(h, .inr (1, [.ref q1, .int (zI 0), .int 0, .int 0]))] H1 := hP
  have hw2 := hw2.frm hk (by omega) (by omega)
  refine lv_aload_n hx hb dX3_init_20 rfl (lv_at hl 0 rfl) ?_
  refine zv_iconst hx hb dX3_init_21 ?_
  refine zx_put (D := g.1) (A := zGe h) (ci := 1) (v := .int (zI 0)) (ty := .boolean) (C := RX3) (T := TX3) (N := 4) hx hb hts mX3_init_8 tyX3 tyX3_ok nmX3 hown hK hP (Nat.le_refl h) hS rfl 2 (by decide) (hts _ mX3_init_11) (fun _ h9 => h9) rfl (by decide +kernel) rfl rfl (Nat.le_of_ble_eq_true rfl) dX3_init_22 (fun H1 locs hP hk hS => ?_)
  have hP : va_P g.1 vwCl [(h, .inr (1, [.ref q1, .int (zI 0), .int (zI 0), .int 0]))] H1 := hP
  have hw2 := hw2.frm hk (by omega) (by omega)
  refine lv_aload_n hx hb dX3_init_25 rfl (lv_at hl 0 rfl) ?_
  refine zv_iconst hx hb dX3_init_26 ?_
  refine zx_put (D := g.1) (A := zGe h) (ci := 1) (v := .int (zI 0)) (ty := .boolean) (C := RX3) (T := TX3) (N := 4) hx hb hts mX3_init_8 tyX3 tyX3_ok nmX3 hown hK hP (Nat.le_refl h) hS rfl 3 (by decide) (hts _ mX3_init_12) (fun _ h9 => h9) rfl (by decide +kernel) rfl rfl (Nat.le_of_ble_eq_true rfl) dX3_init_27 (fun H1 locs hP hk hS => ?_)
  have hP : va_P g.1 vwCl [(h, .inr (1, [.ref q1, .int (zI 0), .int (zI 0), .int (zI 0)]))] H1 := hP
  have hw2 := hw2.frm hk (by omega) (by omega)
  exact zw_v hx hb hr hlocks hS dX3_init_30 (⟨q1, a2, by omega, by omega, hw2, hP⟩)

theorem mX1_init_0 : (Cond.methodLink RX1 3 Lib.objectInit) ∈ wsX1_init := by decide +kernel
theorem mX1_init_1 : (Cond.instanceMethod Lib.objectInit) ∈ wsX1_init := by decide +kernel
theorem mX1_init_2 : (Cond.code Lib.objectInit ⟨#[0xb1]⟩ 1 none) ∈ wsX1_init := by decide +kernel
theorem mX1_init_3 : (Cond.classLink RX1 9 RX8) ∈ wsX1_init := by decide +kernel
theorem mX1_init_4 : ∀ w ∈ wsX10, w ∈ wsX1_init := by decide +kernel
theorem mX1_init_5 : (Cond.fieldLink RX1 11 "BorderRuns$History" "states" "[LBorderRuns$Word;") ∈ wsX1_init := by decide +kernel
theorem mX1_init_6 : (Cond.fieldLink RX1 17 "BorderRuns$History" "next" "I") ∈ wsX1_init := by decide +kernel
theorem mX1_init_7 : (Cond.fieldLink RX1 21 "BorderRuns$History" "held" "I") ∈ wsX1_init := by decide +kernel
theorem mX1_init_8 : ∀ w ∈ wsX80, w ∈ wsX1_init := by decide +kernel
theorem mX1_init_9 : (Cond.instantiable RX8 2) ∈ wsX1_init := by decide +kernel
theorem mX1_init_10 : (Cond.initialized RX8) ∈ wsX1_init := by decide +kernel
theorem mX1_init_11 : (Cond.instanceMethod yX8_init) ∈ wsX1_init := by decide +kernel
set_option maxHeartbeats 4000000 in
set_option maxRecDepth 100000 in
theorem kX1_init (l : Launch) (g : zG) (h : Nat) : Met l yX1_init wsX1_init { frames := 2, cells := 9, slots := 172, locals := 40 } (zPn g [.ref h] (va_P g.1 vwCl [(h, .inr (0, [.null, .int 0, .int 0]))])) (zQv (fun H => ∃ (st b0 c0 b1 c1 b2 c2 b3 c3 : Nat) (F : Nat → Option Nat), (h < st ∧ st < b0 ∧ b0 < c0 ∧ c0 < b1 ∧ b1 < c1 ∧ c1 < b2 ∧ b2 < c2 ∧ c2 < b3 ∧ b3 < c3) ∧ va_P g.1 vwCl [(h, .inr (0, [.ref st, .int (zI 0), .int (zI 0)]))] H ∧ va_P g.1 vwCl [(st, .inl (g.2.2.2, 4, .inr (.inr (.inr (.inr F)))))] H ∧ (F 0 = some b0 ∧ F 1 = some b1 ∧ F 2 = some b2 ∧ F 3 = some b3) ∧ PW g b0 c0 (fun _ => 0) 0 H ∧ PW g b1 c1 (fun _ => 0) 0 H ∧ PW g b2 c2 (fun _ => 0) 0 H ∧ PW g b3 c3 (fun _ => 0) 0 H) (zGe h)) 9 172 (zGe h) := by
  refine Met.ofZn (cc := cX1_init) (maxL := 2) (ret := none) (by decide) rfl (Nat.le_of_ble_eq_true rfl) ?_
  intro p e s m args below meth c ls hx hb hr hlocks S hin hK hN hpic hl
  have hown := S.2.2.2.1
  have hts := S.2.2.2.2
  have hl : lv_has ls 2 [(0, .ref h)] := hl
  have hP := hpic
  have hS : va_S (zGe h) s.heap s.heap [] := va_S.rf
  refine lv_aload_n hx hb dX1_init_0 rfl (lv_at hl 0 rfl) ?_
  refine lv_objInit hx hb hown (hts _ mX1_init_0) (hts _ mX1_init_1) (hts _ mX1_init_2) (hl.1.trans S.2.2.1.symm) dX1_init_1 (Nat.le_of_ble_eq_true rfl) (Nat.le_of_ble_eq_true rfl) (Nat.le_of_ble_eq_true rfl) ?_
  refine lv_aload_n hx hb dX1_init_4 rfl (lv_at hl 0 rfl) ?_
  refine zv_iconst hx hb dX1_init_5 ?_
  have ltP := hP.lt1
  refine zn_newq (N := 4) hx hb hown (hts _ mX1_init_3) hN.2.2.2.2.2 hK hS (by omega) (Nat.le_of_ble_eq_true rfl) (Nat.le_of_ble_eq_true rfl) dX1_init_6 (fun q1 H1 hq1 hp1 hk hS => ?_)
  have hk0 : ∀ x : Nat, x < _ → ¬ False → H1[x]? = _ := fun x a _ => hk x a
  have hP := hP.frm1 hk0 (id)
  refine zx_putF (D := g.1) (A := zGe h) (ci := 0) (v := .ref q1) (ty := (.array (.object "BorderRuns$Word"))) (C := RX1) (T := TX1) (N := 3) hx hb hts mX1_init_4 tyX1 tyX1_ok nmX1 hown hK hP (Nat.le_refl h) hS rfl 0 (by decide) (hts _ mX1_init_5) (fun _ h9 => h9) rfl hin rfl (by decide +kernel) rfl rfl (Nat.le_of_ble_eq_true rfl) dX1_init_9 (fun H1 locs hP hz hk hS => ?_)
  have hP : va_P g.1 vwCl [(h, .inr (0, [.ref q1, .int 0, .int 0]))] H1 := hP
  have hp1 := hp1.frm1 hk (by omega)
  refine lv_aload_n hx hb dX1_init_12 rfl (lv_at hl 0 rfl) ?_
  refine zv_iconst hx hb dX1_init_13 ?_
  refine zx_put (D := g.1) (A := zGe h) (ci := 0) (v := .int (zI 0)) (ty := .int) (C := RX1) (T := TX1) (N := 3) hx hb hts mX1_init_4 tyX1 tyX1_ok nmX1 hown hK hP (Nat.le_refl h) hS rfl 1 (by decide) (hts _ mX1_init_6) (fun _ h9 => h9) rfl (by decide +kernel) rfl rfl (Nat.le_of_ble_eq_true rfl) dX1_init_14 (fun H1 locs hP hk hS => ?_)
  have hP : va_P g.1 vwCl [(h, .inr (0, [.ref q1, .int (zI 0), .int 0]))] H1 := hP
  have hp1 := hp1.frm1 hk (by omega)
  refine lv_aload_n hx hb dX1_init_17 rfl (lv_at hl 0 rfl) ?_
  refine zv_iconst hx hb dX1_init_18 ?_
  refine zx_put (D := g.1) (A := zGe h) (ci := 0) (v := .int (zI 0)) (ty := .int) (C := RX1) (T := TX1) (N := 3) hx hb hts mX1_init_4 tyX1 tyX1_ok nmX1 hown hK hP (Nat.le_refl h) hS rfl 2 (by decide) (hts _ mX1_init_7) (fun _ h9 => h9) rfl (by decide +kernel) rfl rfl (Nat.le_of_ble_eq_true rfl) dX1_init_19 (fun H1 locs hP hk hS => ?_)
  have hP : va_P g.1 vwCl [(h, .inr (0, [.ref q1, .int (zI 0), .int (zI 0)]))] H1 := hP
  have hp1 := hp1.frm1 hk (by omega)
  refine zv_iconst hx hb dX1_init_22 ?_
  refine lv_istore_n (lv' := [(1, .int (zI 0)), (0, .ref h)]) hx hb dX1_init_23 rfl hl (by decide) rfl (fun ls hl => ?_)
  refine lv_iload_n hx hb dX1_init_24 rfl (lv_at hl 0 rfl) ?_
  refine lv_aload_n hx hb dX1_init_25 rfl (lv_at hl 1 rfl) ?_
  refine va_get (D := g.1) (ci := 0) (v := .ref q1) (C := RX1) (T := TX1) (N := 3) hx hb hts mX1_init_4 hown hK hP 0 rfl rfl 0 (by decide) (hts _ mX1_init_5) (fun _ h9 => h9) rfl dX1_init_26 ?_
  refine va_alen (D := g.1) hx hb hK hp1 0 2 rfl rfl (v := zI 4) rfl dX1_init_29 ?_
  refine zv_icmp_ge (tgt := 52) hx hb dX1_init_30 (by decide) (by omega) (by omega) (fun c30 => ?_) (fun c30 => ?_)
  · exfalso; omega
  · refine lv_aload_n hx hb dX1_init_33 rfl (lv_at hl 1 rfl) ?_
    refine va_get (D := g.1) (ci := 0) (v := .ref q1) (C := RX1) (T := TX1) (N := 3) hx hb hts mX1_init_4 hown hK hP 0 rfl rfl 0 (by decide) (hts _ mX1_init_5) (fun _ h9 => h9) rfl dX1_init_34 ?_
    refine lv_iload_n hx hb dX1_init_37 rfl (lv_at hl 0 rfl) ?_
    have ltP := hP.lt1
    have lt_hp1 := hp1.lt1
    refine zn_new (ci := 3) (fs := [.null, .int 0]) (C := RX8) (T := TX8) (N := 2) hx hb hts mX1_init_8 tyX8 tyX8_ok hown (hts _ mX1_init_3) (hts _ mX1_init_9) (hts _ mX1_init_10) hK hS rfl (fun j hj => by rcases j with _ | _ | j <;> first | rfl | omega) (Nat.le_of_ble_eq_true rfl) (Nat.le_of_ble_eq_true rfl) dX1_init_38 (fun q2 H1 hq2 hp2 hk hS => ?_)
    have hk0 : ∀ x : Nat, x < _ → ¬ False → H1[x]? = _ := fun x a _ => hk x a
    have hP := hP.frm1 hk0 (id)
    have hp1 := hp1.frm1 hk0 (id)
    refine lv_dup hx hb dX1_init_41 rfl ?_
    refine zc_IN (As := []) (rest := [.ref q2, .int (zI 0), .ref q1]) S (kX8_init l g q2) ⟨va_cnB 0 hts gX1_init_X8_init_n24 rfl rfl rfl hN.2.1 (hts _ mX1_init_10) (by decide +kernel) ⟨Nat.le_of_ble_eq_true rfl, Nat.le_of_ble_eq_true rfl⟩, rfl, hts _ mX1_init_11⟩ (zc_pre hK hp2) rfl hl.1 rfl (Nat.le_of_ble_eq_true rfl) dX1_init_42 ⟨Nat.le_of_ble_eq_true rfl, Nat.le_of_ble_eq_true rfl⟩ hS (fun x hx9 => by have h9 : q2 ≤ x := hx9; show h ≤ x; omega) (fun H1 locs hp hz hk hS => ?_)
    have hP := hP.frm1 hk (by show ¬ q2 ≤ h; omega)
    have hp1 := hp1.frm1 hk (by show ¬ q2 ≤ q1; omega)
    obtain ⟨a3, la3, hw3⟩ := hp
    refine zn_astq hx hb hK hp1 hw3.obj (by show h ≤ q1; omega) hS (by omega) dX1_init_45 (fun H1 locs hp hk hS => ?_)
    have hP := hP.frm1 hk (by omega)
    have hw3 := hw3.frm hk (by omega) (by omega)
    have hp1 := hp
    refine zv_iinc (lv' := [(1, .int (zI (0 + 1))), (0, .ref h)]) hx hb dX1_init_46 hl (k := 0) rfl (by decide) rfl (fun ls hl => ?_)
    refine lv_goto (tgt := 24) hx hb dX1_init_49 (by decide) ?_
    refine lv_iload_n hx hb dX1_init_24 rfl (lv_at hl 0 rfl) ?_
    refine lv_aload_n hx hb dX1_init_25 rfl (lv_at hl 1 rfl) ?_
    refine va_get (D := g.1) (ci := 0) (v := .ref q1) (C := RX1) (T := TX1) (N := 3) hx hb hts mX1_init_4 hown hK hP 0 rfl rfl 0 (by decide) (hts _ mX1_init_5) (fun _ h9 => h9) rfl dX1_init_26 ?_
    refine va_alen (D := g.1) hx hb hK hp1 0 2 rfl rfl (v := zI 4) rfl dX1_init_29 ?_
    refine zv_icmp_ge (tgt := 52) hx hb dX1_init_30 (by decide) (by omega) (by omega) (fun c30 => ?_) (fun c30 => ?_)
    · exfalso; omega
    · refine lv_aload_n hx hb dX1_init_33 rfl (lv_at hl 1 rfl) ?_
      refine va_get (D := g.1) (ci := 0) (v := .ref q1) (C := RX1) (T := TX1) (N := 3) hx hb hts mX1_init_4 hown hK hP 0 rfl rfl 0 (by decide) (hts _ mX1_init_5) (fun _ h9 => h9) rfl dX1_init_34 ?_
      refine lv_iload_n hx hb dX1_init_37 rfl (lv_at hl 0 rfl) ?_
      have ltP := hP.lt1
      have lt_hp1 := hp1.lt1
      have lt_hw3 := hw3.lt
      refine zn_new (ci := 3) (fs := [.null, .int 0]) (C := RX8) (T := TX8) (N := 2) hx hb hts mX1_init_8 tyX8 tyX8_ok hown (hts _ mX1_init_3) (hts _ mX1_init_9) (hts _ mX1_init_10) hK hS rfl (fun j hj => by rcases j with _ | _ | j <;> first | rfl | omega) (Nat.le_of_ble_eq_true rfl) (Nat.le_of_ble_eq_true rfl) dX1_init_38 (fun q4 H1 hq4 hp4 hk hS => ?_)
      have hk0 : ∀ x : Nat, x < _ → ¬ False → H1[x]? = _ := fun x a _ => hk x a
      have hP := hP.frm1 hk0 (id)
      have hp1 := hp1.frm1 hk0 (id)
      have hw3 := hw3.frm hk0 (id) (id)
      refine lv_dup hx hb dX1_init_41 rfl ?_
      refine zc_IN (As := []) (rest := [.ref q4, .int (zI (0 + 1)), .ref q1]) S (kX8_init l g q4) ⟨va_cnB 0 hts gX1_init_X8_init_n24 rfl rfl rfl hN.2.1 (hts _ mX1_init_10) (by decide +kernel) ⟨Nat.le_of_ble_eq_true rfl, Nat.le_of_ble_eq_true rfl⟩, rfl, hts _ mX1_init_11⟩ (zc_pre hK hp4) rfl hl.1 rfl (Nat.le_of_ble_eq_true rfl) dX1_init_42 ⟨Nat.le_of_ble_eq_true rfl, Nat.le_of_ble_eq_true rfl⟩ hS (fun x hx9 => by have h9 : q4 ≤ x := hx9; show h ≤ x; omega) (fun H1 locs hp hz hk hS => ?_)
      have hP := hP.frm1 hk (by show ¬ q4 ≤ h; omega)
      have hp1 := hp1.frm1 hk (by show ¬ q4 ≤ q1; omega)
      have hw3 := hw3.frm hk (by show ¬ q4 ≤ q2; omega) (by show ¬ q4 ≤ a3; omega)
      obtain ⟨a5, la5, hw5⟩ := hp
      refine zn_astq hx hb hK hp1 hw5.obj (by show h ≤ q1; omega) hS (by omega) dX1_init_45 (fun H1 locs hp hk hS => ?_)
      have hP := hP.frm1 hk (by omega)
      have hw3 := hw3.frm hk (by omega) (by omega)
      have hw5 := hw5.frm hk (by omega) (by omega)
      have hp1 := hp
      refine zv_iinc (lv' := [(1, .int (zI (0 + 1 + 1))), (0, .ref h)]) hx hb dX1_init_46 hl (k := 0) rfl (by decide) rfl (fun ls hl => ?_)
      refine lv_goto (tgt := 24) hx hb dX1_init_49 (by decide) ?_
      refine lv_iload_n hx hb dX1_init_24 rfl (lv_at hl 0 rfl) ?_
      refine lv_aload_n hx hb dX1_init_25 rfl (lv_at hl 1 rfl) ?_
      refine va_get (D := g.1) (ci := 0) (v := .ref q1) (C := RX1) (T := TX1) (N := 3) hx hb hts mX1_init_4 hown hK hP 0 rfl rfl 0 (by decide) (hts _ mX1_init_5) (fun _ h9 => h9) rfl dX1_init_26 ?_
      refine va_alen (D := g.1) hx hb hK hp1 0 2 rfl rfl (v := zI 4) rfl dX1_init_29 ?_
      refine zv_icmp_ge (tgt := 52) hx hb dX1_init_30 (by decide) (by omega) (by omega) (fun c30 => ?_) (fun c30 => ?_)
      · exfalso; omega
      · refine lv_aload_n hx hb dX1_init_33 rfl (lv_at hl 1 rfl) ?_
        refine va_get (D := g.1) (ci := 0) (v := .ref q1) (C := RX1) (T := TX1) (N := 3) hx hb hts mX1_init_4 hown hK hP 0 rfl rfl 0 (by decide) (hts _ mX1_init_5) (fun _ h9 => h9) rfl dX1_init_34 ?_
        refine lv_iload_n hx hb dX1_init_37 rfl (lv_at hl 0 rfl) ?_
        have ltP := hP.lt1
        have lt_hp1 := hp1.lt1
        have lt_hw3 := hw3.lt
        have lt_hw5 := hw5.lt
        refine zn_new (ci := 3) (fs := [.null, .int 0]) (C := RX8) (T := TX8) (N := 2) hx hb hts mX1_init_8 tyX8 tyX8_ok hown (hts _ mX1_init_3) (hts _ mX1_init_9) (hts _ mX1_init_10) hK hS rfl (fun j hj => by rcases j with _ | _ | j <;> first | rfl | omega) (Nat.le_of_ble_eq_true rfl) (Nat.le_of_ble_eq_true rfl) dX1_init_38 (fun q6 H1 hq6 hp6 hk hS => ?_)
        have hk0 : ∀ x : Nat, x < _ → ¬ False → H1[x]? = _ := fun x a _ => hk x a
        have hP := hP.frm1 hk0 (id)
        have hp1 := hp1.frm1 hk0 (id)
        have hw3 := hw3.frm hk0 (id) (id)
        have hw5 := hw5.frm hk0 (id) (id)
        refine lv_dup hx hb dX1_init_41 rfl ?_
        refine zc_IN (As := []) (rest := [.ref q6, .int (zI (0 + 1 + 1)), .ref q1]) S (kX8_init l g q6) ⟨va_cnB 0 hts gX1_init_X8_init_n24 rfl rfl rfl hN.2.1 (hts _ mX1_init_10) (by decide +kernel) ⟨Nat.le_of_ble_eq_true rfl, Nat.le_of_ble_eq_true rfl⟩, rfl, hts _ mX1_init_11⟩ (zc_pre hK hp6) rfl hl.1 rfl (Nat.le_of_ble_eq_true rfl) dX1_init_42 ⟨Nat.le_of_ble_eq_true rfl, Nat.le_of_ble_eq_true rfl⟩ hS (fun x hx9 => by have h9 : q6 ≤ x := hx9; show h ≤ x; omega) (fun H1 locs hp hz hk hS => ?_)
        have hP := hP.frm1 hk (by show ¬ q6 ≤ h; omega)
        have hp1 := hp1.frm1 hk (by show ¬ q6 ≤ q1; omega)
        have hw3 := hw3.frm hk (by show ¬ q6 ≤ q2; omega) (by show ¬ q6 ≤ a3; omega)
        have hw5 := hw5.frm hk (by show ¬ q6 ≤ q4; omega) (by show ¬ q6 ≤ a5; omega)
        obtain ⟨a7, la7, hw7⟩ := hp
        refine zn_astq hx hb hK hp1 hw7.obj (by show h ≤ q1; omega) hS (by omega) dX1_init_45 (fun H1 locs hp hk hS => ?_)
        have hP := hP.frm1 hk (by omega)
        have hw3 := hw3.frm hk (by omega) (by omega)
        have hw5 := hw5.frm hk (by omega) (by omega)
        have hw7 := hw7.frm hk (by omega) (by omega)
        have hp1 := hp
        refine zv_iinc (lv' := [(1, .int (zI (0 + 1 + 1 + 1))), (0, .ref h)]) hx hb dX1_init_46 hl (k := 0) rfl (by decide) rfl (fun ls hl => ?_)
        refine lv_goto (tgt := 24) hx hb dX1_init_49 (by decide) ?_
        refine lv_iload_n hx hb dX1_init_24 rfl (lv_at hl 0 rfl) ?_
        refine lv_aload_n hx hb dX1_init_25 rfl (lv_at hl 1 rfl) ?_
        refine va_get (D := g.1) (ci := 0) (v := .ref q1) (C := RX1) (T := TX1) (N := 3) hx hb hts mX1_init_4 hown hK hP 0 rfl rfl 0 (by decide) (hts _ mX1_init_5) (fun _ h9 => h9) rfl dX1_init_26 ?_
        refine va_alen (D := g.1) hx hb hK hp1 0 2 rfl rfl (v := zI 4) rfl dX1_init_29 ?_
        refine zv_icmp_ge (tgt := 52) hx hb dX1_init_30 (by decide) (by omega) (by omega) (fun c30 => ?_) (fun c30 => ?_)
        · exfalso; omega
        · refine lv_aload_n hx hb dX1_init_33 rfl (lv_at hl 1 rfl) ?_
          refine va_get (D := g.1) (ci := 0) (v := .ref q1) (C := RX1) (T := TX1) (N := 3) hx hb hts mX1_init_4 hown hK hP 0 rfl rfl 0 (by decide) (hts _ mX1_init_5) (fun _ h9 => h9) rfl dX1_init_34 ?_
          refine lv_iload_n hx hb dX1_init_37 rfl (lv_at hl 0 rfl) ?_
          have ltP := hP.lt1
          have lt_hp1 := hp1.lt1
          have lt_hw3 := hw3.lt
          have lt_hw5 := hw5.lt
          have lt_hw7 := hw7.lt
          refine zn_new (ci := 3) (fs := [.null, .int 0]) (C := RX8) (T := TX8) (N := 2) hx hb hts mX1_init_8 tyX8 tyX8_ok hown (hts _ mX1_init_3) (hts _ mX1_init_9) (hts _ mX1_init_10) hK hS rfl (fun j hj => by rcases j with _ | _ | j <;> first | rfl | omega) (Nat.le_of_ble_eq_true rfl) (Nat.le_of_ble_eq_true rfl) dX1_init_38 (fun q8 H1 hq8 hp8 hk hS => ?_)
          have hk0 : ∀ x : Nat, x < _ → ¬ False → H1[x]? = _ := fun x a _ => hk x a
          have hP := hP.frm1 hk0 (id)
          have hp1 := hp1.frm1 hk0 (id)
          have hw3 := hw3.frm hk0 (id) (id)
          have hw5 := hw5.frm hk0 (id) (id)
          have hw7 := hw7.frm hk0 (id) (id)
          refine lv_dup hx hb dX1_init_41 rfl ?_
          refine zc_IN (As := []) (rest := [.ref q8, .int (zI (0 + 1 + 1 + 1)), .ref q1]) S (kX8_init l g q8) ⟨va_cnB 0 hts gX1_init_X8_init_n24 rfl rfl rfl hN.2.1 (hts _ mX1_init_10) (by decide +kernel) ⟨Nat.le_of_ble_eq_true rfl, Nat.le_of_ble_eq_true rfl⟩, rfl, hts _ mX1_init_11⟩ (zc_pre hK hp8) rfl hl.1 rfl (Nat.le_of_ble_eq_true rfl) dX1_init_42 ⟨Nat.le_of_ble_eq_true rfl, Nat.le_of_ble_eq_true rfl⟩ hS (fun x hx9 => by have h9 : q8 ≤ x := hx9; show h ≤ x; omega) (fun H1 locs hp hz hk hS => ?_)
          have hP := hP.frm1 hk (by show ¬ q8 ≤ h; omega)
          have hp1 := hp1.frm1 hk (by show ¬ q8 ≤ q1; omega)
          have hw3 := hw3.frm hk (by show ¬ q8 ≤ q2; omega) (by show ¬ q8 ≤ a3; omega)
          have hw5 := hw5.frm hk (by show ¬ q8 ≤ q4; omega) (by show ¬ q8 ≤ a5; omega)
          have hw7 := hw7.frm hk (by show ¬ q8 ≤ q6; omega) (by show ¬ q8 ≤ a7; omega)
          obtain ⟨a9, la9, hw9⟩ := hp
          refine zn_astq hx hb hK hp1 hw9.obj (by show h ≤ q1; omega) hS (by omega) dX1_init_45 (fun H1 locs hp hk hS => ?_)
          have hP := hP.frm1 hk (by omega)
          have hw3 := hw3.frm hk (by omega) (by omega)
          have hw5 := hw5.frm hk (by omega) (by omega)
          have hw7 := hw7.frm hk (by omega) (by omega)
          have hw9 := hw9.frm hk (by omega) (by omega)
          have hp1 := hp
          refine zv_iinc (lv' := [(1, .int (zI (0 + 1 + 1 + 1 + 1))), (0, .ref h)]) hx hb dX1_init_46 hl (k := 0) rfl (by decide) rfl (fun ls hl => ?_)
          refine lv_goto (tgt := 24) hx hb dX1_init_49 (by decide) ?_
          refine lv_iload_n hx hb dX1_init_24 rfl (lv_at hl 0 rfl) ?_
          refine lv_aload_n hx hb dX1_init_25 rfl (lv_at hl 1 rfl) ?_
          refine va_get (D := g.1) (ci := 0) (v := .ref q1) (C := RX1) (T := TX1) (N := 3) hx hb hts mX1_init_4 hown hK hP 0 rfl rfl 0 (by decide) (hts _ mX1_init_5) (fun _ h9 => h9) rfl dX1_init_26 ?_
          refine va_alen (D := g.1) hx hb hK hp1 0 2 rfl rfl (v := zI 4) rfl dX1_init_29 ?_
          refine zv_icmp_ge (tgt := 52) hx hb dX1_init_30 (by decide) (by omega) (by omega) (fun c30 => ?_) (fun c30 => ?_)
          · exact zw_v hx hb hr hlocks hS dX1_init_52 (⟨q1, q2, a3, q4, a5, q6, a7, q8, a9, _, by omega, hP, hp1, ⟨rfl, rfl, rfl, rfl⟩, hw3, hw5, hw7, hw9⟩)
          · exfalso; omega

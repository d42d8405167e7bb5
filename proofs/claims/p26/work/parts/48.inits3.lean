theorem mX9_init_0 : (Cond.methodLink RX9 1 Lib.objectInit) ∈ wsX9_init := by decide +kernel
theorem mX9_init_1 : (Cond.instanceMethod Lib.objectInit) ∈ wsX9_init := by decide +kernel
theorem mX9_init_2 : (Cond.code Lib.objectInit ⟨#[0xb1]⟩ 1 none) ∈ wsX9_init := by decide +kernel
theorem mX9_init_3 : ∀ w ∈ wsX80, w ∈ wsX9_init := by decide +kernel
theorem mX9_init_4 : (Cond.classLink RX9 7 RX8) ∈ wsX9_init := by decide +kernel
theorem mX9_init_5 : (Cond.instantiable RX8 2) ∈ wsX9_init := by decide +kernel
theorem mX9_init_6 : (Cond.initialized RX8) ∈ wsX9_init := by decide +kernel
theorem mX9_init_7 : (Cond.instanceMethod yX8_init) ∈ wsX9_init := by decide +kernel
theorem mX9_init_8 : ∀ w ∈ wsX90, w ∈ wsX9_init := by decide +kernel
theorem mX9_init_9 : (Cond.fieldLink RX9 10 "BorderRuns" "word" "LBorderRuns$Word;") ∈ wsX9_init := by decide +kernel
theorem mX9_init_10 : (Cond.fieldLink RX9 16 "BorderRuns" "draft" "LBorderRuns$Word;") ∈ wsX9_init := by decide +kernel
theorem mX9_init_11 : (Cond.fieldLink RX9 19 "BorderRuns" "snapshot" "LBorderRuns$Word;") ∈ wsX9_init := by decide +kernel
theorem mX9_init_12 : (Cond.fieldLink RX9 22 "BorderRuns" "hasSnapshot" "Z") ∈ wsX9_init := by decide +kernel
theorem mX9_init_13 : ∀ w ∈ wsX10, w ∈ wsX9_init := by decide +kernel
theorem mX9_init_14 : (Cond.classLink RX9 26 RX1) ∈ wsX9_init := by decide +kernel
theorem mX9_init_15 : (Cond.instantiable RX1 3) ∈ wsX9_init := by decide +kernel
theorem mX9_init_16 : (Cond.initialized RX1) ∈ wsX9_init := by decide +kernel
theorem mX9_init_17 : (Cond.instanceMethod yX1_init) ∈ wsX9_init := by decide +kernel
theorem mX9_init_18 : (Cond.methodLink RX9 28 yX1_init) ∈ wsX9_init := by decide +kernel
theorem mX9_init_19 : (Cond.fieldLink RX9 29 "BorderRuns" "history" "LBorderRuns$History;") ∈ wsX9_init := by decide +kernel
theorem mX9_init_20 : ∀ w ∈ wsX70, w ∈ wsX9_init := by decide +kernel
theorem mX9_init_21 : (Cond.classLink RX9 33 RX7) ∈ wsX9_init := by decide +kernel
theorem mX9_init_22 : (Cond.instantiable RX7 2) ∈ wsX9_init := by decide +kernel
theorem mX9_init_23 : (Cond.initialized RX7) ∈ wsX9_init := by decide +kernel
theorem mX9_init_24 : (Cond.instanceMethod yX7_init) ∈ wsX9_init := by decide +kernel
theorem mX9_init_25 : (Cond.fieldLink RX9 36 "BorderRuns" "text" "LBorderRuns$Text;") ∈ wsX9_init := by decide +kernel
theorem mX9_init_26 : ∀ w ∈ wsX30, w ∈ wsX9_init := by decide +kernel
theorem mX9_init_27 : (Cond.classLink RX9 40 RX3) ∈ wsX9_init := by decide +kernel
theorem mX9_init_28 : (Cond.instantiable RX3 4) ∈ wsX9_init := by decide +kernel
theorem mX9_init_29 : (Cond.initialized RX3) ∈ wsX9_init := by decide +kernel
theorem mX9_init_30 : (Cond.instanceMethod yX3_init) ∈ wsX9_init := by decide +kernel
theorem mX9_init_31 : (Cond.fieldLink RX9 43 "BorderRuns" "reader" "LBorderRuns$Reader;") ∈ wsX9_init := by decide +kernel
set_option maxHeartbeats 4000000 in
set_option maxRecDepth 100000 in
theorem kX9_init (l : Launch) (g : zG) (h : Nat) : Met l yX9_init wsX9_init { frames := 3, cells := 21, slots := 409, locals := 61 } (zPn g [.ref h] (va_P g.1 vwCl [(h, .inr (4, [.null, .null, .null, .int 0, .null, .null, .null]))])) (zQv (fun H => ∃ ad : Nat → Nat, ad 16 = h ∧ (∀ i, i < 22 → h ≤ ad i) ∧ PX g ad (fun _ => 0) 0 (fun _ => 0) 0 (fun _ => 0) 0 (fun _ => (fun _ => 0)) (fun _ => 0) (fun _ => 0) 0 0 0 0 0 0 0 0 (fun _ => 0) H) (zGe h)) 21 409 (zGe h) := by
  refine Met.ofZn (cc := cX9_init) (maxL := 1) (ret := none) (by decide) rfl (Nat.le_of_ble_eq_true rfl) ?_
  intro p e s m args below meth c ls hx hb hr hlocks S hin hK hN hpic hl
  have hown := S.2.2.2.1
  have hts := S.2.2.2.2
  have hl : lv_has ls 1 [(0, .ref h)] := hl
  have hP := hpic
  have hS : va_S (zGe h) s.heap s.heap [] := va_S.rf
  refine lv_aload_n hx hb dX9_init_0 rfl (lv_at hl 0 rfl) ?_
  refine lv_objInit hx hb hown (hts _ mX9_init_0) (hts _ mX9_init_1) (hts _ mX9_init_2) (hl.1.trans S.2.2.1.symm) dX9_init_1 (Nat.le_of_ble_eq_true rfl) (Nat.le_of_ble_eq_true rfl) (Nat.le_of_ble_eq_true rfl) ?_
  refine lv_aload_n hx hb dX9_init_4 rfl (lv_at hl 0 rfl) ?_
  have ltP := hP.lt1
  refine zn_new (ci := 3) (fs := [.null, .int 0]) (C := RX8) (T := TX8) (N := 2) hx hb hts mX9_init_3 tyX8 tyX8_ok hown (hts _ mX9_init_4) (hts _ mX9_init_5) (hts _ mX9_init_6) hK hS rfl (fun j hj => by rcases j with _ | _ | j <;> first | rfl | omega) (Nat.le_of_ble_eq_true rfl) (Nat.le_of_ble_eq_true rfl) dX9_init_5 (fun q1 H1 hq1 hp1 hk hS => ?_)
  have hk0 : ∀ x : Nat, x < _ → ¬ False → H1[x]? = _ := fun x a _ => hk x a
  have hP := hP.frm1 hk0 (id)
  refine lv_dup hx hb dX9_init_8 rfl ?_
  refine zc_IN (As := []) (rest := [.ref q1, .ref h]) S (kX8_init l g q1) ⟨va_cnB 0 hts gX9_init_X8_init_n9 rfl rfl rfl hN.1 (hts _ mX9_init_6) (by decide +kernel) ⟨Nat.le_of_ble_eq_true rfl, Nat.le_of_ble_eq_true rfl⟩, rfl, hts _ mX9_init_7⟩ (zc_pre hK hp1) rfl hl.1 rfl (Nat.le_of_ble_eq_true rfl) dX9_init_9 ⟨Nat.le_of_ble_eq_true rfl, Nat.le_of_ble_eq_true rfl⟩ hS (fun x hx9 => by have h9 : q1 ≤ x := hx9; show h ≤ x; omega) (fun H1 locs hp hz hk hS => ?_)
  have hP := hP.frm1 hk (by show ¬ q1 ≤ h; omega)
  obtain ⟨a2, la2, hw2⟩ := hp
  refine zx_putF (D := g.1) (A := zGe h) (ci := 4) (v := .ref q1) (ty := (.object "BorderRuns$Word")) (C := RX9) (T := TX9) (N := 7) hx hb hts mX9_init_8 tyX9 tyX9_ok nmX9 hown hK hP (Nat.le_refl h) hS rfl 0 (by decide) (hts _ mX9_init_9) (fun _ h9 => h9) rfl hin rfl (by decide +kernel) rfl rfl (Nat.le_of_ble_eq_true rfl) dX9_init_12 (fun H1 locs hP hz hk hS => ?_)
  have hP : va_P g.1 vwCl [(h, .inr (4, [.ref q1, .null, .null, .int 0, .null, .null, .null]))] H1 := hP
  have hw2 := hw2.frm hk (by omega) (by omega)
  refine lv_aload_n hx hb dX9_init_15 rfl (lv_at hl 0 rfl) ?_
  have ltP := hP.lt1
  have lt_hw2 := hw2.lt
  refine zn_new (ci := 3) (fs := [.null, .int 0]) (C := RX8) (T := TX8) (N := 2) hx hb hts mX9_init_3 tyX8 tyX8_ok hown (hts _ mX9_init_4) (hts _ mX9_init_5) (hts _ mX9_init_6) hK hS rfl (fun j hj => by rcases j with _ | _ | j <;> first | rfl | omega) (Nat.le_of_ble_eq_true rfl) (Nat.le_of_ble_eq_true rfl) dX9_init_16 (fun q3 H1 hq3 hp3 hk hS => ?_)
  have hk0 : ∀ x : Nat, x < _ → ¬ False → H1[x]? = _ := fun x a _ => hk x a
  have hP := hP.frm1 hk0 (id)
  have hw2 := hw2.frm hk0 (id) (id)
  refine lv_dup hx hb dX9_init_19 rfl ?_
  refine zc_IN (As := []) (rest := [.ref q3, .ref h]) S (kX8_init l g q3) ⟨va_cnB 0 hts gX9_init_X8_init_n9 rfl rfl rfl hN.1 (hts _ mX9_init_6) (by decide +kernel) ⟨Nat.le_of_ble_eq_true rfl, Nat.le_of_ble_eq_true rfl⟩, rfl, hts _ mX9_init_7⟩ (zc_pre hK hp3) rfl hl.1 rfl (Nat.le_of_ble_eq_true rfl) dX9_init_20 ⟨Nat.le_of_ble_eq_true rfl, Nat.le_of_ble_eq_true rfl⟩ hS (fun x hx9 => by have h9 : q3 ≤ x := hx9; show h ≤ x; omega) (fun H1 locs hp hz hk hS => ?_)
  have hP := hP.frm1 hk (by show ¬ q3 ≤ h; omega)
  have hw2 := hw2.frm hk (by show ¬ q3 ≤ q1; omega) (by show ¬ q3 ≤ a2; omega)
  obtain ⟨a4, la4, hw4⟩ := hp
  refine zx_putF (D := g.1) (A := zGe h) (ci := 4) (v := .ref q3) (ty := (.object "BorderRuns$Word")) (C := RX9) (T := TX9) (N := 7) hx hb hts mX9_init_8 tyX9 tyX9_ok nmX9 hown hK hP (Nat.le_refl h) hS rfl 1 (by decide) (hts _ mX9_init_10) (fun _ h9 => h9) rfl hin rfl (by decide +kernel) rfl rfl (Nat.le_of_ble_eq_true rfl) dX9_init_23 (fun H1 locs hP hz hk hS => ?_)
  have hP : va_P g.1 vwCl [(h, .inr (4, [.ref q1, .ref q3, .null, .int 0, .null, .null, .null]))] H1 := hP
  have hw2 := hw2.frm hk (by omega) (by omega)
  have hw4 := hw4.frm hk (by omega) (by omega)
  refine lv_aload_n hx hb dX9_init_26 rfl (lv_at hl 0 rfl) ?_
  have ltP := hP.lt1
  have lt_hw2 := hw2.lt
  have lt_hw4 := hw4.lt
  refine zn_new (ci := 3) (fs := [.null, .int 0]) (C := RX8) (T := TX8) (N := 2) hx hb hts mX9_init_3 tyX8 tyX8_ok hown (hts _ mX9_init_4) (hts _ mX9_init_5) (hts _ mX9_init_6) hK hS rfl (fun j hj => by rcases j with _ | _ | j <;> first | rfl | omega) (Nat.le_of_ble_eq_true rfl) (Nat.le_of_ble_eq_true rfl) dX9_init_27 (fun q5 H1 hq5 hp5 hk hS => ?_)
  have hk0 : ∀ x : Nat, x < _ → ¬ False → H1[x]? = _ := fun x a _ => hk x a
  have hP := hP.frm1 hk0 (id)
  have hw2 := hw2.frm hk0 (id) (id)
  have hw4 := hw4.frm hk0 (id) (id)
  refine lv_dup hx hb dX9_init_30 rfl ?_
  refine zc_IN (As := []) (rest := [.ref q5, .ref h]) S (kX8_init l g q5) ⟨va_cnB 0 hts gX9_init_X8_init_n9 rfl rfl rfl hN.1 (hts _ mX9_init_6) (by decide +kernel) ⟨Nat.le_of_ble_eq_true rfl, Nat.le_of_ble_eq_true rfl⟩, rfl, hts _ mX9_init_7⟩ (zc_pre hK hp5) rfl hl.1 rfl (Nat.le_of_ble_eq_true rfl) dX9_init_31 ⟨Nat.le_of_ble_eq_true rfl, Nat.le_of_ble_eq_true rfl⟩ hS (fun x hx9 => by have h9 : q5 ≤ x := hx9; show h ≤ x; omega) (fun H1 locs hp hz hk hS => ?_)
  have hP := hP.frm1 hk (by show ¬ q5 ≤ h; omega)
  have hw2 := hw2.frm hk (by show ¬ q5 ≤ q1; omega) (by show ¬ q5 ≤ a2; omega)
  have hw4 := hw4.frm hk (by show ¬ q5 ≤ q3; omega) (by show ¬ q5 ≤ a4; omega)
  obtain ⟨a6, la6, hw6⟩ := hp
  refine zx_putF (D := g.1) (A := zGe h) (ci := 4) (v := .ref q5) (ty := (.object "BorderRuns$Word")) (C := RX9) (T := TX9) (N := 7) hx hb hts mX9_init_8 tyX9 tyX9_ok nmX9 hown hK hP (Nat.le_refl h) hS rfl 2 (by decide) (hts _ mX9_init_11) (fun _ h9 => h9) rfl hin rfl (by decide +kernel) rfl rfl (Nat.le_of_ble_eq_true rfl) dX9_init_34 (fun H1 locs hP hz hk hS => ?_)
  have hP : va_P g.1 vwCl [(h, .inr (4, [.ref q1, .ref q3, .ref q5, .int 0, .null, .null, .null]))] H1 := hP
  have hw2 := hw2.frm hk (by omega) (by omega)
  have hw4 := hw4.frm hk (by omega) (by omega)
  have hw6 := hw6.frm hk (by omega) (by omega)
  refine lv_aload_n hx hb dX9_init_37 rfl (lv_at hl 0 rfl) ?_
  refine zv_iconst hx hb dX9_init_38 ?_
  refine zx_put (D := g.1) (A := zGe h) (ci := 4) (v := .int (zI 0)) (ty := .boolean) (C := RX9) (T := TX9) (N := 7) hx hb hts mX9_init_8 tyX9 tyX9_ok nmX9 hown hK hP (Nat.le_refl h) hS rfl 3 (by decide) (hts _ mX9_init_12) (fun _ h9 => h9) rfl (by decide +kernel) rfl rfl (Nat.le_of_ble_eq_true rfl) dX9_init_39 (fun H1 locs hP hk hS => ?_)
  have hP : va_P g.1 vwCl [(h, .inr (4, [.ref q1, .ref q3, .ref q5, .int (zI 0), .null, .null, .null]))] H1 := hP
  have hw2 := hw2.frm hk (by omega) (by omega)
  have hw4 := hw4.frm hk (by omega) (by omega)
  have hw6 := hw6.frm hk (by omega) (by omega)
  refine lv_aload_n hx hb dX9_init_42 rfl (lv_at hl 0 rfl) ?_
  have ltP := hP.lt1
  have lt_hw2 := hw2.lt
  have lt_hw4 := hw4.lt
  have lt_hw6 := hw6.lt
  refine zn_new (ci := 0) (fs := [.null, .int 0, .int 0]) (C := RX1) (T := TX1) (N := 3) hx hb hts mX9_init_13 tyX1 tyX1_ok hown (hts _ mX9_init_14) (hts _ mX9_init_15) (hts _ mX9_init_16) hK hS rfl (fun j hj => by rcases j with _ | _ | _ | j <;> first | rfl | omega) (Nat.le_of_ble_eq_true rfl) (Nat.le_of_ble_eq_true rfl) dX9_init_43 (fun q7 H1 hq7 hp7 hk hS => ?_)
  have hk0 : ∀ x : Nat, x < _ → ¬ False → H1[x]? = _ := fun x a _ => hk x a
  have hP := hP.frm1 hk0 (id)
  have hw2 := hw2.frm hk0 (id) (id)
  have hw4 := hw4.frm hk0 (id) (id)
  have hw6 := hw6.frm hk0 (id) (id)
  refine lv_dup hx hb dX9_init_46 rfl ?_
  refine zc_I (As := []) (rest := [.ref q7, .ref h]) S (kX1_init l g q7) (cwI 0 hts gX9_init_X1_init rfl rfl rfl (hts _ mX9_init_16) (hts _ mX9_init_18) (hts _ mX9_init_17) rfl (by decide +kernel) ⟨Nat.le_of_ble_eq_true rfl, Nat.le_of_ble_eq_true rfl⟩) (zc_preN hK hN hp7) rfl hl.1 rfl (Nat.le_of_ble_eq_true rfl) dX9_init_47 ⟨Nat.le_of_ble_eq_true rfl, Nat.le_of_ble_eq_true rfl⟩ hS (fun x hx9 => by have h9 : q7 ≤ x := hx9; show h ≤ x; omega) (fun H1 locs hp hz hk hS => ?_)
  have hP := hP.frm1 hk (by show ¬ q7 ≤ h; omega)
  have hw2 := hw2.frm hk (by show ¬ q7 ≤ q1; omega) (by show ¬ q7 ≤ a2; omega)
  have hw4 := hw4.frm hk (by show ¬ q7 ≤ q3; omega) (by show ¬ q7 ≤ a4; omega)
  have hw6 := hw6.frm hk (by show ¬ q7 ≤ q5; omega) (by show ¬ q7 ≤ a6; omega)
  obtain ⟨st, b0, c0, b1, c1, b2, c2, b3, c3, F, lo1, ho8, hst, hF, hv0, hv1, hv2, hv3⟩ := hp
  refine zx_putF (D := g.1) (A := zGe h) (ci := 4) (v := .ref q7) (ty := (.object "BorderRuns$History")) (C := RX9) (T := TX9) (N := 7) hx hb hts mX9_init_8 tyX9 tyX9_ok nmX9 hown hK hP (Nat.le_refl h) hS rfl 4 (by decide) (hts _ mX9_init_19) (fun _ h9 => h9) rfl hin rfl (by decide +kernel) rfl rfl (Nat.le_of_ble_eq_true rfl) dX9_init_50 (fun H1 locs hP hz hk hS => ?_)
  have hP : va_P g.1 vwCl [(h, .inr (4, [.ref q1, .ref q3, .ref q5, .int (zI 0), .ref q7, .null, .null]))] H1 := hP
  have hw2 := hw2.frm hk (by omega) (by omega)
  have hw4 := hw4.frm hk (by omega) (by omega)
  have hw6 := hw6.frm hk (by omega) (by omega)
  have ho8 := ho8.frm1 hk (by omega)
  have hst := hst.frm1 hk (by omega)
  have hv0 := hv0.frm hk (by omega) (by omega)
  have hv1 := hv1.frm hk (by omega) (by omega)
  have hv2 := hv2.frm hk (by omega) (by omega)
  have hv3 := hv3.frm hk (by omega) (by omega)
  refine lv_aload_n hx hb dX9_init_53 rfl (lv_at hl 0 rfl) ?_
  have ltP := hP.lt1
  have lt_hw2 := hw2.lt
  have lt_hw4 := hw4.lt
  have lt_hw6 := hw6.lt
  have lt_ho8 := ho8.lt1
  have lt_hst := hst.lt1
  have lt_hv0 := hv0.lt
  have lt_hv1 := hv1.lt
  have lt_hv2 := hv2.lt
  have lt_hv3 := hv3.lt
  refine zn_new (ci := 2) (fs := [.null, .int 0]) (C := RX7) (T := TX7) (N := 2) hx hb hts mX9_init_20 tyX7 tyX7_ok hown (hts _ mX9_init_21) (hts _ mX9_init_22) (hts _ mX9_init_23) hK hS rfl (fun j hj => by rcases j with _ | _ | j <;> first | rfl | omega) (Nat.le_of_ble_eq_true rfl) (Nat.le_of_ble_eq_true rfl) dX9_init_54 (fun q9 H1 hq9 hp9 hk hS => ?_)
  have hk0 : ∀ x : Nat, x < _ → ¬ False → H1[x]? = _ := fun x a _ => hk x a
  have hP := hP.frm1 hk0 (id)
  have hw2 := hw2.frm hk0 (id) (id)
  have hw4 := hw4.frm hk0 (id) (id)
  have hw6 := hw6.frm hk0 (id) (id)
  have ho8 := ho8.frm1 hk0 (id)
  have hst := hst.frm1 hk0 (id)
  have hv0 := hv0.frm hk0 (id) (id)
  have hv1 := hv1.frm hk0 (id) (id)
  have hv2 := hv2.frm hk0 (id) (id)
  have hv3 := hv3.frm hk0 (id) (id)
  refine lv_dup hx hb dX9_init_57 rfl ?_
  refine zc_IN (As := []) (rest := [.ref q9, .ref h]) S (kX7_init l g q9) ⟨va_cnB 0 hts gX9_init_X7_init_n35 rfl rfl rfl hN.2.2.1 (hts _ mX9_init_23) (by decide +kernel) ⟨Nat.le_of_ble_eq_true rfl, Nat.le_of_ble_eq_true rfl⟩, rfl, hts _ mX9_init_24⟩ (zc_pre hK hp9) rfl hl.1 rfl (Nat.le_of_ble_eq_true rfl) dX9_init_58 ⟨Nat.le_of_ble_eq_true rfl, Nat.le_of_ble_eq_true rfl⟩ hS (fun x hx9 => by have h9 : q9 ≤ x := hx9; show h ≤ x; omega) (fun H1 locs hp hz hk hS => ?_)
  have hP := hP.frm1 hk (by show ¬ q9 ≤ h; omega)
  have hw2 := hw2.frm hk (by show ¬ q9 ≤ q1; omega) (by show ¬ q9 ≤ a2; omega)
  have hw4 := hw4.frm hk (by show ¬ q9 ≤ q3; omega) (by show ¬ q9 ≤ a4; omega)
  have hw6 := hw6.frm hk (by show ¬ q9 ≤ q5; omega) (by show ¬ q9 ≤ a6; omega)
  have ho8 := ho8.frm1 hk (by show ¬ q9 ≤ q7; omega)
  have hst := hst.frm1 hk (by show ¬ q9 ≤ st; omega)
  have hv0 := hv0.frm hk (by show ¬ q9 ≤ b0; omega) (by show ¬ q9 ≤ c0; omega)
  have hv1 := hv1.frm hk (by show ¬ q9 ≤ b1; omega) (by show ¬ q9 ≤ c1; omega)
  have hv2 := hv2.frm hk (by show ¬ q9 ≤ b2; omega) (by show ¬ q9 ≤ c2; omega)
  have hv3 := hv3.frm hk (by show ¬ q9 ≤ b3; omega) (by show ¬ q9 ≤ c3; omega)
  obtain ⟨a10, la10, hw10⟩ := hp
  refine zx_putF (D := g.1) (A := zGe h) (ci := 4) (v := .ref q9) (ty := (.object "BorderRuns$Text")) (C := RX9) (T := TX9) (N := 7) hx hb hts mX9_init_8 tyX9 tyX9_ok nmX9 hown hK hP (Nat.le_refl h) hS rfl 5 (by decide) (hts _ mX9_init_25) (fun _ h9 => h9) rfl hin rfl (by decide +kernel) rfl rfl (Nat.le_of_ble_eq_true rfl) dX9_init_61 (fun H1 locs hP hz hk hS => ?_)
  have hP : va_P g.1 vwCl [(h, .inr (4, [.ref q1, .ref q3, .ref q5, .int (zI 0), .ref q7, .ref q9, .null]))] H1 := hP
  have hw2 := hw2.frm hk (by omega) (by omega)
  have hw4 := hw4.frm hk (by omega) (by omega)
  have hw6 := hw6.frm hk (by omega) (by omega)
  have ho8 := ho8.frm1 hk (by omega)
  have hst := hst.frm1 hk (by omega)
  have hv0 := hv0.frm hk (by omega) (by omega)
  have hv1 := hv1.frm hk (by omega) (by omega)
  have hv2 := hv2.frm hk (by omega) (by omega)
  have hv3 := hv3.frm hk (by omega) (by omega)
  have hw10 := hw10.frm hk (by omega) (by omega)
  refine lv_aload_n hx hb dX9_init_64 rfl (lv_at hl 0 rfl) ?_
  have ltP := hP.lt1
  have lt_hw2 := hw2.lt
  have lt_hw4 := hw4.lt
  have lt_hw6 := hw6.lt
  have lt_ho8 := ho8.lt1
  have lt_hst := hst.lt1
  have lt_hv0 := hv0.lt
  have lt_hv1 := hv1.lt
  have lt_hv2 := hv2.lt
  have lt_hv3 := hv3.lt
  have lt_hw10 := hw10.lt
  refine zn_new (ci := 1) (fs := [.null, .int 0, .int 0, .int 0]) (C := RX3) (T := TX3) (N := 4) hx hb hts mX9_init_26 tyX3 tyX3_ok hown (hts _ mX9_init_27) (hts _ mX9_init_28) (hts _ mX9_init_29) hK hS rfl (fun j hj => by rcases j with _ | _ | _ | _ | j <;> first | rfl | omega) (Nat.le_of_ble_eq_true rfl) (Nat.le_of_ble_eq_true rfl) dX9_init_65 (fun q11 H1 hq11 hp11 hk hS => ?_)
  have hk0 : ∀ x : Nat, x < _ → ¬ False → H1[x]? = _ := fun x a _ => hk x a
  have hP := hP.frm1 hk0 (id)
  have hw2 := hw2.frm hk0 (id) (id)
  have hw4 := hw4.frm hk0 (id) (id)
  have hw6 := hw6.frm hk0 (id) (id)
  have ho8 := ho8.frm1 hk0 (id)
  have hst := hst.frm1 hk0 (id)
  have hv0 := hv0.frm hk0 (id) (id)
  have hv1 := hv1.frm hk0 (id) (id)
  have hv2 := hv2.frm hk0 (id) (id)
  have hv3 := hv3.frm hk0 (id) (id)
  have hw10 := hw10.frm hk0 (id) (id)
  refine lv_dup hx hb dX9_init_68 rfl ?_
  refine zc_IN (As := []) (rest := [.ref q11, .ref h]) S (kX3_init l g q11) ⟨va_cnB 0 hts gX9_init_X3_init_n42 rfl rfl rfl hN.2.2.2.1 (hts _ mX9_init_29) (by decide +kernel) ⟨Nat.le_of_ble_eq_true rfl, Nat.le_of_ble_eq_true rfl⟩, rfl, hts _ mX9_init_30⟩ (zc_preN hK hN hp11) rfl hl.1 rfl (Nat.le_of_ble_eq_true rfl) dX9_init_69 ⟨Nat.le_of_ble_eq_true rfl, Nat.le_of_ble_eq_true rfl⟩ hS (fun x hx9 => by have h9 : q11 ≤ x := hx9; show h ≤ x; omega) (fun H1 locs hp hz hk hS => ?_)
  have hP := hP.frm1 hk (by show ¬ q11 ≤ h; omega)
  have hw2 := hw2.frm hk (by show ¬ q11 ≤ q1; omega) (by show ¬ q11 ≤ a2; omega)
  have hw4 := hw4.frm hk (by show ¬ q11 ≤ q3; omega) (by show ¬ q11 ≤ a4; omega)
  have hw6 := hw6.frm hk (by show ¬ q11 ≤ q5; omega) (by show ¬ q11 ≤ a6; omega)
  have ho8 := ho8.frm1 hk (by show ¬ q11 ≤ q7; omega)
  have hst := hst.frm1 hk (by show ¬ q11 ≤ st; omega)
  have hv0 := hv0.frm hk (by show ¬ q11 ≤ b0; omega) (by show ¬ q11 ≤ c0; omega)
  have hv1 := hv1.frm hk (by show ¬ q11 ≤ b1; omega) (by show ¬ q11 ≤ c1; omega)
  have hv2 := hv2.frm hk (by show ¬ q11 ≤ b2; omega) (by show ¬ q11 ≤ c2; omega)
  have hv3 := hv3.frm hk (by show ¬ q11 ≤ b3; omega) (by show ¬ q11 ≤ c3; omega)
  have hw10 := hw10.frm hk (by show ¬ q11 ≤ q9; omega) (by show ¬ q11 ≤ a10; omega)
  obtain ⟨b12, a12, lb12, la12, hw12, ho12⟩ := hp
  refine zx_putF (D := g.1) (A := zGe h) (ci := 4) (v := .ref q11) (ty := (.object "BorderRuns$Reader")) (C := RX9) (T := TX9) (N := 7) hx hb hts mX9_init_8 tyX9 tyX9_ok nmX9 hown hK hP (Nat.le_refl h) hS rfl 6 (by decide) (hts _ mX9_init_31) (fun _ h9 => h9) rfl hin rfl (by decide +kernel) rfl rfl (Nat.le_of_ble_eq_true rfl) dX9_init_72 (fun H1 locs hP hz hk hS => ?_)
  have hP : va_P g.1 vwCl [(h, .inr (4, [.ref q1, .ref q3, .ref q5, .int (zI 0), .ref q7, .ref q9, .ref q11]))] H1 := hP
  have hw2 := hw2.frm hk (by omega) (by omega)
  have hw4 := hw4.frm hk (by omega) (by omega)
  have hw6 := hw6.frm hk (by omega) (by omega)
  have ho8 := ho8.frm1 hk (by omega)
  have hst := hst.frm1 hk (by omega)
  have hv0 := hv0.frm hk (by omega) (by omega)
  have hv1 := hv1.frm hk (by omega) (by omega)
  have hv2 := hv2.frm hk (by omega) (by omega)
  have hv3 := hv3.frm hk (by omega) (by omega)
  have hw10 := hw10.frm hk (by omega) (by omega)
  have ho12 := ho12.frm1 hk (by omega)
  have hw12 := hw12.frm hk (by omega) (by omega)
  exact zw_v hx hb hr hlocks hS dX9_init_75 (⟨fun i => zV [h, q1, a2, q3, a4, q5, a6, q7, st, b0, c0, b1, c1, b2, c2, b3, c3, q9, a10, q11, b12, a12] (zRho i), rfl, zAd_lo (zAd_up ⟨by omega, by omega, by omega, by omega, by omega, by omega, by omega, by omega, by omega, by omega, by omega, by omega, by omega, by omega, by omega, by omega, by omega, by omega, by omega, by omega, by omega⟩), zAd_inj (zAd_up ⟨by omega, by omega, by omega, by omega, by omega, by omega, by omega, by omega, by omega, by omega, by omega, by omega, by omega, by omega, by omega, by omega, by omega, by omega, by omega, by omega, by omega⟩), hw2, hw4, hw6, (fun k hk9 => match k, hk9 with | 0, _ => hv0 | 1, _ => hv1 | 2, _ => hv2 | 3, _ => hv3 | k + 4, hk9 => absurd hk9 (by omega)), hw12, hP, ho8, va_P.refs (fun k hk9 => match k, hk9 with | 0, _ => hF.1 | 1, _ => hF.2.1 | 2, _ => hF.2.2.1 | 3, _ => hF.2.2.2 | k + 4, hk9 => absurd hk9 (by omega)) hst, hw10, ho12, by omega, by omega, by omega, by omega, by omega, by omega⟩)

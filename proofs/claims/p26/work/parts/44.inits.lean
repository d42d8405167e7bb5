theorem mX8_init_0 : (Cond.methodLink RX8 3 Lib.objectInit) ∈ wsX8_init := by decide +kernel
theorem mX8_init_1 : (Cond.instanceMethod Lib.objectInit) ∈ wsX8_init := by decide +kernel
theorem mX8_init_2 : (Cond.code Lib.objectInit ⟨#[0xb1]⟩ 1 none) ∈ wsX8_init := by decide +kernel
theorem mX8_init_3 : (Cond.arrayClass .int) ∈ wsX8_init := by decide +kernel
theorem mX8_init_4 : ∀ w ∈ wsX80, w ∈ wsX8_init := by decide +kernel
theorem mX8_init_5 : (Cond.fieldLink RX8 9 "BorderRuns$Word" "letters" "[I") ∈ wsX8_init := by decide +kernel
theorem mX8_init_6 : (Cond.fieldLink RX8 15 "BorderRuns$Word" "length" "I") ∈ wsX8_init := by decide +kernel
set_option maxHeartbeats 4000000 in
set_option maxRecDepth 100000 in
theorem kX8_init (l : Launch) (g : zG) (h : Nat) : Met l yX8_init wsX8_init { frames := 1, cells := 1, slots := 40, locals := 20 } (zP g [.ref h] (va_P g.1 vwCl [(h, .inr (3, [.null, .int 0]))])) (zQv (fun H => ∃ a, h < a ∧ PW g h a (fun _ => 0) 0 H) (zGe h)) 1 40 (zGe h) := by
  refine Met.ofZ (cc := cX8_init) (maxL := 1) (ret := none) (by decide) rfl (Nat.le_of_ble_eq_true rfl) ?_
  intro p e s m args below meth c ls hx hb hr hlocks S hin hK hpic hl
  have hown := S.2.2.2.1
  have hts := S.2.2.2.2
  have hl : lv_has ls 1 [(0, .ref h)] := hl
  have hP := hpic
  have hlt := hP.lt1
  have hS : va_S (zGe h) s.heap s.heap [] := va_S.rf
  refine lv_aload_n hx hb dX8_init_0 rfl (lv_at hl 0 rfl) ?_
  refine lv_objInit hx hb hown (hts _ mX8_init_0) (hts _ mX8_init_1) (hts _ mX8_init_2) (hl.1.trans S.2.2.1.symm) dX8_init_1 (Nat.le_of_ble_eq_true rfl) (Nat.le_of_ble_eq_true rfl) (Nat.le_of_ble_eq_true rfl) ?_
  refine lv_aload_n hx hb dX8_init_4 rfl (lv_at hl 0 rfl) ?_
  refine zv_bipush hx hb dX8_init_5 (by decide +kernel) ?_
  refine zn_newi (N := 40) hx hb (hts _ mX8_init_3) hK hS (by omega) (Nat.le_of_ble_eq_true rfl) (Nat.le_of_ble_eq_true rfl) dX8_init_7 (fun q7 H1 hq7 hp7 hz7 hk hS => ?_)
  have hlt := hP.lt1
  have hk0 : ∀ x : Nat, x < _ → ¬ False → H1[x]? = _ := fun x a _ => hk x a
  have hP := hP.frm1 hk0 id
  refine zx_putF (D := g.1) (A := zGe h) (ci := 3) (v := .ref q7) (ty := (.array .int)) (C := RX8) (T := TX8) (N := 2) hx hb hts mX8_init_4 tyX8 tyX8_ok nmX8 hown hK hP (Nat.le_refl h) hS rfl 0 (by decide) (hts _ mX8_init_5) (fun _ h9 => h9) rfl hin rfl (by decide +kernel) rfl rfl (Nat.le_of_ble_eq_true rfl) dX8_init_9 (fun H1 locs hP hz hk hS => ?_)
  have hP : va_P g.1 vwCl [(h, .inr (3, [.ref q7, .int 0]))] H1 := hP
  have hp7 := hp7.frm1 hk (by omega)
  refine lv_aload_n hx hb dX8_init_12 rfl (lv_at hl 0 rfl) ?_
  refine zv_iconst hx hb dX8_init_13 ?_
  refine zx_put (D := g.1) (A := zGe h) (ci := 3) (v := .int (zI 0)) (ty := .int) (C := RX8) (T := TX8) (N := 2) hx hb hts mX8_init_4 tyX8 tyX8_ok nmX8 hown hK hP (Nat.le_refl h) hS rfl 1 (by decide) (hts _ mX8_init_6) (fun _ h9 => h9) rfl (by decide +kernel) rfl rfl (Nat.le_of_ble_eq_true rfl) dX8_init_14 (fun H1 locs hP hk hS => ?_)
  have hP : va_P g.1 vwCl [(h, .inr (3, [.ref q7, .int (zI 0)]))] H1 := hP
  have hp7 := hp7.frm1 hk (by omega)
  exact zw_v hx hb hr hlocks hS dX8_init_17 (⟨q7, by omega, by omega, fun k a b => absurd b (by omega), _, hP.pair hp7, fun k a b => absurd b (by omega), by omega⟩)

theorem mX7_init_0 : (Cond.methodLink RX7 3 Lib.objectInit) ∈ wsX7_init := by decide +kernel
theorem mX7_init_1 : (Cond.instanceMethod Lib.objectInit) ∈ wsX7_init := by decide +kernel
theorem mX7_init_2 : (Cond.code Lib.objectInit ⟨#[0xb1]⟩ 1 none) ∈ wsX7_init := by decide +kernel
theorem mX7_init_3 : (Cond.arrayClass .char) ∈ wsX7_init := by decide +kernel
theorem mX7_init_4 : ∀ w ∈ wsX70, w ∈ wsX7_init := by decide +kernel
theorem mX7_init_5 : (Cond.fieldLink RX7 9 "BorderRuns$Text" "characters" "[C") ∈ wsX7_init := by decide +kernel
theorem mX7_init_6 : (Cond.fieldLink RX7 15 "BorderRuns$Text" "length" "I") ∈ wsX7_init := by decide +kernel
set_option maxHeartbeats 4000000 in
set_option maxRecDepth 100000 in
theorem kX7_init (l : Launch) (g : zG) (h : Nat) : Met l yX7_init wsX7_init { frames := 1, cells := 1, slots := 60, locals := 20 } (zP g [.ref h] (va_P g.1 vwCl [(h, .inr (2, [.null, .int 0]))])) (zQv (fun H => ∃ a, h < a ∧ PT g h a (fun _ => 0) 0 H) (zGe h)) 1 60 (zGe h) := by
  refine Met.ofZ (cc := cX7_init) (maxL := 1) (ret := none) (by decide) rfl (Nat.le_of_ble_eq_true rfl) ?_
  intro p e s m args below meth c ls hx hb hr hlocks S hin hK hpic hl
  have hown := S.2.2.2.1
  have hts := S.2.2.2.2
  have hl : lv_has ls 1 [(0, .ref h)] := hl
  have hP := hpic
  have hlt := hP.lt1
  have hS : va_S (zGe h) s.heap s.heap [] := va_S.rf
  refine lv_aload_n hx hb dX7_init_0 rfl (lv_at hl 0 rfl) ?_
  refine lv_objInit hx hb hown (hts _ mX7_init_0) (hts _ mX7_init_1) (hts _ mX7_init_2) (hl.1.trans S.2.2.1.symm) dX7_init_1 (Nat.le_of_ble_eq_true rfl) (Nat.le_of_ble_eq_true rfl) (Nat.le_of_ble_eq_true rfl) ?_
  refine lv_aload_n hx hb dX7_init_4 rfl (lv_at hl 0 rfl) ?_
  refine zv_bipush hx hb dX7_init_5 (by decide +kernel) ?_
  refine zn_newc (N := 60) hx hb (hts _ mX7_init_3) hK hS (by omega) (Nat.le_of_ble_eq_true rfl) (Nat.le_of_ble_eq_true rfl) dX7_init_7 (fun q7 H1 hq7 hp7 hz7 hk hS => ?_)
  have hlt := hP.lt1
  have hk0 : ∀ x : Nat, x < _ → ¬ False → H1[x]? = _ := fun x a _ => hk x a
  have hP := hP.frm1 hk0 id
  refine zx_putF (D := g.1) (A := zGe h) (ci := 2) (v := .ref q7) (ty := (.array .char)) (C := RX7) (T := TX7) (N := 2) hx hb hts mX7_init_4 tyX7 tyX7_ok nmX7 hown hK hP (Nat.le_refl h) hS rfl 0 (by decide) (hts _ mX7_init_5) (fun _ h9 => h9) rfl hin rfl (by decide +kernel) rfl rfl (Nat.le_of_ble_eq_true rfl) dX7_init_9 (fun H1 locs hP hz hk hS => ?_)
  have hP : va_P g.1 vwCl [(h, .inr (2, [.ref q7, .int 0]))] H1 := hP
  have hp7 := hp7.frm1 hk (by omega)
  refine lv_aload_n hx hb dX7_init_12 rfl (lv_at hl 0 rfl) ?_
  refine zv_iconst hx hb dX7_init_13 ?_
  refine zx_put (D := g.1) (A := zGe h) (ci := 2) (v := .int (zI 0)) (ty := .int) (C := RX7) (T := TX7) (N := 2) hx hb hts mX7_init_4 tyX7 tyX7_ok nmX7 hown hK hP (Nat.le_refl h) hS rfl 1 (by decide) (hts _ mX7_init_6) (fun _ h9 => h9) rfl (by decide +kernel) rfl rfl (Nat.le_of_ble_eq_true rfl) dX7_init_14 (fun H1 locs hP hk hS => ?_)
  have hP : va_P g.1 vwCl [(h, .inr (2, [.ref q7, .int (zI 0)]))] H1 := hP
  have hp7 := hp7.frm1 hk (by omega)
  exact zw_v hx hb hr hlocks hS dX7_init_17 (⟨q7, by omega, by omega, fun k a b => absurd b (by omega), _, hP.pair hp7, fun k a b => absurd b (by omega), by omega⟩)

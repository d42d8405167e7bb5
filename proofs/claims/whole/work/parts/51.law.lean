theorem mL_law_0 : (Cond.classLink RL 7 RX9) ∈ wsL_law := by decide +kernel
theorem mL_law_1 : (Cond.instantiable RX9 7) ∈ wsL_law := by decide +kernel
theorem mL_law_2 : (Cond.initialized RX9) ∈ wsL_law := by decide +kernel
theorem mL_law_3 : (Cond.methodLink RL 9 yX9_init) ∈ wsL_law := by decide +kernel
theorem mL_law_4 : (Cond.instanceMethod yX9_init) ∈ wsL_law := by decide +kernel
theorem mL_law_5 : (Cond.classLink RL 10 RX10) ∈ wsL_law := by decide +kernel
theorem mL_law_6 : (Cond.instantiable RX10 6) ∈ wsL_law := by decide +kernel
theorem mL_law_7 : (Cond.initialized RX10) ∈ wsL_law := by decide +kernel
theorem mL_law_8 : (Cond.methodLink RL 12 yX10_init) ∈ wsL_law := by decide +kernel
theorem mL_law_9 : (Cond.instanceMethod yX10_init) ∈ wsL_law := by decide +kernel
set_option maxHeartbeats 8000000 in
set_option maxRecDepth 100000 in
theorem zLaw {p : Program} {e : Env} {s : State} {m : MethodId} {below : List Frame} {meth : Method} {c : Code} (l : Launch) {b L : Nat} {xs : Nat → Int32} (hL : L ≤ 2048) (hx : p.tables.exec = Jvm.exec) (hb : c.code = code) (hr : meth.sig.returnType = ret) (hml : c.maxLocals = 4) (hown : s.vm.findClass RL = some m.cls) (hts : ∀ w ∈ wsL_law, w.before #[Value.ref b] s = true) (hX : va_X b L xs s s.heap) (hbl : b < s.heap.size) (hlocks : meth.locks = false) {g : zG} (hK : zK g s) (hN : zNest s) {ls : Array Slot} (hl : lv_has ls 4 [(0, .ref b)]) : W p l e room_1 s m #[Value.ref b] below meth c s.heap [] 0 0 (lw_Z below #[Value.ref b] s) (F0 m 0 ls []) := by
  have S : CallFix p m c code 4 s #[Value.ref b] wsL_law RL := ⟨hx, hb, hml, hown, hts⟩
  have hS : va_S (zGe s.heap.size) s.heap s.heap [] := va_S.rf
  refine zn_new (ci := 4) (fs := [.null, .null, .null, .int 0, .null, .null, .null]) (C := RX9) (T := TX9) (N := 7) hx hb hts inlX9 tyX9 tyX9_ok hown (hts _ mL_law_0) (hts _ mL_law_1) (hts _ mL_law_2) hK hS rfl (fun j hj => by rcases j with _ | _ | _ | _ | _ | _ | _ | j <;> first | rfl | omega) (Nat.le_of_ble_eq_true rfl) (Nat.le_of_ble_eq_true rfl) dL_law_0 (fun x H1 hq_x hp_x hk hS => ?_)
  refine lv_dup hx hb dL_law_3 rfl ?_
  refine zc_I (As := []) (rest := [.ref x]) S (kX9_init l g x) (cwI 0 hts gL_law_X9_init rfl rfl rfl (hts _ mL_law_2) (hts _ mL_law_3) (hts _ mL_law_4) rfl (by decide +kernel) ⟨Nat.le_of_ble_eq_true rfl, Nat.le_of_ble_eq_true rfl⟩) (zc_preN hK hN hp_x) rfl hl.1 rfl (Nat.le_of_ble_eq_true rfl) dL_law_4 ⟨Nat.le_of_ble_eq_true rfl, Nat.le_of_ble_eq_true rfl⟩ hS (fun z hz9 => by have h9 : x ≤ z := hz9; show s.heap.size ≤ z; omega) (fun H1 locs hp hz hk hS => ?_)
  obtain ⟨ad, e16, hlo, hPX⟩ := hp
  subst e16
  have hlt := hPX.lt
  refine lv_astore_n (lv' := [(1, .ref (ad 16)), (0, .ref b)]) hx hb dL_law_7 rfl hl (by decide) rfl (fun ls hl => ?_)
  clear hk
  refine zn_new (ci := 5) (fs := [.null, .int 0, .int 0, .null, .int 0, .null]) (C := RX10) (T := TX10) (N := 6) hx hb hts inlX10 tyX10 tyX10_ok hown (hts _ mL_law_5) (hts _ mL_law_6) (hts _ mL_law_7) hK hS rfl (fun j hj => by rcases j with _ | _ | _ | _ | _ | _ | j <;> first | rfl | omega) (Nat.le_of_ble_eq_true rfl) (Nat.le_of_ble_eq_true rfl) dL_law_8 (fun y H1 hq_y hp_y hk hS => ?_)
  have hk0 : ∀ z : Nat, z < _ → ¬ False → H1[z]? = _ := fun z a _ => hk z a
  have hPX := hPX.frm hk0 (fun _ _ => id)
  have hlt : ∀ i, i < 22 → ad i < y := fun i hi => by have := hlt i hi; omega
  have hy0 : s.heap.size ≤ y := by have := hlt 16 (by omega); omega
  refine lv_dup hx hb dL_law_11 rfl ?_
  refine zc_I (As := []) (rest := [.ref y]) S (kX10_init l g y) (cwI 0 hts gL_law_X10_init rfl rfl rfl (hts _ mL_law_7) (hts _ mL_law_8) (hts _ mL_law_9) rfl (by decide +kernel) ⟨Nat.le_of_ble_eq_true rfl, Nat.le_of_ble_eq_true rfl⟩) (zc_pre hK hp_y) rfl hl.1 rfl (Nat.le_of_ble_eq_true rfl) dL_law_12 ⟨Nat.le_of_ble_eq_true rfl, Nat.le_of_ble_eq_true rfl⟩ hS (fun z hz9 => by have h9 : y ≤ z := hz9; show s.heap.size ≤ z; omega) (fun H1 locs hp hz hk hS => ?_)
  obtain ⟨sa, ta, oa, hlo2, hRM⟩ := hp
  have hPX := hPX.frm hk (fun i hi => by have := hlt i hi; show ¬ y ≤ ad i; omega)
  refine lv_astore_n (lv' := [(2, .ref y), (1, .ref (ad 16)), (0, .ref b)]) hx hb dL_law_15 rfl hl (by decide) rfl (fun ls hl => ?_)
  have hA : AXt g ad zNil H1 := show AX g ad (fun _ => 0) 0 (fun _ _ => 0) (fun _ => 0) 0 (fun _ => 0) 0 0 (fun _ => 0) 0 H1 from AX.of hPX (fun h => absurd h (by decide)) (fun j hj => absurd hj (by omega))
  have hM : AMt g y sa ta oa zNil H1 := show AM g y sa ta oa (fun _ => 0) 0 (fun _ _ => 0) (fun _ => 0) 0 (fun _ => 0) 0 0 (fun _ => 0) 0 H1 from ⟨_, _, _, hRM, ⟨⟨rfl, by omega, fun k a b => absurd b (by omega)⟩, fun j hj => absurd hj (by omega), fun h => absurd h (by decide)⟩, fun k a b => absurd b (by omega)⟩
  have hinA : ∀ q, zAx ad q → zGe s.heap.size q := fun q hq => by
    obtain ⟨i, hi, rfl⟩ := hq
    have := hlo i hi
    show s.heap.size ≤ ad i
    omega
  have hinM : ∀ q, zA4 y sa ta oa q → zGe s.heap.size q := fun q hq => by
    show s.heap.size ≤ q
    rcases hq with hq | hq | hq | hq <;> omega
  have hfM : ¬ zAx ad y ∧ ¬ zAx ad sa ∧ ¬ zAx ad ta ∧ ¬ zAx ad oa := ⟨fun ⟨i, hi, e⟩ => by have := hlt i hi; omega, fun ⟨i, hi, e⟩ => by have := hlt i hi; omega, fun ⟨i, hi, e⟩ => by have := hlt i hi; omega, fun ⟨i, hi, e⟩ => by have := hlt i hi; omega⟩
  have hfA : ∀ i, i < 22 → ¬ zA4 y sa ta oa (ad i) := fun i hi hq => by
    have := hlt i hi
    rcases hq with hq | hq | hq | hq <;> omega
  have hbA : ¬ zGe s.heap.size b := fun h9 => by have h9 : s.heap.size ≤ b := h9; omega
  clear hPX hRM hk
  refine zv_iconst hx hb dL_law_16 ?_
  refine lv_istore_n (lv' := [(3, .int (zI 0)), (2, .ref y), (1, .ref (ad 16)), (0, .ref b)]) hx hb dL_law_17 rfl hl (by decide) rfl (fun ls hl => ?_)
  have lp18 : ∀ (z_f : Nat) (i : Int) (σ : zSg) (H1 : Heap) (locs : List Loc), (0 ≤ i ∧ i ≤ L) → (AXt g ad σ H1) → (AMt g y sa ta oa σ H1) → (va_S (zGe s.heap.size) s.heap H1 locs) → (((L : Int) + 4 - i).toNat) < z_f → ∀ (ls : Array Slot), lv_has ls 4 [(0, .ref b), (1, .ref (ad 16)), (2, .ref y), (3, .int (zI i))] → W p l e room_1 s m #[Value.ref b] below meth c H1 locs 26 810 (lw_Z below #[Value.ref b] s) (F0 m 18 ls []) := by
    intro z_f
    induction z_f with
    | zero => intro i σ H1 locs h0 hA hM hS z_m; exact absurd z_m (Nat.not_lt_zero _)
    | succ z_f ih18 =>
      intro i σ H1 locs h0 hA hM hS z_m18 ls hl
      obtain ⟨w, n, ee, en, hc, u, un, hs, tc, tn⟩ := σ
      refine lv_iload_n hx hb dL_law_18 rfl (lv_at hl 3 rfl) ?_
      refine lv_aload_n hx hb dL_law_19 rfl (lv_at hl 0 rfl) ?_
      refine va_slen hx hb hX hbl hbA hS dL_law_20 ?_
      rw [zI_nat]
      refine zv_iconst hx hb dL_law_21 ?_
      refine zv_isub hx hb dL_law_22 ?_
      refine zv_icmp_gt (tgt := 717) hx hb dL_law_23 (by decide) (by omega) (by omega) (fun c23 => ?_) (fun c23 => ?_)
      · refine lv_iconst (v := 1) hx hb dL_law_717 rfl ?_
        refine va_forget (fun q hq => hS.2.2 q hq) ?_
        refine W.widen (k := 600000) (n := 7302250) (by decide) (by decide) ?_
        exact lw_ret hx hb hr hlocks dL_law_718
      · refine lv_aload_n hx hb dL_law_26 rfl (lv_at hl 0 rfl) ?_
        refine lv_iload_n hx hb dL_law_27 rfl (lv_at hl 3 rfl) ?_
        refine va_sld hx hb hX hbl hbA hS (i := zI (i)) (zI_in (by omega) (by omega)) dL_law_28 ?_
        refine zv_bipush hx hb dL_law_29 (by decide +kernel) ?_
        refine lv_iand hx hb dL_law_31 ?_
        obtain ⟨op, eop, bop⟩ := zOp (xs (zI i).toNatClampNeg)
        rw [eop]
        rcases (show op = 0 ∨ op = 1 ∨ op = 2 ∨ op = 3 ∨ op = 4 ∨ op = 5 ∨ op = 6 ∨ op = 7 ∨ op = 8 ∨ op = 9 ∨ op = 10 ∨ op = 11 ∨ op = 12 ∨ op = 13 ∨ op = 14 ∨ op = 15 ∨ op = 16 ∨ op = 17 ∨ op = 18 ∨ op = 19 ∨ op = 20 ∨ op = 21 ∨ op = 22 ∨ (op < 0 ∨ 22 < op) by omega) with c32 | c32 | c32 | c32 | c32 | c32 | c32 | c32 | c32 | c32 | c32 | c32 | c32 | c32 | c32 | c32 | c32 | c32 | c32 | c32 | c32 | c32 | c32 | c32
        · subst c32
          refine zv_tableIn (a := 0) (tgt := 140) hx hb dL_law_32 (by omega) (by omega) (by omega) rfl (by decide) ?_
          refine lv_aload_n hx hb dL_law_140 rfl (lv_at hl 1 rfl) ?_
          refine lv_aload_n hx hb dL_law_141 rfl (lv_at hl 0 rfl) ?_
          refine lv_iload_n hx hb dL_law_142 rfl (lv_at hl 3 rfl) ?_
          refine zv_iconst hx hb dL_law_143 ?_
          refine zv_iadd hx hb dL_law_144 ?_
          refine va_sld hx hb hX hbl hbA hS (i := zI (i + 1)) (zI_in (by omega) (by omega)) dL_law_145 ?_
          obtain ⟨a145, ea145, ba145⟩ := zI_of (xs (zI (i + 1)).toNatClampNeg)
          rw [ea145]
          refine zc_VWi (As := [.int (zI a145)]) (rest := []) S hK (kX9_add l g ad w n ee en hc u un hs tc tn a145 (by omega)) (cwV 1 hts gL_law_X9_add rfl rfl rfl (by decide +kernel) ⟨Nat.le_of_ble_eq_true rfl, Nat.le_of_ble_eq_true rfl⟩) (hA) (hA.recv hK) rfl hl.1 rfl (Nat.le_of_ble_eq_true rfl) dL_law_146 ⟨Nat.le_of_ble_eq_true rfl, Nat.le_of_ble_eq_true rfl⟩ hS (hinA) (fun r H1 locs hp hz hk hS => ?_)
          have hM : AMt g y sa ta oa (w, n, ee, en, hc, u, un, hs, tc, tn) H1 := AMt.frm (σ := (w, n, ee, en, hc, u, un, hs, tc, tn)) hM hk hfM.1 hfM.2.1 hfM.2.2.1 hfM.2.2.2
          obtain ⟨rfl, hA⟩ := hp
          refine lv_aload_n hx hb dL_law_149 rfl (lv_at hl 2 rfl) ?_
          refine lv_aload_n hx hb dL_law_150 rfl (lv_at hl 0 rfl) ?_
          refine lv_iload_n hx hb dL_law_151 rfl (lv_at hl 3 rfl) ?_
          refine zv_iconst hx hb dL_law_152 ?_
          refine zv_iadd hx hb dL_law_153 ?_
          refine va_sld hx hb hX hbl hbA hS (i := zI (i + 1)) (zI_in (by omega) (by omega)) dL_law_154 ?_
          rw [ea145]
          refine zc_VWi (As := [.int (zI a145)]) (rest := [.int (zI ((sAdd w n ee en hc u un hs tc tn a145).1))]) S hK (kX10_add l g y sa ta oa w n ee en hc u un hs tc tn a145 (by omega)) (cwV 1 hts gL_law_X10_add rfl rfl rfl (by decide +kernel) ⟨Nat.le_of_ble_eq_true rfl, Nat.le_of_ble_eq_true rfl⟩) (hM) (hM.recv hK) rfl hl.1 rfl (Nat.le_of_ble_eq_true rfl) dL_law_155 ⟨Nat.le_of_ble_eq_true rfl, Nat.le_of_ble_eq_true rfl⟩ hS (hinM) (fun r H1 locs hp hz hk hS => ?_)
          have hA := hA.frm hk hfA
          obtain ⟨rfl, hM⟩ := hp
          refine lv_icmp_eq (tgt := 711) hx hb dL_law_158 (by decide) (fun _ => ?_) (fun h9 => absurd rfl h9)
          refine zv_iinc (lv' := [(3, .int (zI (i + 4))), (0, .ref b), (1, .ref (ad 16)), (2, .ref y)]) hx hb dL_law_711 hl (k := 3) rfl (by decide) rfl (fun ls hl => ?_)
          refine lv_goto (tgt := 18) hx hb dL_law_714 (by decide) ?_
          exact ih18 (i + 4) ((sAdd w n ee en hc u un hs tc tn a145).2) _ _ (by omega) (hA) (hM) (hS) (by omega) _ (lv_sub hl [1, 2, 3, 0] rfl)
        · subst c32
          refine zv_tableIn (a := 1) (tgt := 163) hx hb dL_law_32 (by omega) (by omega) (by omega) rfl (by decide) ?_
          refine lv_aload_n hx hb dL_law_163 rfl (lv_at hl 1 rfl) ?_
          refine lv_aload_n hx hb dL_law_164 rfl (lv_at hl 0 rfl) ?_
          refine lv_iload_n hx hb dL_law_165 rfl (lv_at hl 3 rfl) ?_
          refine zv_iconst hx hb dL_law_166 ?_
          refine zv_iadd hx hb dL_law_167 ?_
          refine va_sld hx hb hX hbl hbA hS (i := zI (i + 1)) (zI_in (by omega) (by omega)) dL_law_168 ?_
          obtain ⟨a168, ea168, ba168⟩ := zI_of (xs (zI (i + 1)).toNatClampNeg)
          rw [ea168]
          refine zc_VWi (As := [.int (zI a168)]) (rest := []) S hK (kX9_drop l g ad w n ee en hc u un hs tc tn a168 (by omega)) (cwV 1 hts gL_law_X9_drop rfl rfl rfl (by decide +kernel) ⟨Nat.le_of_ble_eq_true rfl, Nat.le_of_ble_eq_true rfl⟩) (hA) (hA.recv hK) rfl hl.1 rfl (Nat.le_of_ble_eq_true rfl) dL_law_169 ⟨Nat.le_of_ble_eq_true rfl, Nat.le_of_ble_eq_true rfl⟩ hS (hinA) (fun r H1 locs hp hz hk hS => ?_)
          have hM : AMt g y sa ta oa (w, n, ee, en, hc, u, un, hs, tc, tn) H1 := AMt.frm (σ := (w, n, ee, en, hc, u, un, hs, tc, tn)) hM hk hfM.1 hfM.2.1 hfM.2.2.1 hfM.2.2.2
          obtain ⟨rfl, hA⟩ := hp
          refine lv_aload_n hx hb dL_law_172 rfl (lv_at hl 2 rfl) ?_
          refine lv_aload_n hx hb dL_law_173 rfl (lv_at hl 0 rfl) ?_
          refine lv_iload_n hx hb dL_law_174 rfl (lv_at hl 3 rfl) ?_
          refine zv_iconst hx hb dL_law_175 ?_
          refine zv_iadd hx hb dL_law_176 ?_
          refine va_sld hx hb hX hbl hbA hS (i := zI (i + 1)) (zI_in (by omega) (by omega)) dL_law_177 ?_
          rw [ea168]
          refine zc_VWi (As := [.int (zI a168)]) (rest := [.int (zI ((sDrop w n ee en hc u un hs tc tn a168).1))]) S hK (kX10_drop l g y sa ta oa w n ee en hc u un hs tc tn a168 (by omega)) (cwV 1 hts gL_law_X10_drop rfl rfl rfl (by decide +kernel) ⟨Nat.le_of_ble_eq_true rfl, Nat.le_of_ble_eq_true rfl⟩) (hM) (hM.recv hK) rfl hl.1 rfl (Nat.le_of_ble_eq_true rfl) dL_law_178 ⟨Nat.le_of_ble_eq_true rfl, Nat.le_of_ble_eq_true rfl⟩ hS (hinM) (fun r H1 locs hp hz hk hS => ?_)
          have hA := hA.frm hk hfA
          obtain ⟨rfl, hM⟩ := hp
          refine lv_icmp_eq (tgt := 711) hx hb dL_law_181 (by decide) (fun _ => ?_) (fun h9 => absurd rfl h9)
          refine zv_iinc (lv' := [(3, .int (zI (i + 4))), (0, .ref b), (1, .ref (ad 16)), (2, .ref y)]) hx hb dL_law_711 hl (k := 3) rfl (by decide) rfl (fun ls hl => ?_)
          refine lv_goto (tgt := 18) hx hb dL_law_714 (by decide) ?_
          exact ih18 (i + 4) ((sDrop w n ee en hc u un hs tc tn a168).2) _ _ (by omega) (hA) (hM) (hS) (by omega) _ (lv_sub hl [1, 2, 3, 0] rfl)
        · subst c32
          refine zv_tableIn (a := 2) (tgt := 186) hx hb dL_law_32 (by omega) (by omega) (by omega) rfl (by decide) ?_
          refine lv_aload_n hx hb dL_law_186 rfl (lv_at hl 1 rfl) ?_
          refine lv_aload_n hx hb dL_law_187 rfl (lv_at hl 0 rfl) ?_
          refine lv_iload_n hx hb dL_law_188 rfl (lv_at hl 3 rfl) ?_
          refine zv_iconst hx hb dL_law_189 ?_
          refine zv_iadd hx hb dL_law_190 ?_
          refine va_sld hx hb hX hbl hbA hS (i := zI (i + 1)) (zI_in (by omega) (by omega)) dL_law_191 ?_
          obtain ⟨a191, ea191, ba191⟩ := zI_of (xs (zI (i + 1)).toNatClampNeg)
          rw [ea191]
          refine lv_aload_n hx hb dL_law_192 rfl (lv_at hl 0 rfl) ?_
          refine lv_iload_n hx hb dL_law_193 rfl (lv_at hl 3 rfl) ?_
          refine zv_iconst hx hb dL_law_194 ?_
          refine zv_iadd hx hb dL_law_195 ?_
          refine va_sld hx hb hX hbl hbA hS (i := zI (i + 2)) (zI_in (by omega) (by omega)) dL_law_196 ?_
          obtain ⟨a196, ea196, ba196⟩ := zI_of (xs (zI (i + 2)).toNatClampNeg)
          rw [ea196]
          refine zc_VWi (As := [.int (zI a191), .int (zI a196)]) (rest := []) S hK (kX9_change l g ad w n ee en hc u un hs tc tn a191 a196 (by omega) (by omega)) (cwV 2 hts gL_law_X9_change rfl rfl rfl (by decide +kernel) ⟨Nat.le_of_ble_eq_true rfl, Nat.le_of_ble_eq_true rfl⟩) (hA) (hA.recv hK) rfl hl.1 rfl (Nat.le_of_ble_eq_true rfl) dL_law_197 ⟨Nat.le_of_ble_eq_true rfl, Nat.le_of_ble_eq_true rfl⟩ hS (hinA) (fun r H1 locs hp hz hk hS => ?_)
          have hM : AMt g y sa ta oa (w, n, ee, en, hc, u, un, hs, tc, tn) H1 := AMt.frm (σ := (w, n, ee, en, hc, u, un, hs, tc, tn)) hM hk hfM.1 hfM.2.1 hfM.2.2.1 hfM.2.2.2
          obtain ⟨rfl, hA⟩ := hp
          refine lv_aload_n hx hb dL_law_200 rfl (lv_at hl 2 rfl) ?_
          refine lv_aload_n hx hb dL_law_201 rfl (lv_at hl 0 rfl) ?_
          refine lv_iload_n hx hb dL_law_202 rfl (lv_at hl 3 rfl) ?_
          refine zv_iconst hx hb dL_law_203 ?_
          refine zv_iadd hx hb dL_law_204 ?_
          refine va_sld hx hb hX hbl hbA hS (i := zI (i + 1)) (zI_in (by omega) (by omega)) dL_law_205 ?_
          rw [ea191]
          refine lv_aload_n hx hb dL_law_206 rfl (lv_at hl 0 rfl) ?_
          refine lv_iload_n hx hb dL_law_207 rfl (lv_at hl 3 rfl) ?_
          refine zv_iconst hx hb dL_law_208 ?_
          refine zv_iadd hx hb dL_law_209 ?_
          refine va_sld hx hb hX hbl hbA hS (i := zI (i + 2)) (zI_in (by omega) (by omega)) dL_law_210 ?_
          rw [ea196]
          refine zc_VWi (As := [.int (zI a191), .int (zI a196)]) (rest := [.int (zI ((sChange w n ee en hc u un hs tc tn a191 a196).1))]) S hK (kX10_change l g y sa ta oa w n ee en hc u un hs tc tn a191 a196 (by omega) (by omega)) (cwV 2 hts gL_law_X10_change rfl rfl rfl (by decide +kernel) ⟨Nat.le_of_ble_eq_true rfl, Nat.le_of_ble_eq_true rfl⟩) (hM) (hM.recv hK) rfl hl.1 rfl (Nat.le_of_ble_eq_true rfl) dL_law_211 ⟨Nat.le_of_ble_eq_true rfl, Nat.le_of_ble_eq_true rfl⟩ hS (hinM) (fun r H1 locs hp hz hk hS => ?_)
          have hA := hA.frm hk hfA
          obtain ⟨rfl, hM⟩ := hp
          refine lv_icmp_eq (tgt := 711) hx hb dL_law_214 (by decide) (fun _ => ?_) (fun h9 => absurd rfl h9)
          refine zv_iinc (lv' := [(3, .int (zI (i + 4))), (0, .ref b), (1, .ref (ad 16)), (2, .ref y)]) hx hb dL_law_711 hl (k := 3) rfl (by decide) rfl (fun ls hl => ?_)
          refine lv_goto (tgt := 18) hx hb dL_law_714 (by decide) ?_
          exact ih18 (i + 4) ((sChange w n ee en hc u un hs tc tn a191 a196).2) _ _ (by omega) (hA) (hM) (hS) (by omega) _ (lv_sub hl [1, 2, 3, 0] rfl)
        · subst c32
          refine zv_tableIn (a := 3) (tgt := 219) hx hb dL_law_32 (by omega) (by omega) (by omega) rfl (by decide) ?_
          refine lv_aload_n hx hb dL_law_219 rfl (lv_at hl 1 rfl) ?_
          refine zc_VWi (As := []) (rest := []) S hK (kX9_reverse l g ad w n ee en hc u un hs tc tn  ) (cwV 0 hts gL_law_X9_reverse rfl rfl rfl (by decide +kernel) ⟨Nat.le_of_ble_eq_true rfl, Nat.le_of_ble_eq_true rfl⟩) (hA) (hA.recv hK) rfl hl.1 rfl (Nat.le_of_ble_eq_true rfl) dL_law_220 ⟨Nat.le_of_ble_eq_true rfl, Nat.le_of_ble_eq_true rfl⟩ hS (hinA) (fun r H1 locs hp hz hk hS => ?_)
          have hM : AMt g y sa ta oa (w, n, ee, en, hc, u, un, hs, tc, tn) H1 := AMt.frm (σ := (w, n, ee, en, hc, u, un, hs, tc, tn)) hM hk hfM.1 hfM.2.1 hfM.2.2.1 hfM.2.2.2
          obtain ⟨rfl, hA⟩ := hp
          refine lv_aload_n hx hb dL_law_223 rfl (lv_at hl 2 rfl) ?_
          refine zc_VWi (As := []) (rest := [.int (zI ((sReverse w n ee en hc u un hs tc tn ).1))]) S hK (kX10_reverse l g y sa ta oa w n ee en hc u un hs tc tn  ) (cwV 0 hts gL_law_X10_reverse rfl rfl rfl (by decide +kernel) ⟨Nat.le_of_ble_eq_true rfl, Nat.le_of_ble_eq_true rfl⟩) (hM) (hM.recv hK) rfl hl.1 rfl (Nat.le_of_ble_eq_true rfl) dL_law_224 ⟨Nat.le_of_ble_eq_true rfl, Nat.le_of_ble_eq_true rfl⟩ hS (hinM) (fun r H1 locs hp hz hk hS => ?_)
          have hA := hA.frm hk hfA
          obtain ⟨rfl, hM⟩ := hp
          refine lv_icmp_eq (tgt := 711) hx hb dL_law_227 (by decide) (fun _ => ?_) (fun h9 => absurd rfl h9)
          refine zv_iinc (lv' := [(3, .int (zI (i + 4))), (0, .ref b), (1, .ref (ad 16)), (2, .ref y)]) hx hb dL_law_711 hl (k := 3) rfl (by decide) rfl (fun ls hl => ?_)
          refine lv_goto (tgt := 18) hx hb dL_law_714 (by decide) ?_
          exact ih18 (i + 4) ((sReverse w n ee en hc u un hs tc tn ).2) _ _ (by omega) (hA) (hM) (hS) (by omega) _ (lv_sub hl [1, 2, 3, 0] rfl)
        · subst c32
          refine zv_tableIn (a := 4) (tgt := 232) hx hb dL_law_32 (by omega) (by omega) (by omega) rfl (by decide) ?_
          refine lv_aload_n hx hb dL_law_232 rfl (lv_at hl 1 rfl) ?_
          refine lv_aload_n hx hb dL_law_233 rfl (lv_at hl 0 rfl) ?_
          refine lv_iload_n hx hb dL_law_234 rfl (lv_at hl 3 rfl) ?_
          refine zv_iconst hx hb dL_law_235 ?_
          refine zv_iadd hx hb dL_law_236 ?_
          refine va_sld hx hb hX hbl hbA hS (i := zI (i + 1)) (zI_in (by omega) (by omega)) dL_law_237 ?_
          obtain ⟨a237, ea237, ba237⟩ := zI_of (xs (zI (i + 1)).toNatClampNeg)
          rw [ea237]
          refine zc_VWi (As := [.int (zI a237)]) (rest := []) S hK (kX9_turn l g ad w n ee en hc u un hs tc tn a237 (by omega)) (cwV 1 hts gL_law_X9_turn rfl rfl rfl (by decide +kernel) ⟨Nat.le_of_ble_eq_true rfl, Nat.le_of_ble_eq_true rfl⟩) (hA) (hA.recv hK) rfl hl.1 rfl (Nat.le_of_ble_eq_true rfl) dL_law_238 ⟨Nat.le_of_ble_eq_true rfl, Nat.le_of_ble_eq_true rfl⟩ hS (hinA) (fun r H1 locs hp hz hk hS => ?_)
          have hM : AMt g y sa ta oa (w, n, ee, en, hc, u, un, hs, tc, tn) H1 := AMt.frm (σ := (w, n, ee, en, hc, u, un, hs, tc, tn)) hM hk hfM.1 hfM.2.1 hfM.2.2.1 hfM.2.2.2
          obtain ⟨rfl, hA⟩ := hp
          refine lv_aload_n hx hb dL_law_241 rfl (lv_at hl 2 rfl) ?_
          refine lv_aload_n hx hb dL_law_242 rfl (lv_at hl 0 rfl) ?_
          refine lv_iload_n hx hb dL_law_243 rfl (lv_at hl 3 rfl) ?_
          refine zv_iconst hx hb dL_law_244 ?_
          refine zv_iadd hx hb dL_law_245 ?_
          refine va_sld hx hb hX hbl hbA hS (i := zI (i + 1)) (zI_in (by omega) (by omega)) dL_law_246 ?_
          rw [ea237]
          refine zc_VWi (As := [.int (zI a237)]) (rest := [.int (zI ((sTurn w n ee en hc u un hs tc tn a237).1))]) S hK (kX10_turn l g y sa ta oa w n ee en hc u un hs tc tn a237 (by omega)) (cwV 1 hts gL_law_X10_turn rfl rfl rfl (by decide +kernel) ⟨Nat.le_of_ble_eq_true rfl, Nat.le_of_ble_eq_true rfl⟩) (hM) (hM.recv hK) rfl hl.1 rfl (Nat.le_of_ble_eq_true rfl) dL_law_247 ⟨Nat.le_of_ble_eq_true rfl, Nat.le_of_ble_eq_true rfl⟩ hS (hinM) (fun r H1 locs hp hz hk hS => ?_)
          have hA := hA.frm hk hfA
          obtain ⟨rfl, hM⟩ := hp
          refine lv_icmp_eq (tgt := 711) hx hb dL_law_250 (by decide) (fun _ => ?_) (fun h9 => absurd rfl h9)
          refine zv_iinc (lv' := [(3, .int (zI (i + 4))), (0, .ref b), (1, .ref (ad 16)), (2, .ref y)]) hx hb dL_law_711 hl (k := 3) rfl (by decide) rfl (fun ls hl => ?_)
          refine lv_goto (tgt := 18) hx hb dL_law_714 (by decide) ?_
          exact ih18 (i + 4) ((sTurn w n ee en hc u un hs tc tn a237).2) _ _ (by omega) (hA) (hM) (hS) (by omega) _ (lv_sub hl [1, 2, 3, 0] rfl)
        · subst c32
          refine zv_tableIn (a := 5) (tgt := 255) hx hb dL_law_32 (by omega) (by omega) (by omega) rfl (by decide) ?_
          refine lv_aload_n hx hb dL_law_255 rfl (lv_at hl 1 rfl) ?_
          refine lv_aload_n hx hb dL_law_256 rfl (lv_at hl 0 rfl) ?_
          refine lv_iload_n hx hb dL_law_257 rfl (lv_at hl 3 rfl) ?_
          refine zv_iconst hx hb dL_law_258 ?_
          refine zv_iadd hx hb dL_law_259 ?_
          refine va_sld hx hb hX hbl hbA hS (i := zI (i + 1)) (zI_in (by omega) (by omega)) dL_law_260 ?_
          obtain ⟨a260, ea260, ba260⟩ := zI_of (xs (zI (i + 1)).toNatClampNeg)
          rw [ea260]
          refine lv_aload_n hx hb dL_law_261 rfl (lv_at hl 0 rfl) ?_
          refine lv_iload_n hx hb dL_law_262 rfl (lv_at hl 3 rfl) ?_
          refine zv_iconst hx hb dL_law_263 ?_
          refine zv_iadd hx hb dL_law_264 ?_
          refine va_sld hx hb hX hbl hbA hS (i := zI (i + 2)) (zI_in (by omega) (by omega)) dL_law_265 ?_
          obtain ⟨a265, ea265, ba265⟩ := zI_of (xs (zI (i + 2)).toNatClampNeg)
          rw [ea265]
          refine zc_VWi (As := [.int (zI a260), .int (zI a265)]) (rest := []) S hK (kX9_fold l g ad w n ee en hc u un hs tc tn a260 a265 (by omega) (by omega)) (cwV 2 hts gL_law_X9_fold rfl rfl rfl (by decide +kernel) ⟨Nat.le_of_ble_eq_true rfl, Nat.le_of_ble_eq_true rfl⟩) (hA) (hA.recv hK) rfl hl.1 rfl (Nat.le_of_ble_eq_true rfl) dL_law_266 ⟨Nat.le_of_ble_eq_true rfl, Nat.le_of_ble_eq_true rfl⟩ hS (hinA) (fun r H1 locs hp hz hk hS => ?_)
          have hM : AMt g y sa ta oa (w, n, ee, en, hc, u, un, hs, tc, tn) H1 := AMt.frm (σ := (w, n, ee, en, hc, u, un, hs, tc, tn)) hM hk hfM.1 hfM.2.1 hfM.2.2.1 hfM.2.2.2
          obtain ⟨rfl, hA⟩ := hp
          refine lv_aload_n hx hb dL_law_269 rfl (lv_at hl 2 rfl) ?_
          refine lv_aload_n hx hb dL_law_270 rfl (lv_at hl 0 rfl) ?_
          refine lv_iload_n hx hb dL_law_271 rfl (lv_at hl 3 rfl) ?_
          refine zv_iconst hx hb dL_law_272 ?_
          refine zv_iadd hx hb dL_law_273 ?_
          refine va_sld hx hb hX hbl hbA hS (i := zI (i + 1)) (zI_in (by omega) (by omega)) dL_law_274 ?_
          rw [ea260]
          refine lv_aload_n hx hb dL_law_275 rfl (lv_at hl 0 rfl) ?_
          refine lv_iload_n hx hb dL_law_276 rfl (lv_at hl 3 rfl) ?_
          refine zv_iconst hx hb dL_law_277 ?_
          refine zv_iadd hx hb dL_law_278 ?_
          refine va_sld hx hb hX hbl hbA hS (i := zI (i + 2)) (zI_in (by omega) (by omega)) dL_law_279 ?_
          rw [ea265]
          refine zc_VWi (As := [.int (zI a260), .int (zI a265)]) (rest := [.int (zI ((sFold w n ee en hc u un hs tc tn a260 a265).1))]) S hK (kX10_fold l g y sa ta oa w n ee en hc u un hs tc tn a260 a265 (by omega) (by omega)) (cwV 2 hts gL_law_X10_fold rfl rfl rfl (by decide +kernel) ⟨Nat.le_of_ble_eq_true rfl, Nat.le_of_ble_eq_true rfl⟩) (hM) (hM.recv hK) rfl hl.1 rfl (Nat.le_of_ble_eq_true rfl) dL_law_280 ⟨Nat.le_of_ble_eq_true rfl, Nat.le_of_ble_eq_true rfl⟩ hS (hinM) (fun r H1 locs hp hz hk hS => ?_)
          have hA := hA.frm hk hfA
          obtain ⟨rfl, hM⟩ := hp
          refine lv_icmp_eq (tgt := 711) hx hb dL_law_283 (by decide) (fun _ => ?_) (fun h9 => absurd rfl h9)
          refine zv_iinc (lv' := [(3, .int (zI (i + 4))), (0, .ref b), (1, .ref (ad 16)), (2, .ref y)]) hx hb dL_law_711 hl (k := 3) rfl (by decide) rfl (fun ls hl => ?_)
          refine lv_goto (tgt := 18) hx hb dL_law_714 (by decide) ?_
          exact ih18 (i + 4) ((sFold w n ee en hc u un hs tc tn a260 a265).2) _ _ (by omega) (hA) (hM) (hS) (by omega) _ (lv_sub hl [1, 2, 3, 0] rfl)
        · subst c32
          refine zv_tableIn (a := 6) (tgt := 288) hx hb dL_law_32 (by omega) (by omega) (by omega) rfl (by decide) ?_
          refine lv_aload_n hx hb dL_law_288 rfl (lv_at hl 1 rfl) ?_
          refine zc_VWi (As := []) (rest := []) S hK (kX9_load l g ad w n ee en hc u un hs tc tn  ) (cwV 0 hts gL_law_X9_load rfl rfl rfl (by decide +kernel) ⟨Nat.le_of_ble_eq_true rfl, Nat.le_of_ble_eq_true rfl⟩) (hA) (hA.recv hK) rfl hl.1 rfl (Nat.le_of_ble_eq_true rfl) dL_law_289 ⟨Nat.le_of_ble_eq_true rfl, Nat.le_of_ble_eq_true rfl⟩ hS (hinA) (fun r H1 locs hp hz hk hS => ?_)
          have hM : AMt g y sa ta oa (w, n, ee, en, hc, u, un, hs, tc, tn) H1 := AMt.frm (σ := (w, n, ee, en, hc, u, un, hs, tc, tn)) hM hk hfM.1 hfM.2.1 hfM.2.2.1 hfM.2.2.2
          obtain ⟨rfl, hA⟩ := hp
          refine lv_aload_n hx hb dL_law_292 rfl (lv_at hl 2 rfl) ?_
          refine zc_VWi (As := []) (rest := [.int (zI ((sLoad w n ee en hc u un hs tc tn ).1))]) S hK (kX10_load l g y sa ta oa w n ee en hc u un hs tc tn  ) (cwV 0 hts gL_law_X10_load rfl rfl rfl (by decide +kernel) ⟨Nat.le_of_ble_eq_true rfl, Nat.le_of_ble_eq_true rfl⟩) (hM) (hM.recv hK) rfl hl.1 rfl (Nat.le_of_ble_eq_true rfl) dL_law_293 ⟨Nat.le_of_ble_eq_true rfl, Nat.le_of_ble_eq_true rfl⟩ hS (hinM) (fun r H1 locs hp hz hk hS => ?_)
          have hA := hA.frm hk hfA
          obtain ⟨rfl, hM⟩ := hp
          refine lv_icmp_eq (tgt := 711) hx hb dL_law_296 (by decide) (fun _ => ?_) (fun h9 => absurd rfl h9)
          refine zv_iinc (lv' := [(3, .int (zI (i + 4))), (0, .ref b), (1, .ref (ad 16)), (2, .ref y)]) hx hb dL_law_711 hl (k := 3) rfl (by decide) rfl (fun ls hl => ?_)
          refine lv_goto (tgt := 18) hx hb dL_law_714 (by decide) ?_
          exact ih18 (i + 4) ((sLoad w n ee en hc u un hs tc tn ).2) _ _ (by omega) (hA) (hM) (hS) (by omega) _ (lv_sub hl [1, 2, 3, 0] rfl)
        · subst c32
          refine zv_tableIn (a := 7) (tgt := 301) hx hb dL_law_32 (by omega) (by omega) (by omega) rfl (by decide) ?_
          refine lv_aload_n hx hb dL_law_301 rfl (lv_at hl 1 rfl) ?_
          refine lv_aload_n hx hb dL_law_302 rfl (lv_at hl 0 rfl) ?_
          refine lv_iload_n hx hb dL_law_303 rfl (lv_at hl 3 rfl) ?_
          refine zv_iconst hx hb dL_law_304 ?_
          refine zv_iadd hx hb dL_law_305 ?_
          refine va_sld hx hb hX hbl hbA hS (i := zI (i + 1)) (zI_in (by omega) (by omega)) dL_law_306 ?_
          obtain ⟨ch, ech, bch⟩ := zCh (xs (zI (i + 1)).toNatClampNeg)
          refine lv_i2c (v := zI ch) hx hb dL_law_307 ech ?_
          refine zc_VWi (As := [.int (zI ch)]) (rest := []) S hK (kX9_type l g ad w n ee en hc u un hs tc tn ch (by omega)) (cwV 1 hts gL_law_X9_type rfl rfl rfl (by decide +kernel) ⟨Nat.le_of_ble_eq_true rfl, Nat.le_of_ble_eq_true rfl⟩) (hA) (hA.recv hK) rfl hl.1 rfl (Nat.le_of_ble_eq_true rfl) dL_law_308 ⟨Nat.le_of_ble_eq_true rfl, Nat.le_of_ble_eq_true rfl⟩ hS (hinA) (fun r H1 locs hp hz hk hS => ?_)
          have hM : AMt g y sa ta oa (w, n, ee, en, hc, u, un, hs, tc, tn) H1 := AMt.frm (σ := (w, n, ee, en, hc, u, un, hs, tc, tn)) hM hk hfM.1 hfM.2.1 hfM.2.2.1 hfM.2.2.2
          obtain ⟨rfl, hA⟩ := hp
          refine lv_aload_n hx hb dL_law_311 rfl (lv_at hl 2 rfl) ?_
          refine lv_aload_n hx hb dL_law_312 rfl (lv_at hl 0 rfl) ?_
          refine lv_iload_n hx hb dL_law_313 rfl (lv_at hl 3 rfl) ?_
          refine zv_iconst hx hb dL_law_314 ?_
          refine zv_iadd hx hb dL_law_315 ?_
          refine va_sld hx hb hX hbl hbA hS (i := zI (i + 1)) (zI_in (by omega) (by omega)) dL_law_316 ?_
          refine lv_i2c (v := zI ch) hx hb dL_law_317 ech ?_
          refine zc_VWi (As := [.int (zI ch)]) (rest := [.int (zI ((sType w n ee en hc u un hs tc tn ch).1))]) S hK (kX10_type l g y sa ta oa w n ee en hc u un hs tc tn ch (by omega)) (cwV 1 hts gL_law_X10_type rfl rfl rfl (by decide +kernel) ⟨Nat.le_of_ble_eq_true rfl, Nat.le_of_ble_eq_true rfl⟩) (hM) (hM.recv hK) rfl hl.1 rfl (Nat.le_of_ble_eq_true rfl) dL_law_318 ⟨Nat.le_of_ble_eq_true rfl, Nat.le_of_ble_eq_true rfl⟩ hS (hinM) (fun r H1 locs hp hz hk hS => ?_)
          have hA := hA.frm hk hfA
          obtain ⟨rfl, hM⟩ := hp
          refine lv_icmp_eq (tgt := 711) hx hb dL_law_321 (by decide) (fun _ => ?_) (fun h9 => absurd rfl h9)
          refine zv_iinc (lv' := [(3, .int (zI (i + 4))), (0, .ref b), (1, .ref (ad 16)), (2, .ref y)]) hx hb dL_law_711 hl (k := 3) rfl (by decide) rfl (fun ls hl => ?_)
          refine lv_goto (tgt := 18) hx hb dL_law_714 (by decide) ?_
          exact ih18 (i + 4) ((sType w n ee en hc u un hs tc tn ch).2) _ _ (by omega) (hA) (hM) (hS) (by omega) _ (lv_sub hl [1, 2, 3, 0] rfl)
        · subst c32
          refine zv_tableIn (a := 8) (tgt := 326) hx hb dL_law_32 (by omega) (by omega) (by omega) rfl (by decide) ?_
          refine lv_aload_n hx hb dL_law_326 rfl (lv_at hl 1 rfl) ?_
          refine zc_VWi (As := []) (rest := []) S hK (kX9_clearText l g ad w n ee en hc u un hs tc tn  ) (cwV 0 hts gL_law_X9_clearText rfl rfl rfl (by decide +kernel) ⟨Nat.le_of_ble_eq_true rfl, Nat.le_of_ble_eq_true rfl⟩) (hA) (hA.recv hK) rfl hl.1 rfl (Nat.le_of_ble_eq_true rfl) dL_law_327 ⟨Nat.le_of_ble_eq_true rfl, Nat.le_of_ble_eq_true rfl⟩ hS (hinA) (fun r H1 locs hp hz hk hS => ?_)
          have hM : AMt g y sa ta oa (w, n, ee, en, hc, u, un, hs, tc, tn) H1 := AMt.frm (σ := (w, n, ee, en, hc, u, un, hs, tc, tn)) hM hk hfM.1 hfM.2.1 hfM.2.2.1 hfM.2.2.2
          obtain ⟨rfl, hA⟩ := hp
          refine lv_aload_n hx hb dL_law_330 rfl (lv_at hl 2 rfl) ?_
          refine zc_VWi (As := []) (rest := [.int (zI ((sClear w n ee en hc u un hs tc tn ).1))]) S hK (kX10_clearText l g y sa ta oa w n ee en hc u un hs tc tn  ) (cwV 0 hts gL_law_X10_clearText rfl rfl rfl (by decide +kernel) ⟨Nat.le_of_ble_eq_true rfl, Nat.le_of_ble_eq_true rfl⟩) (hM) (hM.recv hK) rfl hl.1 rfl (Nat.le_of_ble_eq_true rfl) dL_law_331 ⟨Nat.le_of_ble_eq_true rfl, Nat.le_of_ble_eq_true rfl⟩ hS (hinM) (fun r H1 locs hp hz hk hS => ?_)
          have hA := hA.frm hk hfA
          obtain ⟨rfl, hM⟩ := hp
          refine lv_icmp_eq (tgt := 711) hx hb dL_law_334 (by decide) (fun _ => ?_) (fun h9 => absurd rfl h9)
          refine zv_iinc (lv' := [(3, .int (zI (i + 4))), (0, .ref b), (1, .ref (ad 16)), (2, .ref y)]) hx hb dL_law_711 hl (k := 3) rfl (by decide) rfl (fun ls hl => ?_)
          refine lv_goto (tgt := 18) hx hb dL_law_714 (by decide) ?_
          exact ih18 (i + 4) ((sClear w n ee en hc u un hs tc tn ).2) _ _ (by omega) (hA) (hM) (hS) (by omega) _ (lv_sub hl [1, 2, 3, 0] rfl)
        · subst c32
          refine zv_tableIn (a := 9) (tgt := 339) hx hb dL_law_32 (by omega) (by omega) (by omega) rfl (by decide) ?_
          refine lv_aload_n hx hb dL_law_339 rfl (lv_at hl 1 rfl) ?_
          refine zc_VWi (As := []) (rest := []) S hK (kX9_undo l g ad w n ee en hc u un hs tc tn  ) (cwV 0 hts gL_law_X9_undo rfl rfl rfl (by decide +kernel) ⟨Nat.le_of_ble_eq_true rfl, Nat.le_of_ble_eq_true rfl⟩) (hA) (hA.recv hK) rfl hl.1 rfl (Nat.le_of_ble_eq_true rfl) dL_law_340 ⟨Nat.le_of_ble_eq_true rfl, Nat.le_of_ble_eq_true rfl⟩ hS (hinA) (fun r H1 locs hp hz hk hS => ?_)
          have hM : AMt g y sa ta oa (w, n, ee, en, hc, u, un, hs, tc, tn) H1 := AMt.frm (σ := (w, n, ee, en, hc, u, un, hs, tc, tn)) hM hk hfM.1 hfM.2.1 hfM.2.2.1 hfM.2.2.2
          obtain ⟨rfl, hA⟩ := hp
          refine lv_aload_n hx hb dL_law_343 rfl (lv_at hl 2 rfl) ?_
          refine zc_VWi (As := []) (rest := [.int (zI ((sUndo w n ee en hc u un hs tc tn ).1))]) S hK (kX10_undo l g y sa ta oa w n ee en hc u un hs tc tn  ) (cwV 0 hts gL_law_X10_undo rfl rfl rfl (by decide +kernel) ⟨Nat.le_of_ble_eq_true rfl, Nat.le_of_ble_eq_true rfl⟩) (hM) (hM.recv hK) rfl hl.1 rfl (Nat.le_of_ble_eq_true rfl) dL_law_344 ⟨Nat.le_of_ble_eq_true rfl, Nat.le_of_ble_eq_true rfl⟩ hS (hinM) (fun r H1 locs hp hz hk hS => ?_)
          have hA := hA.frm hk hfA
          obtain ⟨rfl, hM⟩ := hp
          refine lv_icmp_eq (tgt := 711) hx hb dL_law_347 (by decide) (fun _ => ?_) (fun h9 => absurd rfl h9)
          refine zv_iinc (lv' := [(3, .int (zI (i + 4))), (0, .ref b), (1, .ref (ad 16)), (2, .ref y)]) hx hb dL_law_711 hl (k := 3) rfl (by decide) rfl (fun ls hl => ?_)
          refine lv_goto (tgt := 18) hx hb dL_law_714 (by decide) ?_
          exact ih18 (i + 4) ((sUndo w n ee en hc u un hs tc tn ).2) _ _ (by omega) (hA) (hM) (hS) (by omega) _ (lv_sub hl [1, 2, 3, 0] rfl)
        · subst c32
          refine zv_tableIn (a := 10) (tgt := 352) hx hb dL_law_32 (by omega) (by omega) (by omega) rfl (by decide) ?_
          refine lv_aload_n hx hb dL_law_352 rfl (lv_at hl 1 rfl) ?_
          refine zc_VWi (As := []) (rest := []) S hK (kX9_keep l g ad w n ee en hc u un hs tc tn  ) (cwV 0 hts gL_law_X9_keep rfl rfl rfl (by decide +kernel) ⟨Nat.le_of_ble_eq_true rfl, Nat.le_of_ble_eq_true rfl⟩) (hA) (hA.recv hK) rfl hl.1 rfl (Nat.le_of_ble_eq_true rfl) dL_law_353 ⟨Nat.le_of_ble_eq_true rfl, Nat.le_of_ble_eq_true rfl⟩ hS (hinA) (fun r H1 locs hp hz hk hS => ?_)
          have hM : AMt g y sa ta oa (w, n, ee, en, hc, u, un, hs, tc, tn) H1 := AMt.frm (σ := (w, n, ee, en, hc, u, un, hs, tc, tn)) hM hk hfM.1 hfM.2.1 hfM.2.2.1 hfM.2.2.2
          obtain ⟨rfl, hA⟩ := hp
          refine lv_aload_n hx hb dL_law_356 rfl (lv_at hl 2 rfl) ?_
          refine zc_VWi (As := []) (rest := [.int (zI ((sKeep w n ee en hc tc tn).1))]) S hK (kX10_keep l g y sa ta oa w n ee en hc u un hs tc tn  ) (cwV 0 hts gL_law_X10_keep rfl rfl rfl (by decide +kernel) ⟨Nat.le_of_ble_eq_true rfl, Nat.le_of_ble_eq_true rfl⟩) (hM) (hM.recv hK) rfl hl.1 rfl (Nat.le_of_ble_eq_true rfl) dL_law_357 ⟨Nat.le_of_ble_eq_true rfl, Nat.le_of_ble_eq_true rfl⟩ hS (hinM) (fun r H1 locs hp hz hk hS => ?_)
          have hA := hA.frm hk hfA
          obtain ⟨rfl, hM⟩ := hp
          refine lv_icmp_eq (tgt := 711) hx hb dL_law_360 (by decide) (fun _ => ?_) (fun h9 => absurd rfl h9)
          refine zv_iinc (lv' := [(3, .int (zI (i + 4))), (0, .ref b), (1, .ref (ad 16)), (2, .ref y)]) hx hb dL_law_711 hl (k := 3) rfl (by decide) rfl (fun ls hl => ?_)
          refine lv_goto (tgt := 18) hx hb dL_law_714 (by decide) ?_
          exact ih18 (i + 4) ((sKeep w n ee en hc tc tn).2) _ _ (by omega) (hA) (hM) (hS) (by omega) _ (lv_sub hl [1, 2, 3, 0] rfl)
        · subst c32
          refine zv_tableIn (a := 11) (tgt := 365) hx hb dL_law_32 (by omega) (by omega) (by omega) rfl (by decide) ?_
          refine lv_aload_n hx hb dL_law_365 rfl (lv_at hl 1 rfl) ?_
          refine zc_VWi (As := []) (rest := []) S hK (kX9_restore l g ad w n ee en hc u un hs tc tn  ) (cwV 0 hts gL_law_X9_restore rfl rfl rfl (by decide +kernel) ⟨Nat.le_of_ble_eq_true rfl, Nat.le_of_ble_eq_true rfl⟩) (hA) (hA.recv hK) rfl hl.1 rfl (Nat.le_of_ble_eq_true rfl) dL_law_366 ⟨Nat.le_of_ble_eq_true rfl, Nat.le_of_ble_eq_true rfl⟩ hS (hinA) (fun r H1 locs hp hz hk hS => ?_)
          have hM : AMt g y sa ta oa (w, n, ee, en, hc, u, un, hs, tc, tn) H1 := AMt.frm (σ := (w, n, ee, en, hc, u, un, hs, tc, tn)) hM hk hfM.1 hfM.2.1 hfM.2.2.1 hfM.2.2.2
          obtain ⟨rfl, hA⟩ := hp
          refine lv_aload_n hx hb dL_law_369 rfl (lv_at hl 2 rfl) ?_
          refine zc_VWi (As := []) (rest := [.int (zI ((sRestore w n ee en hc u un hs tc tn ).1))]) S hK (kX10_restore l g y sa ta oa w n ee en hc u un hs tc tn  ) (cwV 0 hts gL_law_X10_restore rfl rfl rfl (by decide +kernel) ⟨Nat.le_of_ble_eq_true rfl, Nat.le_of_ble_eq_true rfl⟩) (hM) (hM.recv hK) rfl hl.1 rfl (Nat.le_of_ble_eq_true rfl) dL_law_370 ⟨Nat.le_of_ble_eq_true rfl, Nat.le_of_ble_eq_true rfl⟩ hS (hinM) (fun r H1 locs hp hz hk hS => ?_)
          have hA := hA.frm hk hfA
          obtain ⟨rfl, hM⟩ := hp
          refine lv_icmp_eq (tgt := 711) hx hb dL_law_373 (by decide) (fun _ => ?_) (fun h9 => absurd rfl h9)
          refine zv_iinc (lv' := [(3, .int (zI (i + 4))), (0, .ref b), (1, .ref (ad 16)), (2, .ref y)]) hx hb dL_law_711 hl (k := 3) rfl (by decide) rfl (fun ls hl => ?_)
          refine lv_goto (tgt := 18) hx hb dL_law_714 (by decide) ?_
          exact ih18 (i + 4) ((sRestore w n ee en hc u un hs tc tn ).2) _ _ (by omega) (hA) (hM) (hS) (by omega) _ (lv_sub hl [1, 2, 3, 0] rfl)
        · subst c32
          refine zv_tableIn (a := 12) (tgt := 378) hx hb dL_law_32 (by omega) (by omega) (by omega) rfl (by decide) ?_
          refine lv_aload_n hx hb dL_law_378 rfl (lv_at hl 1 rfl) ?_
          refine lv_aload_n hx hb dL_law_379 rfl (lv_at hl 0 rfl) ?_
          refine lv_iload_n hx hb dL_law_380 rfl (lv_at hl 3 rfl) ?_
          refine zv_iconst hx hb dL_law_381 ?_
          refine zv_iadd hx hb dL_law_382 ?_
          refine va_sld hx hb hX hbl hbA hS (i := zI (i + 1)) (zI_in (by omega) (by omega)) dL_law_383 ?_
          obtain ⟨a383, ea383, ba383⟩ := zI_of (xs (zI (i + 1)).toNatClampNeg)
          rw [ea383]
          refine lv_aload_n hx hb dL_law_384 rfl (lv_at hl 0 rfl) ?_
          refine lv_iload_n hx hb dL_law_385 rfl (lv_at hl 3 rfl) ?_
          refine zv_iconst hx hb dL_law_386 ?_
          refine zv_iadd hx hb dL_law_387 ?_
          refine va_sld hx hb hX hbl hbA hS (i := zI (i + 2)) (zI_in (by omega) (by omega)) dL_law_388 ?_
          obtain ⟨a388, ea388, ba388⟩ := zI_of (xs (zI (i + 2)).toNatClampNeg)
          rw [ea388]
          refine zc_V (As := [.int (zI a383), .int (zI a388)]) (rest := []) S hK (kX9_at l g ad w n ee en hc u un hs tc tn a383 a388 (by omega) (by omega)) (cwV 2 hts gL_law_X9_at rfl rfl rfl (by decide +kernel) ⟨Nat.le_of_ble_eq_true rfl, Nat.le_of_ble_eq_true rfl⟩) (hA) (hA.recv hK) rfl hl.1 rfl (Nat.le_of_ble_eq_true rfl) dL_law_389 ⟨Nat.le_of_ble_eq_true rfl, Nat.le_of_ble_eq_true rfl⟩ (fun r hr9 => ?_)
          obtain rfl := hr9
          refine lv_aload_n hx hb dL_law_392 rfl (lv_at hl 2 rfl) ?_
          refine lv_aload_n hx hb dL_law_393 rfl (lv_at hl 0 rfl) ?_
          refine lv_iload_n hx hb dL_law_394 rfl (lv_at hl 3 rfl) ?_
          refine zv_iconst hx hb dL_law_395 ?_
          refine zv_iadd hx hb dL_law_396 ?_
          refine va_sld hx hb hX hbl hbA hS (i := zI (i + 1)) (zI_in (by omega) (by omega)) dL_law_397 ?_
          rw [ea383]
          refine lv_aload_n hx hb dL_law_398 rfl (lv_at hl 0 rfl) ?_
          refine lv_iload_n hx hb dL_law_399 rfl (lv_at hl 3 rfl) ?_
          refine zv_iconst hx hb dL_law_400 ?_
          refine zv_iadd hx hb dL_law_401 ?_
          refine va_sld hx hb hX hbl hbA hS (i := zI (i + 2)) (zI_in (by omega) (by omega)) dL_law_402 ?_
          rw [ea388]
          refine zc_VWi (As := [.int (zI a383), .int (zI a388)]) (rest := [.int (zI (zAt w n a383 a388))]) S hK (kX10_at l g y sa ta oa w n ee en hc u un hs tc tn a383 a388 (by omega) (by omega)) (cwV 2 hts gL_law_X10_at rfl rfl rfl (by decide +kernel) ⟨Nat.le_of_ble_eq_true rfl, Nat.le_of_ble_eq_true rfl⟩) (hM) (hM.recv hK) rfl hl.1 rfl (Nat.le_of_ble_eq_true rfl) dL_law_403 ⟨Nat.le_of_ble_eq_true rfl, Nat.le_of_ble_eq_true rfl⟩ hS (hinM) (fun r H1 locs hp hz hk hS => ?_)
          have hA := hA.frm hk hfA
          obtain ⟨rfl, hM⟩ := hp
          have hM : AMt g y sa ta oa (w, n, ee, en, hc, u, un, hs, tc, tn) H1 := hM
          refine lv_icmp_eq (tgt := 711) hx hb dL_law_406 (by decide) (fun _ => ?_) (fun h9 => absurd rfl h9)
          refine zv_iinc (lv' := [(3, .int (zI (i + 4))), (0, .ref b), (1, .ref (ad 16)), (2, .ref y)]) hx hb dL_law_711 hl (k := 3) rfl (by decide) rfl (fun ls hl => ?_)
          refine lv_goto (tgt := 18) hx hb dL_law_714 (by decide) ?_
          exact ih18 (i + 4) (w, n, ee, en, hc, u, un, hs, tc, tn) _ _ (by omega) (hA) (hM) (hS) (by omega) _ (lv_sub hl [1, 2, 3, 0] rfl)
        · subst c32
          refine zv_tableIn (a := 13) (tgt := 411) hx hb dL_law_32 (by omega) (by omega) (by omega) rfl (by decide) ?_
          refine lv_aload_n hx hb dL_law_411 rfl (lv_at hl 1 rfl) ?_
          refine lv_aload_n hx hb dL_law_412 rfl (lv_at hl 0 rfl) ?_
          refine lv_iload_n hx hb dL_law_413 rfl (lv_at hl 3 rfl) ?_
          refine zv_iconst hx hb dL_law_414 ?_
          refine zv_iadd hx hb dL_law_415 ?_
          refine va_sld hx hb hX hbl hbA hS (i := zI (i + 1)) (zI_in (by omega) (by omega)) dL_law_416 ?_
          obtain ⟨a416, ea416, ba416⟩ := zI_of (xs (zI (i + 1)).toNatClampNeg)
          rw [ea416]
          refine lv_aload_n hx hb dL_law_417 rfl (lv_at hl 0 rfl) ?_
          refine lv_iload_n hx hb dL_law_418 rfl (lv_at hl 3 rfl) ?_
          refine zv_iconst hx hb dL_law_419 ?_
          refine zv_iadd hx hb dL_law_420 ?_
          refine va_sld hx hb hX hbl hbA hS (i := zI (i + 2)) (zI_in (by omega) (by omega)) dL_law_421 ?_
          obtain ⟨a421, ea421, ba421⟩ := zI_of (xs (zI (i + 2)).toNatClampNeg)
          rw [ea421]
          refine zc_V (As := [.int (zI a416), .int (zI a421)]) (rest := []) S hK (kX9_border l g ad w n ee en hc u un hs tc tn a416 a421 (by omega) (by omega)) (cwV 2 hts gL_law_X9_border rfl rfl rfl (by decide +kernel) ⟨Nat.le_of_ble_eq_true rfl, Nat.le_of_ble_eq_true rfl⟩) (hA) (hA.recv hK) rfl hl.1 rfl (Nat.le_of_ble_eq_true rfl) dL_law_422 ⟨Nat.le_of_ble_eq_true rfl, Nat.le_of_ble_eq_true rfl⟩ (fun r hr9 => ?_)
          obtain rfl := hr9
          refine lv_aload_n hx hb dL_law_425 rfl (lv_at hl 2 rfl) ?_
          refine lv_aload_n hx hb dL_law_426 rfl (lv_at hl 0 rfl) ?_
          refine lv_iload_n hx hb dL_law_427 rfl (lv_at hl 3 rfl) ?_
          refine zv_iconst hx hb dL_law_428 ?_
          refine zv_iadd hx hb dL_law_429 ?_
          refine va_sld hx hb hX hbl hbA hS (i := zI (i + 1)) (zI_in (by omega) (by omega)) dL_law_430 ?_
          rw [ea416]
          refine lv_aload_n hx hb dL_law_431 rfl (lv_at hl 0 rfl) ?_
          refine lv_iload_n hx hb dL_law_432 rfl (lv_at hl 3 rfl) ?_
          refine zv_iconst hx hb dL_law_433 ?_
          refine zv_iadd hx hb dL_law_434 ?_
          refine va_sld hx hb hX hbl hbA hS (i := zI (i + 2)) (zI_in (by omega) (by omega)) dL_law_435 ?_
          rw [ea421]
          obtain ⟨f436, gt436, od436, hR436, hm436, hgt436⟩ := id hM
          refine zc_V (As := [.int (zI a416), .int (zI a421)]) (rest := [.int (zI (aBorder w n a416 a421))]) S hK (kX10_border l g y sa ta oa f436 gt436 od436 hc hs tn w n hm436.1 a416 a421 (by omega) (by omega)) (cwV 2 hts gL_law_X10_border rfl rfl rfl (by decide +kernel) ⟨Nat.le_of_ble_eq_true rfl, Nat.le_of_ble_eq_true rfl⟩) (hR436) (hM.recv hK) rfl hl.1 rfl (Nat.le_of_ble_eq_true rfl) dL_law_436 ⟨Nat.le_of_ble_eq_true rfl, Nat.le_of_ble_eq_true rfl⟩ (fun r hr9 => ?_)
          obtain rfl := hr9
          refine lv_icmp_eq (tgt := 711) hx hb dL_law_439 (by decide) (fun _ => ?_) (fun h9 => absurd rfl h9)
          refine zv_iinc (lv' := [(3, .int (zI (i + 4))), (0, .ref b), (1, .ref (ad 16)), (2, .ref y)]) hx hb dL_law_711 hl (k := 3) rfl (by decide) rfl (fun ls hl => ?_)
          refine lv_goto (tgt := 18) hx hb dL_law_714 (by decide) ?_
          exact ih18 (i + 4) (w, n, ee, en, hc, u, un, hs, tc, tn) _ _ (by omega) (hA) (hM) (hS) (by omega) _ (lv_sub hl [1, 2, 3, 0] rfl)
        · subst c32
          refine zv_tableIn (a := 14) (tgt := 444) hx hb dL_law_32 (by omega) (by omega) (by omega) rfl (by decide) ?_
          refine lv_aload_n hx hb dL_law_444 rfl (lv_at hl 1 rfl) ?_
          refine lv_aload_n hx hb dL_law_445 rfl (lv_at hl 0 rfl) ?_
          refine lv_iload_n hx hb dL_law_446 rfl (lv_at hl 3 rfl) ?_
          refine zv_iconst hx hb dL_law_447 ?_
          refine zv_iadd hx hb dL_law_448 ?_
          refine va_sld hx hb hX hbl hbA hS (i := zI (i + 1)) (zI_in (by omega) (by omega)) dL_law_449 ?_
          obtain ⟨a449, ea449, ba449⟩ := zI_of (xs (zI (i + 1)).toNatClampNeg)
          rw [ea449]
          refine lv_aload_n hx hb dL_law_450 rfl (lv_at hl 0 rfl) ?_
          refine lv_iload_n hx hb dL_law_451 rfl (lv_at hl 3 rfl) ?_
          refine zv_iconst hx hb dL_law_452 ?_
          refine zv_iadd hx hb dL_law_453 ?_
          refine va_sld hx hb hX hbl hbA hS (i := zI (i + 2)) (zI_in (by omega) (by omega)) dL_law_454 ?_
          obtain ⟨a454, ea454, ba454⟩ := zI_of (xs (zI (i + 2)).toNatClampNeg)
          rw [ea454]
          refine lv_aload_n hx hb dL_law_455 rfl (lv_at hl 0 rfl) ?_
          refine lv_iload_n hx hb dL_law_456 rfl (lv_at hl 3 rfl) ?_
          refine zv_iconst hx hb dL_law_457 ?_
          refine zv_iadd hx hb dL_law_458 ?_
          refine va_sld hx hb hX hbl hbA hS (i := zI (i + 3)) (zI_in (by omega) (by omega)) dL_law_459 ?_
          obtain ⟨a459, ea459, ba459⟩ := zI_of (xs (zI (i + 3)).toNatClampNeg)
          rw [ea459]
          refine zc_V (As := [.int (zI a449), .int (zI a454), .int (zI a459)]) (rest := []) S hK (kX9_factor l g ad w n ee en hc u un hs tc tn a449 a454 a459 (by omega) (by omega) (by omega)) (cwV 3 hts gL_law_X9_factor rfl rfl rfl (by decide +kernel) ⟨Nat.le_of_ble_eq_true rfl, Nat.le_of_ble_eq_true rfl⟩) (hA) (hA.recv hK) rfl hl.1 rfl (Nat.le_of_ble_eq_true rfl) dL_law_460 ⟨Nat.le_of_ble_eq_true rfl, Nat.le_of_ble_eq_true rfl⟩ (fun r hr9 => ?_)
          obtain rfl := hr9
          refine lv_aload_n hx hb dL_law_463 rfl (lv_at hl 2 rfl) ?_
          refine lv_aload_n hx hb dL_law_464 rfl (lv_at hl 0 rfl) ?_
          refine lv_iload_n hx hb dL_law_465 rfl (lv_at hl 3 rfl) ?_
          refine zv_iconst hx hb dL_law_466 ?_
          refine zv_iadd hx hb dL_law_467 ?_
          refine va_sld hx hb hX hbl hbA hS (i := zI (i + 1)) (zI_in (by omega) (by omega)) dL_law_468 ?_
          rw [ea449]
          refine lv_aload_n hx hb dL_law_469 rfl (lv_at hl 0 rfl) ?_
          refine lv_iload_n hx hb dL_law_470 rfl (lv_at hl 3 rfl) ?_
          refine zv_iconst hx hb dL_law_471 ?_
          refine zv_iadd hx hb dL_law_472 ?_
          refine va_sld hx hb hX hbl hbA hS (i := zI (i + 2)) (zI_in (by omega) (by omega)) dL_law_473 ?_
          rw [ea454]
          refine lv_aload_n hx hb dL_law_474 rfl (lv_at hl 0 rfl) ?_
          refine lv_iload_n hx hb dL_law_475 rfl (lv_at hl 3 rfl) ?_
          refine zv_iconst hx hb dL_law_476 ?_
          refine zv_iadd hx hb dL_law_477 ?_
          refine va_sld hx hb hX hbl hbA hS (i := zI (i + 3)) (zI_in (by omega) (by omega)) dL_law_478 ?_
          rw [ea459]
          obtain ⟨f479, gt479, od479, hR479, hm479, hgt479⟩ := id hM
          refine zc_V (As := [.int (zI a449), .int (zI a454), .int (zI a459)]) (rest := [.int (zI (aFactor w n a449 a454 a459))]) S hK (kX10_factor l g y sa ta oa f479 gt479 od479 hc hs tn w n hm479.1 a449 a454 a459 (by omega) (by omega) (by omega)) (cwV 3 hts gL_law_X10_factor rfl rfl rfl (by decide +kernel) ⟨Nat.le_of_ble_eq_true rfl, Nat.le_of_ble_eq_true rfl⟩) (hR479) (hM.recv hK) rfl hl.1 rfl (Nat.le_of_ble_eq_true rfl) dL_law_479 ⟨Nat.le_of_ble_eq_true rfl, Nat.le_of_ble_eq_true rfl⟩ (fun r hr9 => ?_)
          obtain rfl := hr9
          refine lv_icmp_eq (tgt := 711) hx hb dL_law_482 (by decide) (fun _ => ?_) (fun h9 => absurd rfl h9)
          refine zv_iinc (lv' := [(3, .int (zI (i + 4))), (0, .ref b), (1, .ref (ad 16)), (2, .ref y)]) hx hb dL_law_711 hl (k := 3) rfl (by decide) rfl (fun ls hl => ?_)
          refine lv_goto (tgt := 18) hx hb dL_law_714 (by decide) ?_
          exact ih18 (i + 4) (w, n, ee, en, hc, u, un, hs, tc, tn) _ _ (by omega) (hA) (hM) (hS) (by omega) _ (lv_sub hl [1, 2, 3, 0] rfl)
        · subst c32
          refine zv_tableIn (a := 15) (tgt := 487) hx hb dL_law_32 (by omega) (by omega) (by omega) rfl (by decide) ?_
          refine lv_aload_n hx hb dL_law_487 rfl (lv_at hl 1 rfl) ?_
          refine lv_aload_n hx hb dL_law_488 rfl (lv_at hl 0 rfl) ?_
          refine lv_iload_n hx hb dL_law_489 rfl (lv_at hl 3 rfl) ?_
          refine zv_iconst hx hb dL_law_490 ?_
          refine zv_iadd hx hb dL_law_491 ?_
          refine va_sld hx hb hX hbl hbA hS (i := zI (i + 1)) (zI_in (by omega) (by omega)) dL_law_492 ?_
          obtain ⟨a492, ea492, ba492⟩ := zI_of (xs (zI (i + 1)).toNatClampNeg)
          rw [ea492]
          refine lv_aload_n hx hb dL_law_493 rfl (lv_at hl 0 rfl) ?_
          refine lv_iload_n hx hb dL_law_494 rfl (lv_at hl 3 rfl) ?_
          refine zv_iconst hx hb dL_law_495 ?_
          refine zv_iadd hx hb dL_law_496 ?_
          refine va_sld hx hb hX hbl hbA hS (i := zI (i + 2)) (zI_in (by omega) (by omega)) dL_law_497 ?_
          obtain ⟨a497, ea497, ba497⟩ := zI_of (xs (zI (i + 2)).toNatClampNeg)
          rw [ea497]
          refine zc_V (As := [.int (zI a492), .int (zI a497)]) (rest := []) S hK (kX9_alike l g ad w n ee en hc u un hs tc tn a492 a497 (by omega) (by omega)) (cwV 2 hts gL_law_X9_alike rfl rfl rfl (by decide +kernel) ⟨Nat.le_of_ble_eq_true rfl, Nat.le_of_ble_eq_true rfl⟩) (hA) (hA.recv hK) rfl hl.1 rfl (Nat.le_of_ble_eq_true rfl) dL_law_498 ⟨Nat.le_of_ble_eq_true rfl, Nat.le_of_ble_eq_true rfl⟩ (fun r hr9 => ?_)
          obtain rfl := hr9
          refine lv_aload_n hx hb dL_law_501 rfl (lv_at hl 2 rfl) ?_
          refine lv_aload_n hx hb dL_law_502 rfl (lv_at hl 0 rfl) ?_
          refine lv_iload_n hx hb dL_law_503 rfl (lv_at hl 3 rfl) ?_
          refine zv_iconst hx hb dL_law_504 ?_
          refine zv_iadd hx hb dL_law_505 ?_
          refine va_sld hx hb hX hbl hbA hS (i := zI (i + 1)) (zI_in (by omega) (by omega)) dL_law_506 ?_
          rw [ea492]
          refine lv_aload_n hx hb dL_law_507 rfl (lv_at hl 0 rfl) ?_
          refine lv_iload_n hx hb dL_law_508 rfl (lv_at hl 3 rfl) ?_
          refine zv_iconst hx hb dL_law_509 ?_
          refine zv_iadd hx hb dL_law_510 ?_
          refine va_sld hx hb hX hbl hbA hS (i := zI (i + 2)) (zI_in (by omega) (by omega)) dL_law_511 ?_
          rw [ea497]
          obtain ⟨f512, gt512, od512, hR512, hm512, hgt512⟩ := id hM
          refine zc_V (As := [.int (zI a492), .int (zI a497)]) (rest := [.int (zI (aAlike w n a492 a497))]) S hK (kX10_alike l g y sa ta oa f512 gt512 od512 hc hs tn w n hm512.1 a492 a497 (by omega) (by omega)) (cwV 2 hts gL_law_X10_alike rfl rfl rfl (by decide +kernel) ⟨Nat.le_of_ble_eq_true rfl, Nat.le_of_ble_eq_true rfl⟩) (hR512) (hM.recv hK) rfl hl.1 rfl (Nat.le_of_ble_eq_true rfl) dL_law_512 ⟨Nat.le_of_ble_eq_true rfl, Nat.le_of_ble_eq_true rfl⟩ (fun r hr9 => ?_)
          obtain rfl := hr9
          refine lv_icmp_eq (tgt := 711) hx hb dL_law_515 (by decide) (fun _ => ?_) (fun h9 => absurd rfl h9)
          refine zv_iinc (lv' := [(3, .int (zI (i + 4))), (0, .ref b), (1, .ref (ad 16)), (2, .ref y)]) hx hb dL_law_711 hl (k := 3) rfl (by decide) rfl (fun ls hl => ?_)
          refine lv_goto (tgt := 18) hx hb dL_law_714 (by decide) ?_
          exact ih18 (i + 4) (w, n, ee, en, hc, u, un, hs, tc, tn) _ _ (by omega) (hA) (hM) (hS) (by omega) _ (lv_sub hl [1, 2, 3, 0] rfl)
        · subst c32
          refine zv_tableIn (a := 16) (tgt := 520) hx hb dL_law_32 (by omega) (by omega) (by omega) rfl (by decide) ?_
          refine lv_aload_n hx hb dL_law_520 rfl (lv_at hl 1 rfl) ?_
          refine lv_aload_n hx hb dL_law_521 rfl (lv_at hl 0 rfl) ?_
          refine lv_iload_n hx hb dL_law_522 rfl (lv_at hl 3 rfl) ?_
          refine zv_iconst hx hb dL_law_523 ?_
          refine zv_iadd hx hb dL_law_524 ?_
          refine va_sld hx hb hX hbl hbA hS (i := zI (i + 1)) (zI_in (by omega) (by omega)) dL_law_525 ?_
          obtain ⟨a525, ea525, ba525⟩ := zI_of (xs (zI (i + 1)).toNatClampNeg)
          rw [ea525]
          refine zc_V (As := [.int (zI a525)]) (rest := []) S hK (kX9_suffix l g ad w n ee en hc u un hs tc tn a525 (by omega)) (cwV 1 hts gL_law_X9_suffix rfl rfl rfl (by decide +kernel) ⟨Nat.le_of_ble_eq_true rfl, Nat.le_of_ble_eq_true rfl⟩) (hA) (hA.recv hK) rfl hl.1 rfl (Nat.le_of_ble_eq_true rfl) dL_law_526 ⟨Nat.le_of_ble_eq_true rfl, Nat.le_of_ble_eq_true rfl⟩ (fun r hr9 => ?_)
          obtain rfl := hr9
          refine lv_aload_n hx hb dL_law_529 rfl (lv_at hl 2 rfl) ?_
          refine lv_aload_n hx hb dL_law_530 rfl (lv_at hl 0 rfl) ?_
          refine lv_iload_n hx hb dL_law_531 rfl (lv_at hl 3 rfl) ?_
          refine zv_iconst hx hb dL_law_532 ?_
          refine zv_iadd hx hb dL_law_533 ?_
          refine va_sld hx hb hX hbl hbA hS (i := zI (i + 1)) (zI_in (by omega) (by omega)) dL_law_534 ?_
          rw [ea525]
          refine zc_VWi (As := [.int (zI a525)]) (rest := [.int (zI (aSuffix w n a525))]) S hK (kX10_suffix l g y sa ta oa w n ee en hc u un hs tc tn a525 (by omega)) (cwV 1 hts gL_law_X10_suffix rfl rfl rfl (by decide +kernel) ⟨Nat.le_of_ble_eq_true rfl, Nat.le_of_ble_eq_true rfl⟩) (hM) (hM.recv hK) rfl hl.1 rfl (Nat.le_of_ble_eq_true rfl) dL_law_535 ⟨Nat.le_of_ble_eq_true rfl, Nat.le_of_ble_eq_true rfl⟩ hS (hinM) (fun r H1 locs hp hz hk hS => ?_)
          have hA := hA.frm hk hfA
          obtain ⟨rfl, hM⟩ := hp
          have hM : AMt g y sa ta oa (w, n, ee, en, hc, u, un, hs, tc, tn) H1 := hM
          refine lv_icmp_eq (tgt := 711) hx hb dL_law_538 (by decide) (fun _ => ?_) (fun h9 => absurd rfl h9)
          refine zv_iinc (lv' := [(3, .int (zI (i + 4))), (0, .ref b), (1, .ref (ad 16)), (2, .ref y)]) hx hb dL_law_711 hl (k := 3) rfl (by decide) rfl (fun ls hl => ?_)
          refine lv_goto (tgt := 18) hx hb dL_law_714 (by decide) ?_
          exact ih18 (i + 4) (w, n, ee, en, hc, u, un, hs, tc, tn) _ _ (by omega) (hA) (hM) (hS) (by omega) _ (lv_sub hl [1, 2, 3, 0] rfl)
        · subst c32
          refine zv_tableIn (a := 17) (tgt := 543) hx hb dL_law_32 (by omega) (by omega) (by omega) rfl (by decide) ?_
          refine lv_aload_n hx hb dL_law_543 rfl (lv_at hl 1 rfl) ?_
          refine lv_aload_n hx hb dL_law_544 rfl (lv_at hl 0 rfl) ?_
          refine lv_iload_n hx hb dL_law_545 rfl (lv_at hl 3 rfl) ?_
          refine zv_iconst hx hb dL_law_546 ?_
          refine zv_iadd hx hb dL_law_547 ?_
          refine va_sld hx hb hX hbl hbA hS (i := zI (i + 1)) (zI_in (by omega) (by omega)) dL_law_548 ?_
          obtain ⟨a548, ea548, ba548⟩ := zI_of (xs (zI (i + 1)).toNatClampNeg)
          rw [ea548]
          refine lv_aload_n hx hb dL_law_549 rfl (lv_at hl 0 rfl) ?_
          refine lv_iload_n hx hb dL_law_550 rfl (lv_at hl 3 rfl) ?_
          refine zv_iconst hx hb dL_law_551 ?_
          refine zv_iadd hx hb dL_law_552 ?_
          refine va_sld hx hb hX hbl hbA hS (i := zI (i + 2)) (zI_in (by omega) (by omega)) dL_law_553 ?_
          obtain ⟨a553, ea553, ba553⟩ := zI_of (xs (zI (i + 2)).toNatClampNeg)
          rw [ea553]
          refine zc_V (As := [.int (zI a548), .int (zI a553)]) (rest := []) S hK (kX9_square l g ad w n ee en hc u un hs tc tn a548 a553 (by omega) (by omega)) (cwV 2 hts gL_law_X9_square rfl rfl rfl (by decide +kernel) ⟨Nat.le_of_ble_eq_true rfl, Nat.le_of_ble_eq_true rfl⟩) (hA) (hA.recv hK) rfl hl.1 rfl (Nat.le_of_ble_eq_true rfl) dL_law_554 ⟨Nat.le_of_ble_eq_true rfl, Nat.le_of_ble_eq_true rfl⟩ (fun r hr9 => ?_)
          obtain rfl := hr9
          refine lv_aload_n hx hb dL_law_557 rfl (lv_at hl 2 rfl) ?_
          refine lv_aload_n hx hb dL_law_558 rfl (lv_at hl 0 rfl) ?_
          refine lv_iload_n hx hb dL_law_559 rfl (lv_at hl 3 rfl) ?_
          refine zv_iconst hx hb dL_law_560 ?_
          refine zv_iadd hx hb dL_law_561 ?_
          refine va_sld hx hb hX hbl hbA hS (i := zI (i + 1)) (zI_in (by omega) (by omega)) dL_law_562 ?_
          rw [ea548]
          refine lv_aload_n hx hb dL_law_563 rfl (lv_at hl 0 rfl) ?_
          refine lv_iload_n hx hb dL_law_564 rfl (lv_at hl 3 rfl) ?_
          refine zv_iconst hx hb dL_law_565 ?_
          refine zv_iadd hx hb dL_law_566 ?_
          refine va_sld hx hb hX hbl hbA hS (i := zI (i + 2)) (zI_in (by omega) (by omega)) dL_law_567 ?_
          rw [ea553]
          obtain ⟨f568, gt568, od568, hR568, hm568, hgt568⟩ := id hM
          refine zc_V (As := [.int (zI a548), .int (zI a553)]) (rest := [.int (zI (aSquare w n a548 a553))]) S hK (kX10_square l g y sa ta oa f568 gt568 od568 hc hs tn w n hm568.1 a548 a553 (by omega) (by omega)) (cwV 2 hts gL_law_X10_square rfl rfl rfl (by decide +kernel) ⟨Nat.le_of_ble_eq_true rfl, Nat.le_of_ble_eq_true rfl⟩) (hR568) (hM.recv hK) rfl hl.1 rfl (Nat.le_of_ble_eq_true rfl) dL_law_568 ⟨Nat.le_of_ble_eq_true rfl, Nat.le_of_ble_eq_true rfl⟩ (fun r hr9 => ?_)
          obtain rfl := hr9
          refine lv_icmp_eq (tgt := 711) hx hb dL_law_571 (by decide) (fun _ => ?_) (fun h9 => absurd rfl h9)
          refine zv_iinc (lv' := [(3, .int (zI (i + 4))), (0, .ref b), (1, .ref (ad 16)), (2, .ref y)]) hx hb dL_law_711 hl (k := 3) rfl (by decide) rfl (fun ls hl => ?_)
          refine lv_goto (tgt := 18) hx hb dL_law_714 (by decide) ?_
          exact ih18 (i + 4) (w, n, ee, en, hc, u, un, hs, tc, tn) _ _ (by omega) (hA) (hM) (hS) (by omega) _ (lv_sub hl [1, 2, 3, 0] rfl)
        · subst c32
          refine zv_tableIn (a := 18) (tgt := 576) hx hb dL_law_32 (by omega) (by omega) (by omega) rfl (by decide) ?_
          refine lv_aload_n hx hb dL_law_576 rfl (lv_at hl 1 rfl) ?_
          refine lv_aload_n hx hb dL_law_577 rfl (lv_at hl 0 rfl) ?_
          refine lv_iload_n hx hb dL_law_578 rfl (lv_at hl 3 rfl) ?_
          refine zv_iconst hx hb dL_law_579 ?_
          refine zv_iadd hx hb dL_law_580 ?_
          refine va_sld hx hb hX hbl hbA hS (i := zI (i + 1)) (zI_in (by omega) (by omega)) dL_law_581 ?_
          obtain ⟨a581, ea581, ba581⟩ := zI_of (xs (zI (i + 1)).toNatClampNeg)
          rw [ea581]
          refine lv_aload_n hx hb dL_law_582 rfl (lv_at hl 0 rfl) ?_
          refine lv_iload_n hx hb dL_law_583 rfl (lv_at hl 3 rfl) ?_
          refine zv_iconst hx hb dL_law_584 ?_
          refine zv_iadd hx hb dL_law_585 ?_
          refine va_sld hx hb hX hbl hbA hS (i := zI (i + 2)) (zI_in (by omega) (by omega)) dL_law_586 ?_
          obtain ⟨a586, ea586, ba586⟩ := zI_of (xs (zI (i + 2)).toNatClampNeg)
          rw [ea586]
          refine zc_V (As := [.int (zI a581), .int (zI a586)]) (rest := []) S hK (kX9_run l g ad w n ee en hc u un hs tc tn a581 a586 (by omega) (by omega)) (cwV 2 hts gL_law_X9_run rfl rfl rfl (by decide +kernel) ⟨Nat.le_of_ble_eq_true rfl, Nat.le_of_ble_eq_true rfl⟩) (hA) (hA.recv hK) rfl hl.1 rfl (Nat.le_of_ble_eq_true rfl) dL_law_587 ⟨Nat.le_of_ble_eq_true rfl, Nat.le_of_ble_eq_true rfl⟩ (fun r hr9 => ?_)
          obtain rfl := hr9
          refine lv_aload_n hx hb dL_law_590 rfl (lv_at hl 2 rfl) ?_
          refine lv_aload_n hx hb dL_law_591 rfl (lv_at hl 0 rfl) ?_
          refine lv_iload_n hx hb dL_law_592 rfl (lv_at hl 3 rfl) ?_
          refine zv_iconst hx hb dL_law_593 ?_
          refine zv_iadd hx hb dL_law_594 ?_
          refine va_sld hx hb hX hbl hbA hS (i := zI (i + 1)) (zI_in (by omega) (by omega)) dL_law_595 ?_
          rw [ea581]
          refine lv_aload_n hx hb dL_law_596 rfl (lv_at hl 0 rfl) ?_
          refine lv_iload_n hx hb dL_law_597 rfl (lv_at hl 3 rfl) ?_
          refine zv_iconst hx hb dL_law_598 ?_
          refine zv_iadd hx hb dL_law_599 ?_
          refine va_sld hx hb hX hbl hbA hS (i := zI (i + 2)) (zI_in (by omega) (by omega)) dL_law_600 ?_
          rw [ea586]
          obtain ⟨f601, gt601, od601, hR601, hm601, hgt601⟩ := id hM
          refine zc_V (As := [.int (zI a581), .int (zI a586)]) (rest := [.int (zI (aRun w n a581 a586))]) S hK (kX10_run l g y sa ta oa f601 gt601 od601 hc hs tn w n hm601.1 a581 a586 (by omega) (by omega)) (cwV 2 hts gL_law_X10_run rfl rfl rfl (by decide +kernel) ⟨Nat.le_of_ble_eq_true rfl, Nat.le_of_ble_eq_true rfl⟩) (hR601) (hM.recv hK) rfl hl.1 rfl (Nat.le_of_ble_eq_true rfl) dL_law_601 ⟨Nat.le_of_ble_eq_true rfl, Nat.le_of_ble_eq_true rfl⟩ (fun r hr9 => ?_)
          obtain rfl := hr9
          refine lv_icmp_eq (tgt := 711) hx hb dL_law_604 (by decide) (fun _ => ?_) (fun h9 => absurd rfl h9)
          refine zv_iinc (lv' := [(3, .int (zI (i + 4))), (0, .ref b), (1, .ref (ad 16)), (2, .ref y)]) hx hb dL_law_711 hl (k := 3) rfl (by decide) rfl (fun ls hl => ?_)
          refine lv_goto (tgt := 18) hx hb dL_law_714 (by decide) ?_
          exact ih18 (i + 4) (w, n, ee, en, hc, u, un, hs, tc, tn) _ _ (by omega) (hA) (hM) (hS) (by omega) _ (lv_sub hl [1, 2, 3, 0] rfl)
        · subst c32
          refine zv_tableIn (a := 19) (tgt := 609) hx hb dL_law_32 (by omega) (by omega) (by omega) rfl (by decide) ?_
          refine lv_aload_n hx hb dL_law_609 rfl (lv_at hl 1 rfl) ?_
          refine lv_aload_n hx hb dL_law_610 rfl (lv_at hl 0 rfl) ?_
          refine lv_iload_n hx hb dL_law_611 rfl (lv_at hl 3 rfl) ?_
          refine zv_iconst hx hb dL_law_612 ?_
          refine zv_iadd hx hb dL_law_613 ?_
          refine va_sld hx hb hX hbl hbA hS (i := zI (i + 1)) (zI_in (by omega) (by omega)) dL_law_614 ?_
          obtain ⟨a614, ea614, ba614⟩ := zI_of (xs (zI (i + 1)).toNatClampNeg)
          rw [ea614]
          refine zc_V (As := [.int (zI a614)]) (rest := []) S hK (kX9_unlike l g ad w n ee en hc u un hs tc tn a614 (by omega)) (cwV 1 hts gL_law_X9_unlike rfl rfl rfl (by decide +kernel) ⟨Nat.le_of_ble_eq_true rfl, Nat.le_of_ble_eq_true rfl⟩) (hA) (hA.recv hK) rfl hl.1 rfl (Nat.le_of_ble_eq_true rfl) dL_law_615 ⟨Nat.le_of_ble_eq_true rfl, Nat.le_of_ble_eq_true rfl⟩ (fun r hr9 => ?_)
          obtain rfl := hr9
          refine lv_aload_n hx hb dL_law_618 rfl (lv_at hl 2 rfl) ?_
          refine lv_aload_n hx hb dL_law_619 rfl (lv_at hl 0 rfl) ?_
          refine lv_iload_n hx hb dL_law_620 rfl (lv_at hl 3 rfl) ?_
          refine zv_iconst hx hb dL_law_621 ?_
          refine zv_iadd hx hb dL_law_622 ?_
          refine va_sld hx hb hX hbl hbA hS (i := zI (i + 1)) (zI_in (by omega) (by omega)) dL_law_623 ?_
          rw [ea614]
          obtain ⟨f624, gt624, od624, hR624, hm624, hgt624⟩ := id hM
          refine zc_V (As := [.int (zI a614)]) (rest := [.int (zI (aUnlike w n a614))]) S hK (kX10_unlike l g y sa ta oa f624 gt624 od624 hc hs tn w n hm624.1 a614 (by omega)) (cwV 1 hts gL_law_X10_unlike rfl rfl rfl (by decide +kernel) ⟨Nat.le_of_ble_eq_true rfl, Nat.le_of_ble_eq_true rfl⟩) (hR624) (hM.recv hK) rfl hl.1 rfl (Nat.le_of_ble_eq_true rfl) dL_law_624 ⟨Nat.le_of_ble_eq_true rfl, Nat.le_of_ble_eq_true rfl⟩ (fun r hr9 => ?_)
          obtain rfl := hr9
          refine lv_icmp_eq (tgt := 711) hx hb dL_law_627 (by decide) (fun _ => ?_) (fun h9 => absurd rfl h9)
          refine zv_iinc (lv' := [(3, .int (zI (i + 4))), (0, .ref b), (1, .ref (ad 16)), (2, .ref y)]) hx hb dL_law_711 hl (k := 3) rfl (by decide) rfl (fun ls hl => ?_)
          refine lv_goto (tgt := 18) hx hb dL_law_714 (by decide) ?_
          exact ih18 (i + 4) (w, n, ee, en, hc, u, un, hs, tc, tn) _ _ (by omega) (hA) (hM) (hS) (by omega) _ (lv_sub hl [1, 2, 3, 0] rfl)
        · subst c32
          refine zv_tableIn (a := 20) (tgt := 632) hx hb dL_law_32 (by omega) (by omega) (by omega) rfl (by decide) ?_
          refine lv_aload_n hx hb dL_law_632 rfl (lv_at hl 1 rfl) ?_
          refine lv_aload_n hx hb dL_law_633 rfl (lv_at hl 0 rfl) ?_
          refine lv_iload_n hx hb dL_law_634 rfl (lv_at hl 3 rfl) ?_
          refine zv_iconst hx hb dL_law_635 ?_
          refine zv_iadd hx hb dL_law_636 ?_
          refine va_sld hx hb hX hbl hbA hS (i := zI (i + 1)) (zI_in (by omega) (by omega)) dL_law_637 ?_
          obtain ⟨a637, ea637, ba637⟩ := zI_of (xs (zI (i + 1)).toNatClampNeg)
          rw [ea637]
          refine lv_aload_n hx hb dL_law_638 rfl (lv_at hl 0 rfl) ?_
          refine lv_iload_n hx hb dL_law_639 rfl (lv_at hl 3 rfl) ?_
          refine zv_iconst hx hb dL_law_640 ?_
          refine zv_iadd hx hb dL_law_641 ?_
          refine va_sld hx hb hX hbl hbA hS (i := zI (i + 2)) (zI_in (by omega) (by omega)) dL_law_642 ?_
          obtain ⟨a642, ea642, ba642⟩ := zI_of (xs (zI (i + 2)).toNatClampNeg)
          rw [ea642]
          refine zc_VWi (As := [.int (zI a637), .int (zI a642)]) (rest := []) S hK (kX9_ifLetter l g ad w n ee en hc u un hs tc tn a637 a642 (by omega) (by omega)) (cwV 2 hts gL_law_X9_ifLetter rfl rfl rfl (by decide +kernel) ⟨Nat.le_of_ble_eq_true rfl, Nat.le_of_ble_eq_true rfl⟩) (hA) (hA.recv hK) rfl hl.1 rfl (Nat.le_of_ble_eq_true rfl) dL_law_643 ⟨Nat.le_of_ble_eq_true rfl, Nat.le_of_ble_eq_true rfl⟩ hS (hinA) (fun r H1 locs hp hz hk hS => ?_)
          have hM : AMt g y sa ta oa (w, n, ee, en, hc, u, un, hs, tc, tn) H1 := AMt.frm (σ := (w, n, ee, en, hc, u, un, hs, tc, tn)) hM hk hfM.1 hfM.2.1 hfM.2.2.1 hfM.2.2.2
          obtain ⟨rfl, hA⟩ := hp
          have hA : AXt g ad (w, n, ee, en, hc, u, un, hs, tc, tn) H1 := hA
          refine lv_aload_n hx hb dL_law_646 rfl (lv_at hl 2 rfl) ?_
          refine lv_aload_n hx hb dL_law_647 rfl (lv_at hl 0 rfl) ?_
          refine lv_iload_n hx hb dL_law_648 rfl (lv_at hl 3 rfl) ?_
          refine zv_iconst hx hb dL_law_649 ?_
          refine zv_iadd hx hb dL_law_650 ?_
          refine va_sld hx hb hX hbl hbA hS (i := zI (i + 1)) (zI_in (by omega) (by omega)) dL_law_651 ?_
          rw [ea637]
          refine lv_aload_n hx hb dL_law_652 rfl (lv_at hl 0 rfl) ?_
          refine lv_iload_n hx hb dL_law_653 rfl (lv_at hl 3 rfl) ?_
          refine zv_iconst hx hb dL_law_654 ?_
          refine zv_iadd hx hb dL_law_655 ?_
          refine va_sld hx hb hX hbl hbA hS (i := zI (i + 2)) (zI_in (by omega) (by omega)) dL_law_656 ?_
          rw [ea642]
          refine zc_VWi (As := [.int (zI a637), .int (zI a642)]) (rest := [.int (zI (aIf w n a637 a642))]) S hK (kX10_ifLetter l g y sa ta oa w n ee en hc u un hs tc tn a637 a642 (by omega) (by omega)) (cwV 2 hts gL_law_X10_ifLetter rfl rfl rfl (by decide +kernel) ⟨Nat.le_of_ble_eq_true rfl, Nat.le_of_ble_eq_true rfl⟩) (hM) (hM.recv hK) rfl hl.1 rfl (Nat.le_of_ble_eq_true rfl) dL_law_657 ⟨Nat.le_of_ble_eq_true rfl, Nat.le_of_ble_eq_true rfl⟩ hS (hinM) (fun r H1 locs hp hz hk hS => ?_)
          have hA := hA.frm hk hfA
          obtain ⟨rfl, hM⟩ := hp
          have hM : AMt g y sa ta oa (w, n, ee, en, hc, u, un, hs, tc, tn) H1 := hM
          refine lv_icmp_eq (tgt := 711) hx hb dL_law_660 (by decide) (fun _ => ?_) (fun h9 => absurd rfl h9)
          refine zv_iinc (lv' := [(3, .int (zI (i + 4))), (0, .ref b), (1, .ref (ad 16)), (2, .ref y)]) hx hb dL_law_711 hl (k := 3) rfl (by decide) rfl (fun ls hl => ?_)
          refine lv_goto (tgt := 18) hx hb dL_law_714 (by decide) ?_
          exact ih18 (i + 4) (w, n, ee, en, hc, u, un, hs, tc, tn) _ _ (by omega) (hA) (hM) (hS) (by omega) _ (lv_sub hl [1, 2, 3, 0] rfl)
        · subst c32
          refine zv_tableIn (a := 21) (tgt := 665) hx hb dL_law_32 (by omega) (by omega) (by omega) rfl (by decide) ?_
          refine lv_aload_n hx hb dL_law_665 rfl (lv_at hl 1 rfl) ?_
          refine lv_aload_n hx hb dL_law_666 rfl (lv_at hl 0 rfl) ?_
          refine lv_iload_n hx hb dL_law_667 rfl (lv_at hl 3 rfl) ?_
          refine zv_iconst hx hb dL_law_668 ?_
          refine zv_iadd hx hb dL_law_669 ?_
          refine va_sld hx hb hX hbl hbA hS (i := zI (i + 1)) (zI_in (by omega) (by omega)) dL_law_670 ?_
          obtain ⟨a670, ea670, ba670⟩ := zI_of (xs (zI (i + 1)).toNatClampNeg)
          rw [ea670]
          refine zc_VWi (As := [.int (zI a670)]) (rest := []) S hK (kX9_bestLetter l g ad w n ee en hc u un hs tc tn a670 (by omega)) (cwV 1 hts gL_law_X9_bestLetter rfl rfl rfl (by decide +kernel) ⟨Nat.le_of_ble_eq_true rfl, Nat.le_of_ble_eq_true rfl⟩) (hA) (hA.recv hK) rfl hl.1 rfl (Nat.le_of_ble_eq_true rfl) dL_law_671 ⟨Nat.le_of_ble_eq_true rfl, Nat.le_of_ble_eq_true rfl⟩ hS (hinA) (fun r H1 locs hp hz hk hS => ?_)
          have hM : AMt g y sa ta oa (w, n, ee, en, hc, u, un, hs, tc, tn) H1 := AMt.frm (σ := (w, n, ee, en, hc, u, un, hs, tc, tn)) hM hk hfM.1 hfM.2.1 hfM.2.2.1 hfM.2.2.2
          obtain ⟨rfl, hA⟩ := hp
          have hA : AXt g ad (w, n, ee, en, hc, u, un, hs, tc, tn) H1 := hA
          refine lv_aload_n hx hb dL_law_674 rfl (lv_at hl 2 rfl) ?_
          refine lv_aload_n hx hb dL_law_675 rfl (lv_at hl 0 rfl) ?_
          refine lv_iload_n hx hb dL_law_676 rfl (lv_at hl 3 rfl) ?_
          refine zv_iconst hx hb dL_law_677 ?_
          refine zv_iadd hx hb dL_law_678 ?_
          refine va_sld hx hb hX hbl hbA hS (i := zI (i + 1)) (zI_in (by omega) (by omega)) dL_law_679 ?_
          rw [ea670]
          refine zc_VWi (As := [.int (zI a670)]) (rest := [.int (zI (aBest w n a670))]) S hK (kX10_bestLetter l g y sa ta oa w n ee en hc u un hs tc tn a670 (by omega)) (cwV 1 hts gL_law_X10_bestLetter rfl rfl rfl (by decide +kernel) ⟨Nat.le_of_ble_eq_true rfl, Nat.le_of_ble_eq_true rfl⟩) (hM) (hM.recv hK) rfl hl.1 rfl (Nat.le_of_ble_eq_true rfl) dL_law_680 ⟨Nat.le_of_ble_eq_true rfl, Nat.le_of_ble_eq_true rfl⟩ hS (hinM) (fun r H1 locs hp hz hk hS => ?_)
          have hA := hA.frm hk hfA
          obtain ⟨rfl, hM⟩ := hp
          have hM : AMt g y sa ta oa (w, n, ee, en, hc, u, un, hs, tc, tn) H1 := hM
          refine lv_icmp_eq (tgt := 711) hx hb dL_law_683 (by decide) (fun _ => ?_) (fun h9 => absurd rfl h9)
          refine zv_iinc (lv' := [(3, .int (zI (i + 4))), (0, .ref b), (1, .ref (ad 16)), (2, .ref y)]) hx hb dL_law_711 hl (k := 3) rfl (by decide) rfl (fun ls hl => ?_)
          refine lv_goto (tgt := 18) hx hb dL_law_714 (by decide) ?_
          exact ih18 (i + 4) (w, n, ee, en, hc, u, un, hs, tc, tn) _ _ (by omega) (hA) (hM) (hS) (by omega) _ (lv_sub hl [1, 2, 3, 0] rfl)
        · subst c32
          refine zv_tableIn (a := 22) (tgt := 688) hx hb dL_law_32 (by omega) (by omega) (by omega) rfl (by decide) ?_
          refine lv_aload_n hx hb dL_law_688 rfl (lv_at hl 1 rfl) ?_
          refine lv_aload_n hx hb dL_law_689 rfl (lv_at hl 0 rfl) ?_
          refine lv_iload_n hx hb dL_law_690 rfl (lv_at hl 3 rfl) ?_
          refine zv_iconst hx hb dL_law_691 ?_
          refine zv_iadd hx hb dL_law_692 ?_
          refine va_sld hx hb hX hbl hbA hS (i := zI (i + 1)) (zI_in (by omega) (by omega)) dL_law_693 ?_
          obtain ⟨a693, ea693, ba693⟩ := zI_of (xs (zI (i + 1)).toNatClampNeg)
          rw [ea693]
          refine zc_V (As := [.int (zI a693)]) (rest := []) S hK (kX9_count l g ad w n ee en hc u un hs tc tn a693 (by omega)) (cwV 1 hts gL_law_X9_count rfl rfl rfl (by decide +kernel) ⟨Nat.le_of_ble_eq_true rfl, Nat.le_of_ble_eq_true rfl⟩) (hA) (hA.recv hK) rfl hl.1 rfl (Nat.le_of_ble_eq_true rfl) dL_law_694 ⟨Nat.le_of_ble_eq_true rfl, Nat.le_of_ble_eq_true rfl⟩ (fun r hr9 => ?_)
          obtain rfl := hr9
          refine lv_aload_n hx hb dL_law_697 rfl (lv_at hl 2 rfl) ?_
          refine lv_aload_n hx hb dL_law_698 rfl (lv_at hl 0 rfl) ?_
          refine lv_iload_n hx hb dL_law_699 rfl (lv_at hl 3 rfl) ?_
          refine zv_iconst hx hb dL_law_700 ?_
          refine zv_iadd hx hb dL_law_701 ?_
          refine va_sld hx hb hX hbl hbA hS (i := zI (i + 1)) (zI_in (by omega) (by omega)) dL_law_702 ?_
          rw [ea693]
          obtain ⟨f703, gt703, od703, hR703, hm703, hgt703⟩ := id hM
          refine zc_V (As := [.int (zI a693)]) (rest := [.int (zI (zCnt w n hc tn a693))]) S hK (kX10_count l g y sa ta oa f703 gt703 od703 hc hs tn w n hm703.1 a693 (by omega)) (cwV 1 hts gL_law_X10_count rfl rfl rfl (by decide +kernel) ⟨Nat.le_of_ble_eq_true rfl, Nat.le_of_ble_eq_true rfl⟩) (hR703) (hM.recv hK) rfl hl.1 rfl (Nat.le_of_ble_eq_true rfl) dL_law_703 ⟨Nat.le_of_ble_eq_true rfl, Nat.le_of_ble_eq_true rfl⟩ (fun r hr9 => ?_)
          obtain rfl := hr9
          refine lv_icmp_eq (tgt := 711) hx hb dL_law_706 (by decide) (fun _ => ?_) (fun h9 => absurd rfl h9)
          refine zv_iinc (lv' := [(3, .int (zI (i + 4))), (0, .ref b), (1, .ref (ad 16)), (2, .ref y)]) hx hb dL_law_711 hl (k := 3) rfl (by decide) rfl (fun ls hl => ?_)
          refine lv_goto (tgt := 18) hx hb dL_law_714 (by decide) ?_
          exact ih18 (i + 4) (w, n, ee, en, hc, u, un, hs, tc, tn) _ _ (by omega) (hA) (hM) (hS) (by omega) _ (lv_sub hl [1, 2, 3, 0] rfl)
        · refine zv_tableOut (tgt := 711) hx hb dL_law_32 (by omega) (by omega) (by decide) ?_
          refine zv_iinc (lv' := [(3, .int (zI (i + 4))), (0, .ref b), (1, .ref (ad 16)), (2, .ref y)]) hx hb dL_law_711 hl (k := 3) rfl (by decide) rfl (fun ls hl => ?_)
          refine lv_goto (tgt := 18) hx hb dL_law_714 (by decide) ?_
          exact ih18 (i + 4) (w, n, ee, en, hc, u, un, hs, tc, tn) _ _ (by omega) (hA) (hM) (hS) (by omega) _ (lv_sub hl [1, 2, 3, 0] rfl)
  exact lp18 _ 0 zNil _ _ (by omega) (hA) (hM) (hS) (Nat.lt_succ_self _) _ (lv_sub hl [3, 2, 1, 0] rfl)

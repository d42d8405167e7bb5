theorem mL_law_0 : (Cond.classLink RL 10 RX9) ∈ wsL_law := by decide +kernel
theorem mL_law_1 : (Cond.instantiable RX9 7) ∈ wsL_law := by decide +kernel
theorem mL_law_2 : (Cond.initialized RX9) ∈ wsL_law := by decide +kernel
theorem mL_law_3 : (Cond.methodLink RL 66 yX9_init) ∈ wsL_law := by decide +kernel
theorem mL_law_4 : (Cond.instanceMethod yX9_init) ∈ wsL_law := by decide +kernel
set_option maxHeartbeats 8000000 in
set_option maxRecDepth 100000 in
theorem zLaw {p : Program} {e : Env} {s : State} {m : MethodId} {below : List Frame} {meth : Method} {c : Code} (l : Launch) {b L : Nat} {xs : Nat → Int32} (hL : L ≤ 260) (hx : p.tables.exec = Jvm.exec) (hb : c.code = code) (hr : meth.sig.returnType = ret) (hml : c.maxLocals = 16) (hown : s.vm.findClass RL = some m.cls) (hts : ∀ w ∈ wsL_law, w.before #[Value.ref b] s = true) (hX : va_X b L xs s s.heap) (hbl : b < s.heap.size) (hlocks : meth.locks = false) {g : zG} (hK : zK g s) (hN : zNest s) {ls : Array Slot} (hl : lv_has ls 16 [(0, .ref b)]) : W p l e room_1 s m #[Value.ref b] below meth c s.heap [] 0 0 (lw_Z below #[Value.ref b] s) (F0 m 0 ls []) := by
  have S : CallFix p m c code 16 s #[Value.ref b] wsL_law RL := ⟨hx, hb, hml, hown, hts⟩
  have hS : va_S (zGe s.heap.size) s.heap s.heap [] := va_S.rf
  refine zn_new (ci := 4) (fs := [.null, .null, .null, .int 0, .null, .null, .null]) (C := RX9) (T := TX9) (N := 7) hx hb hts inlX9 tyX9 tyX9_ok hown (hts _ mL_law_0) (hts _ mL_law_1) (hts _ mL_law_2) hK hS rfl (fun j hj => by rcases j with _ | _ | _ | _ | _ | _ | _ | j <;> first | rfl | omega) (Nat.le_of_ble_eq_true rfl) (Nat.le_of_ble_eq_true rfl) dL_law_0 (fun x H1 hq_x hp_x hk hS => ?_)
  refine lv_dup hx hb dL_law_3 rfl ?_
  refine zc_I (As := []) (rest := [.ref x]) S (kX9_init l g x) (cwI 0 hts gL_law_X9_init rfl rfl rfl (hts _ mL_law_2) (hts _ mL_law_3) (hts _ mL_law_4) rfl (by decide +kernel) ⟨Nat.le_of_ble_eq_true rfl, Nat.le_of_ble_eq_true rfl⟩) (zc_preN hK hN hp_x) rfl hl.1 rfl (Nat.le_of_ble_eq_true rfl) dL_law_4 ⟨Nat.le_of_ble_eq_true rfl, Nat.le_of_ble_eq_true rfl⟩ hS (fun z hz9 => by have h9 : x ≤ z := hz9; show s.heap.size ≤ z; omega) (fun H1 locs hp hz hk hS => ?_)
  obtain ⟨ad, e16, hlo, hPX⟩ := hp
  subst e16
  refine lv_astore_n (lv' := [(1, .ref (ad 16)), (0, .ref b)]) hx hb dL_law_7 rfl hl (by decide) rfl (fun ls hl => ?_)
  have hinA : ∀ q, zAx ad q → zGe s.heap.size q := fun q hq => by
    obtain ⟨i, hi, rfl⟩ := hq
    have := hlo i hi
    show s.heap.size ≤ ad i
    omega
  have hbA : ¬ zGe s.heap.size b := fun h9 => by have h9 : s.heap.size ≤ b := h9; omega
  obtain ⟨w, n, ee, en, hc, u, un, hs, tc, tn, hA, en0, eh, es, et⟩ : ∃ (w : Int → Int) (n : Int) (ee : Nat → Int → Int) (en : Nat → Int) (hc : Int) (u : Int → Int) (un hs : Int) (tc : Int → Int) (tn : Int), AXt g ad (w, n, ee, en, hc, u, un, hs, tc, tn) H1 ∧ n = 0 ∧ hc = 0 ∧ hs = 0 ∧ tn = 0 := ⟨fun _ => 0, 0, fun _ _ => 0, fun _ => 0, 0, fun _ => 0, 0, 0, fun _ => 0, 0, show AX g ad (fun _ => 0) 0 (fun _ _ => 0) (fun _ => 0) 0 (fun _ => 0) 0 0 (fun _ => 0) 0 H1 from AX.of hPX (fun h => absurd h (by decide)) (fun j hj => absurd hj (by omega)), rfl, rfl, rfl, rfl⟩
  clear hPX hk hz
  refine lv_aload_n hx hb dL_law_8 rfl (lv_at hl 0 rfl) ?_
  refine zc_VWi (As := []) (rest := []) S hK (kX9_undo l g ad w n ee en hc u un hs tc tn  ) (cwV 0 hts gL_law_X9_undo rfl rfl rfl (by decide +kernel) ⟨Nat.le_of_ble_eq_true rfl, Nat.le_of_ble_eq_true rfl⟩) (hA) (hA.recv hK) rfl hl.1 rfl (Nat.le_of_ble_eq_true rfl) dL_law_9 ⟨Nat.le_of_ble_eq_true rfl, Nat.le_of_ble_eq_true rfl⟩ hS (hinA) (fun r H1 locs hp hz hk hS => ?_)
  have e9 : sUndo w n ee en hc u un hs tc tn  = (-4, (w, n, ee, en, hc, u, un, hs, tc, tn)) := zIf_t eh
  have hp : r = zI (-4) ∧ AXt g ad (w, n, ee, en, hc, u, un, hs, tc, tn) H1 := by rw [e9] at hp; exact hp
  obtain ⟨rfl, hA⟩ := hp
  clear e9 hz hk
  refine zv_bipush hx hb dL_law_12 (by decide +kernel) ?_
  refine zv_icmp_ne (tgt := 83) hx hb dL_law_14 (by decide) (by omega) (by omega) (fun c14 => ?_) (fun c14 => ?_)
  · exfalso; omega
  · refine lv_aload_n hx hb dL_law_17 rfl (lv_at hl 0 rfl) ?_
    refine zc_VWi (As := []) (rest := []) S hK (kX9_restore l g ad w n ee en hc u un hs tc tn  ) (cwV 0 hts gL_law_X9_restore rfl rfl rfl (by decide +kernel) ⟨Nat.le_of_ble_eq_true rfl, Nat.le_of_ble_eq_true rfl⟩) (hA) (hA.recv hK) rfl hl.1 rfl (Nat.le_of_ble_eq_true rfl) dL_law_18 ⟨Nat.le_of_ble_eq_true rfl, Nat.le_of_ble_eq_true rfl⟩ hS (hinA) (fun r H1 locs hp hz hk hS => ?_)
    have e18 : sRestore w n ee en hc u un hs tc tn  = (-4, (w, n, ee, en, hc, u, un, hs, tc, tn)) := zIf_t es
    have hp : r = zI (-4) ∧ AXt g ad (w, n, ee, en, hc, u, un, hs, tc, tn) H1 := by rw [e18] at hp; exact hp
    obtain ⟨rfl, hA⟩ := hp
    clear e18 hz hk
    refine zv_bipush hx hb dL_law_21 (by decide +kernel) ?_
    refine zv_icmp_ne (tgt := 83) hx hb dL_law_23 (by decide) (by omega) (by omega) (fun c23 => ?_) (fun c23 => ?_)
    · exfalso; omega
    · refine lv_aload_n hx hb dL_law_26 rfl (lv_at hl 0 rfl) ?_
      refine zc_VWi (As := []) (rest := []) S hK (kX9_reverse l g ad w n ee en hc u un hs tc tn  ) (cwV 0 hts gL_law_X9_reverse rfl rfl rfl (by decide +kernel) ⟨Nat.le_of_ble_eq_true rfl, Nat.le_of_ble_eq_true rfl⟩) (hA) (hA.recv hK) rfl hl.1 rfl (Nat.le_of_ble_eq_true rfl) dL_law_27 ⟨Nat.le_of_ble_eq_true rfl, Nat.le_of_ble_eq_true rfl⟩ hS (hinA) (fun r H1 locs hp hz hk hS => ?_)
      have e27 : sReverse w n ee en hc u un hs tc tn  = (-4, (w, n, ee, en, hc, u, un, hs, tc, tn)) := zIf_t ⟨rfl, fun k h1 h2 => absurd h2 (by omega)⟩
      have hp : r = zI (-4) ∧ AXt g ad (w, n, ee, en, hc, u, un, hs, tc, tn) H1 := by rw [e27] at hp; exact hp
      obtain ⟨rfl, hA⟩ := hp
      clear e27 hz hk
      refine zv_bipush hx hb dL_law_30 (by decide +kernel) ?_
      refine zv_icmp_ne (tgt := 83) hx hb dL_law_32 (by decide) (by omega) (by omega) (fun c32 => ?_) (fun c32 => ?_)
      · exfalso; omega
      · refine lv_aload_n hx hb dL_law_35 rfl (lv_at hl 0 rfl) ?_
        refine zc_VWi (As := []) (rest := []) S hK (kX9_load l g ad w n ee en hc u un hs tc tn  ) (cwV 0 hts gL_law_X9_load rfl rfl rfl (by decide +kernel) ⟨Nat.le_of_ble_eq_true rfl, Nat.le_of_ble_eq_true rfl⟩) (hA) (hA.recv hK) rfl hl.1 rfl (Nat.le_of_ble_eq_true rfl) dL_law_36 ⟨Nat.le_of_ble_eq_true rfl, Nat.le_of_ble_eq_true rfl⟩ hS (hinA) (fun r H1 locs hp hz hk hS => ?_)
        have e36 : sLoad w n ee en hc u un hs tc tn  = (-100, (w, n, ee, en, hc, u, un, hs, tc, tn)) := by
          have f0 : zFl tc tn = 0 := by rw [et]; exact zFl_0 tc
          have : sLoad w n ee en hc u un hs tc tn = (-100 - zFl tc tn, (w, n, ee, en, hc, u, un, hs, tc, tn)) := zIf_f (by rw [f0]; omega)
          exact this.trans (by rw [f0, show (-100 : Int) - 0 = -100 by omega])
        have hp : r = zI (-100) ∧ AXt g ad (w, n, ee, en, hc, u, un, hs, tc, tn) H1 := by rw [e36] at hp; exact hp
        obtain ⟨rfl, hA⟩ := hp
        clear e36 hz hk
        refine zv_bipush hx hb dL_law_39 (by decide +kernel) ?_
        refine zv_icmp_ne (tgt := 83) hx hb dL_law_41 (by decide) (by omega) (by omega) (fun c41 => ?_) (fun c41 => ?_)
        · exfalso; omega
        · refine lv_aload_n hx hb dL_law_44 rfl (lv_at hl 0 rfl) ?_
          refine zv_bipush hx hb dL_law_45 (by decide +kernel) ?_
          refine zc_V (As := [.int (zI 7)]) (rest := []) S hK (kX9_count l g ad w n ee en hc u un hs tc tn 7 (by omega)) (cwV 1 hts gL_law_X9_count rfl rfl rfl (by decide +kernel) ⟨Nat.le_of_ble_eq_true rfl, Nat.le_of_ble_eq_true rfl⟩) (hA) (hA.recv hK) rfl hl.1 rfl (Nat.le_of_ble_eq_true rfl) dL_law_47 ⟨Nat.le_of_ble_eq_true rfl, Nat.le_of_ble_eq_true rfl⟩ (fun r hr9 => ?_)
          obtain rfl := hr9
          rw [zCnt_7, zLP_nil w (i := 0) (j := n) (by omega)]
          refine zv_if_ne (tgt := 83) hx hb dL_law_50 (by decide) (by omega) (fun c50 => ?_) (fun c50 => ?_)
          · exfalso; omega
          · refine lv_aload_n hx hb dL_law_53 rfl (lv_at hl 0 rfl) ?_
            refine zv_iconst hx hb dL_law_54 ?_
            refine zc_V (As := [.int (zI 0)]) (rest := []) S hK (kX9_suffix l g ad w n ee en hc u un hs tc tn 0 (by omega)) (cwV 1 hts gL_law_X9_suffix rfl rfl rfl (by decide +kernel) ⟨Nat.le_of_ble_eq_true rfl, Nat.le_of_ble_eq_true rfl⟩) (hA) (hA.recv hK) rfl hl.1 rfl (Nat.le_of_ble_eq_true rfl) dL_law_55 ⟨Nat.le_of_ble_eq_true rfl, Nat.le_of_ble_eq_true rfl⟩ (fun r hr9 => ?_)
            obtain rfl := hr9
            rw [aSuffix_in (by omega), zPl_none (w := w) (n := n) (r := 0) (fun q h1 h2 => by omega)]
            refine zv_bipush hx hb dL_law_58 (by decide +kernel) ?_
            refine zv_icmp_ne (tgt := 83) hx hb dL_law_60 (by decide) (by omega) (by omega) (fun c60 => ?_) (fun c60 => ?_)
            · exfalso; omega
            · refine lv_aload_n hx hb dL_law_63 rfl (lv_at hl 0 rfl) ?_
              refine zv_iconst hx hb dL_law_64 ?_
              refine zc_VWi (As := [.int (zI 1)]) (rest := []) S hK (kX9_drop l g ad w n ee en hc u un hs tc tn 1 (by omega)) (cwV 1 hts gL_law_X9_drop rfl rfl rfl (by decide +kernel) ⟨Nat.le_of_ble_eq_true rfl, Nat.le_of_ble_eq_true rfl⟩) (hA) (hA.recv hK) rfl hl.1 rfl (Nat.le_of_ble_eq_true rfl) dL_law_65 ⟨Nat.le_of_ble_eq_true rfl, Nat.le_of_ble_eq_true rfl⟩ hS (hinA) (fun r H1 locs hp hz hk hS => ?_)
              have e65 : sDrop w n ee en hc u un hs tc tn 1 = (-1, (w, n, ee, en, hc, u, un, hs, tc, tn)) := (zIf_t (by omega)).trans (zIf_t (by omega))
              have hp : r = zI (-1) ∧ AXt g ad (w, n, ee, en, hc, u, un, hs, tc, tn) H1 := by rw [e65] at hp; exact hp
              obtain ⟨rfl, hA⟩ := hp
              clear e65 hz hk
              refine zv_iconst hx hb dL_law_68 ?_
              refine zv_icmp_ne (tgt := 83) hx hb dL_law_69 (by decide) (by omega) (by omega) (fun c69 => ?_) (fun c69 => ?_)
              · exfalso; omega
              · refine lv_aload_n hx hb dL_law_72 rfl (lv_at hl 0 rfl) ?_
                refine zc_S (As := [.ref (ad 16)]) (rest := []) S hK (kL_hangs l g ad w n ee en hc u un hs tc tn ) (va_cwS 1 hts gL_law_L_hangs rfl rfl rfl (by decide +kernel) ⟨Nat.le_of_ble_eq_true rfl, Nat.le_of_ble_eq_true rfl⟩) (hA) rfl hl.1 rfl (Nat.le_of_ble_eq_true rfl) dL_law_73 ⟨Nat.le_of_ble_eq_true rfl, Nat.le_of_ble_eq_true rfl⟩ (fun r hr9 => ?_)
                obtain rfl := hr9
                refine zv_if_eq (tgt := 83) hx hb dL_law_76 (by decide) (by omega) (fun c76 => ?_) (fun c76 => ?_)
                · exfalso; omega
                · refine zv_iconst hx hb dL_law_79 ?_
                  refine lv_goto (tgt := 84) hx hb dL_law_80 (by decide) ?_
                  refine lv_istore_n (lv' := [(2, .int (zI 1)), (1, .ref (ad 16)), (0, .ref b)]) hx hb dL_law_84 rfl hl (by decide) rfl (fun ls hl => ?_)
                  refine zv_iconst hx hb dL_law_85 ?_
                  refine lv_istore_n (lv' := [(3, .int (zI 0)), (2, .int (zI 1)), (1, .ref (ad 16)), (0, .ref b)]) hx hb dL_law_86 rfl hl (by decide) rfl (fun ls hl => ?_)
                  have lp87 : ∀ (z_f : Nat) (i : Int) (σ : zSg) (H1 : Heap) (locs : List Loc), (0 ≤ i ∧ i ≤ 22) → (AXt g ad σ H1) → (va_S (zGe s.heap.size) s.heap H1 locs) → ((22 - i).toNat) < z_f → ∀ (ls : Array Slot), lv_has ls 16 [(0, .ref b), (1, .ref (ad 16)), (2, .int (zI 1)), (3, .int (zI i))] → W p l e room_1 s m #[Value.ref b] below meth c H1 locs 22 416 (lw_Z below #[Value.ref b] s) (F0 m 87 ls []) := by
                    intro z_f
                    induction z_f with
                    | zero => intro i σ H1 locs h0 hA hS z_m; exact absurd z_m (Nat.not_lt_zero _)
                    | succ z_f ih87 =>
                      intro i σ H1 locs h0 hA hS z_m87 ls hl
                      obtain ⟨w, n, ee, en, hc, u, un, hs, tc, tn⟩ := σ
                      obtain ⟨hn0, hw, hc0⟩ := hA.bd
                      refine lv_iload_n hx hb dL_law_87 rfl (lv_at hl 3 rfl) ?_
                      refine zv_bipush hx hb dL_law_88 (by decide +kernel) ?_
                      refine zv_icmp_ge (tgt := 424) hx hb dL_law_90 (by decide) (by omega) (by omega) (fun c90 => ?_) (fun c90 => ?_)
                      · refine lv_aload_n hx hb dL_law_424 rfl (lv_at hl 1 rfl) ?_
                        refine zv_iconst hx hb dL_law_425 ?_
                        refine zc_V (As := [.int (zI 0)]) (rest := []) S hK (kX9_count l g ad w n ee en hc u un hs tc tn 0 (by omega)) (cwV 1 hts gL_law_X9_count rfl rfl rfl (by decide +kernel) ⟨Nat.le_of_ble_eq_true rfl, Nat.le_of_ble_eq_true rfl⟩) (hA) (hA.recv hK) rfl hl.1 rfl (Nat.le_of_ble_eq_true rfl) dL_law_426 ⟨Nat.le_of_ble_eq_true rfl, Nat.le_of_ble_eq_true rfl⟩ (fun r hr9 => ?_)
                        obtain rfl := hr9
                        rw [zCnt_0]
                        refine lv_istore_n (lv' := [(3, .int (zI n)), (0, .ref b), (1, .ref (ad 16)), (2, .int (zI 1))]) hx hb dL_law_429 rfl hl (by decide) rfl (fun ls hl => ?_)
                        have jn536 : ∀ (H1 : Heap) (locs : List Loc), (AXt g ad (w, n, ee, en, hc, u, un, hs, tc, tn) H1) → (va_S (zGe s.heap.size) s.heap H1 locs) → ∀ (ls : Array Slot), lv_has ls 16 [(3, .int (zI n)), (0, .ref b), (1, .ref (ad 16)), (2, .int (zI 1))] → W p l e room_1 s m #[Value.ref b] below meth c H1 locs 22 416 (lw_Z below #[Value.ref b] s) (F0 m 536 ls []) := by
                          intro H1 locs hA hS ls hl
                          refine lv_iload_n hx hb dL_law_536 rfl (lv_at hl 3 rfl) ?_
                          refine zv_if_eq (tgt := 710) hx hb dL_law_537 (by decide) (by omega) (fun c537 => ?_) (fun c537 => ?_)
                          · exfalso; omega
                          · refine lv_aload_n hx hb dL_law_540 rfl (lv_at hl 2 rfl) ?_
                            refine zc_S (As := [.ref (ad 16)]) (rest := []) S hK (kL_hangs l g ad w n ee en hc u un hs tc tn ) (va_cwS 1 hts gL_law_L_hangs rfl rfl rfl (by decide +kernel) ⟨Nat.le_of_ble_eq_true rfl, Nat.le_of_ble_eq_true rfl⟩) (hA) rfl hl.1 rfl (Nat.le_of_ble_eq_true rfl) dL_law_541 ⟨Nat.le_of_ble_eq_true rfl, Nat.le_of_ble_eq_true rfl⟩ (fun r hr9 => ?_)
                            obtain rfl := hr9
                            refine zv_if_eq (tgt := 710) hx hb dL_law_544 (by decide) (by omega) (fun c544 => ?_) (fun c544 => ?_)
                            · exfalso; omega
                            · refine lv_aload_n hx hb dL_law_547 rfl (lv_at hl 2 rfl) ?_
                              refine zv_bipush hx hb dL_law_548 (by decide +kernel) ?_
                              refine zc_VWi (As := [.int (zI 26)]) (rest := []) S hK (kX9_add l g ad w n ee en hc u un hs tc tn 26 (by omega)) (cwV 1 hts gL_law_X9_add rfl rfl rfl (by decide +kernel) ⟨Nat.le_of_ble_eq_true rfl, Nat.le_of_ble_eq_true rfl⟩) (hA) (hA.recv hK) rfl hl.1 rfl (Nat.le_of_ble_eq_true rfl) dL_law_550 ⟨Nat.le_of_ble_eq_true rfl, Nat.le_of_ble_eq_true rfl⟩ hS (hinA) (fun r H1 locs hp hz hk hS => ?_)
                              have e550 : sAdd w n ee en hc u un hs tc tn 26 = (-2, (w, n, ee, en, hc, u, un, hs, tc, tn)) := zIf_f (by omega)
                              have hp : r = zI (-2) ∧ AXt g ad (w, n, ee, en, hc, u, un, hs, tc, tn) H1 := by rw [e550] at hp; exact hp
                              obtain ⟨rfl, hA⟩ := hp
                              clear e550 hz hk
                              refine zv_bipush hx hb dL_law_553 (by decide +kernel) ?_
                              refine zv_icmp_ne (tgt := 710) hx hb dL_law_555 (by decide) (by omega) (by omega) (fun c555 => ?_) (fun c555 => ?_)
                              · exfalso; omega
                              · refine lv_aload_n hx hb dL_law_558 rfl (lv_at hl 2 rfl) ?_
                                refine zv_iconst hx hb dL_law_559 ?_
                                refine zc_VWi (As := [.int (zI 0)]) (rest := []) S hK (kX9_drop l g ad w n ee en hc u un hs tc tn 0 (by omega)) (cwV 1 hts gL_law_X9_drop rfl rfl rfl (by decide +kernel) ⟨Nat.le_of_ble_eq_true rfl, Nat.le_of_ble_eq_true rfl⟩) (hA) (hA.recv hK) rfl hl.1 rfl (Nat.le_of_ble_eq_true rfl) dL_law_560 ⟨Nat.le_of_ble_eq_true rfl, Nat.le_of_ble_eq_true rfl⟩ hS (hinA) (fun r H1 locs hp hz hk hS => ?_)
                                have e560 : sDrop w n ee en hc u un hs tc tn 0 = (-2, (w, n, ee, en, hc, u, un, hs, tc, tn)) := zIf_f (by omega)
                                have hp : r = zI (-2) ∧ AXt g ad (w, n, ee, en, hc, u, un, hs, tc, tn) H1 := by rw [e560] at hp; exact hp
                                obtain ⟨rfl, hA⟩ := hp
                                clear e560 hz hk
                                refine zv_bipush hx hb dL_law_563 (by decide +kernel) ?_
                                refine zv_icmp_ne (tgt := 710) hx hb dL_law_565 (by decide) (by omega) (by omega) (fun c565 => ?_) (fun c565 => ?_)
                                · exfalso; omega
                                · refine lv_aload_n hx hb dL_law_568 rfl (lv_at hl 2 rfl) ?_
                                  refine zv_bipush hx hb dL_law_569 (by decide +kernel) ?_
                                  refine zc_VWi (As := [.int (zI 41)]) (rest := []) S hK (kX9_drop l g ad w n ee en hc u un hs tc tn 41 (by omega)) (cwV 1 hts gL_law_X9_drop rfl rfl rfl (by decide +kernel) ⟨Nat.le_of_ble_eq_true rfl, Nat.le_of_ble_eq_true rfl⟩) (hA) (hA.recv hK) rfl hl.1 rfl (Nat.le_of_ble_eq_true rfl) dL_law_571 ⟨Nat.le_of_ble_eq_true rfl, Nat.le_of_ble_eq_true rfl⟩ hS (hinA) (fun r H1 locs hp hz hk hS => ?_)
                                  have e571 : sDrop w n ee en hc u un hs tc tn 41 = (-2, (w, n, ee, en, hc, u, un, hs, tc, tn)) := zIf_f (by omega)
                                  have hp : r = zI (-2) ∧ AXt g ad (w, n, ee, en, hc, u, un, hs, tc, tn) H1 := by rw [e571] at hp; exact hp
                                  obtain ⟨rfl, hA⟩ := hp
                                  clear e571 hz hk
                                  refine zv_bipush hx hb dL_law_574 (by decide +kernel) ?_
                                  refine zv_icmp_ne (tgt := 710) hx hb dL_law_576 (by decide) (by omega) (by omega) (fun c576 => ?_) (fun c576 => ?_)
                                  · exfalso; omega
                                  · refine lv_aload_n hx hb dL_law_579 rfl (lv_at hl 2 rfl) ?_
                                    refine zv_iconst hx hb dL_law_580 ?_
                                    refine zv_iconst hx hb dL_law_581 ?_
                                    refine zc_VWi (As := [.int (zI (-1)), .int (zI 0)]) (rest := []) S hK (kX9_change l g ad w n ee en hc u un hs tc tn (-1) 0 (by omega) (by omega)) (cwV 2 hts gL_law_X9_change rfl rfl rfl (by decide +kernel) ⟨Nat.le_of_ble_eq_true rfl, Nat.le_of_ble_eq_true rfl⟩) (hA) (hA.recv hK) rfl hl.1 rfl (Nat.le_of_ble_eq_true rfl) dL_law_582 ⟨Nat.le_of_ble_eq_true rfl, Nat.le_of_ble_eq_true rfl⟩ hS (hinA) (fun r H1 locs hp hz hk hS => ?_)
                                    have e582 : sChange w n ee en hc u un hs tc tn (-1) 0 = (-1, (w, n, ee, en, hc, u, un, hs, tc, tn)) := zIf_f (by omega)
                                    have hp : r = zI (-1) ∧ AXt g ad (w, n, ee, en, hc, u, un, hs, tc, tn) H1 := by rw [e582] at hp; exact hp
                                    obtain ⟨rfl, hA⟩ := hp
                                    clear e582 hz hk
                                    refine zv_iconst hx hb dL_law_585 ?_
                                    refine zv_icmp_ne (tgt := 710) hx hb dL_law_586 (by decide) (by omega) (by omega) (fun c586 => ?_) (fun c586 => ?_)
                                    · exfalso; omega
                                    · refine lv_aload_n hx hb dL_law_589 rfl (lv_at hl 2 rfl) ?_
                                      refine zv_bipush hx hb dL_law_590 (by decide +kernel) ?_
                                      refine zc_VWi (As := [.int (zI 40)]) (rest := []) S hK (kX9_turn l g ad w n ee en hc u un hs tc tn 40 (by omega)) (cwV 1 hts gL_law_X9_turn rfl rfl rfl (by decide +kernel) ⟨Nat.le_of_ble_eq_true rfl, Nat.le_of_ble_eq_true rfl⟩) (hA) (hA.recv hK) rfl hl.1 rfl (Nat.le_of_ble_eq_true rfl) dL_law_592 ⟨Nat.le_of_ble_eq_true rfl, Nat.le_of_ble_eq_true rfl⟩ hS (hinA) (fun r H1 locs hp hz hk hS => ?_)
                                      have e592 : sTurn w n ee en hc u un hs tc tn 40 = (-2, (w, n, ee, en, hc, u, un, hs, tc, tn)) := zIf_f (by omega)
                                      have hp : r = zI (-2) ∧ AXt g ad (w, n, ee, en, hc, u, un, hs, tc, tn) H1 := by rw [e592] at hp; exact hp
                                      obtain ⟨rfl, hA⟩ := hp
                                      clear e592 hz hk
                                      refine zv_bipush hx hb dL_law_595 (by decide +kernel) ?_
                                      refine zv_icmp_ne (tgt := 710) hx hb dL_law_597 (by decide) (by omega) (by omega) (fun c597 => ?_) (fun c597 => ?_)
                                      · exfalso; omega
                                      · refine lv_aload_n hx hb dL_law_600 rfl (lv_at hl 2 rfl) ?_
                                        refine zv_iconst hx hb dL_law_601 ?_
                                        refine zv_iconst hx hb dL_law_602 ?_
                                        refine zc_VWi (As := [.int (zI 3), .int (zI 3)]) (rest := []) S hK (kX9_fold l g ad w n ee en hc u un hs tc tn 3 3 (by omega) (by omega)) (cwV 2 hts gL_law_X9_fold rfl rfl rfl (by decide +kernel) ⟨Nat.le_of_ble_eq_true rfl, Nat.le_of_ble_eq_true rfl⟩) (hA) (hA.recv hK) rfl hl.1 rfl (Nat.le_of_ble_eq_true rfl) dL_law_603 ⟨Nat.le_of_ble_eq_true rfl, Nat.le_of_ble_eq_true rfl⟩ hS (hinA) (fun r H1 locs hp hz hk hS => ?_)
                                        have e603 : sFold w n ee en hc u un hs tc tn 3 3 = (-1, (w, n, ee, en, hc, u, un, hs, tc, tn)) := zIf_f (by omega)
                                        have hp : r = zI (-1) ∧ AXt g ad (w, n, ee, en, hc, u, un, hs, tc, tn) H1 := by rw [e603] at hp; exact hp
                                        obtain ⟨rfl, hA⟩ := hp
                                        clear e603 hz hk
                                        refine zv_iconst hx hb dL_law_606 ?_
                                        refine zv_icmp_ne (tgt := 710) hx hb dL_law_607 (by decide) (by omega) (by omega) (fun c607 => ?_) (fun c607 => ?_)
                                        · exfalso; omega
                                        · refine lv_aload_n hx hb dL_law_610 rfl (lv_at hl 2 rfl) ?_
                                          refine zv_iconst hx hb dL_law_611 ?_
                                          refine zv_iconst hx hb dL_law_612 ?_
                                          refine zc_V (As := [.int (zI 0), .int (zI 0)]) (rest := []) S hK (kX9_border l g ad w n ee en hc u un hs tc tn 0 0 (by omega) (by omega)) (cwV 2 hts gL_law_X9_border rfl rfl rfl (by decide +kernel) ⟨Nat.le_of_ble_eq_true rfl, Nat.le_of_ble_eq_true rfl⟩) (hA) (hA.recv hK) rfl hl.1 rfl (Nat.le_of_ble_eq_true rfl) dL_law_613 ⟨Nat.le_of_ble_eq_true rfl, Nat.le_of_ble_eq_true rfl⟩ (fun r hr9 => ?_)
                                          obtain rfl := hr9
                                          rw [aBorder_out (by omega)]
                                          refine zv_iconst hx hb dL_law_616 ?_
                                          refine zv_icmp_ne (tgt := 710) hx hb dL_law_617 (by decide) (by omega) (by omega) (fun c617 => ?_) (fun c617 => ?_)
                                          · exfalso; omega
                                          · refine lv_aload_n hx hb dL_law_620 rfl (lv_at hl 2 rfl) ?_
                                            refine zv_iconst hx hb dL_law_621 ?_
                                            refine zv_bipush hx hb dL_law_622 (by decide +kernel) ?_
                                            refine zc_V (As := [.int (zI 0), .int (zI 40)]) (rest := []) S hK (kX9_alike l g ad w n ee en hc u un hs tc tn 0 40 (by omega) (by omega)) (cwV 2 hts gL_law_X9_alike rfl rfl rfl (by decide +kernel) ⟨Nat.le_of_ble_eq_true rfl, Nat.le_of_ble_eq_true rfl⟩) (hA) (hA.recv hK) rfl hl.1 rfl (Nat.le_of_ble_eq_true rfl) dL_law_624 ⟨Nat.le_of_ble_eq_true rfl, Nat.le_of_ble_eq_true rfl⟩ (fun r hr9 => ?_)
                                            obtain rfl := hr9
                                            rw [aAlike_out (by omega)]
                                            refine zv_iconst hx hb dL_law_627 ?_
                                            refine zv_icmp_ne (tgt := 710) hx hb dL_law_628 (by decide) (by omega) (by omega) (fun c628 => ?_) (fun c628 => ?_)
                                            · exfalso; omega
                                            · refine lv_aload_n hx hb dL_law_631 rfl (lv_at hl 2 rfl) ?_
                                              refine zv_iconst hx hb dL_law_632 ?_
                                              refine zc_V (As := [.int (zI (-1))]) (rest := []) S hK (kX9_suffix l g ad w n ee en hc u un hs tc tn (-1) (by omega)) (cwV 1 hts gL_law_X9_suffix rfl rfl rfl (by decide +kernel) ⟨Nat.le_of_ble_eq_true rfl, Nat.le_of_ble_eq_true rfl⟩) (hA) (hA.recv hK) rfl hl.1 rfl (Nat.le_of_ble_eq_true rfl) dL_law_633 ⟨Nat.le_of_ble_eq_true rfl, Nat.le_of_ble_eq_true rfl⟩ (fun r hr9 => ?_)
                                              obtain rfl := hr9
                                              rw [aSuffix_out (by omega)]
                                              refine zv_bipush hx hb dL_law_636 (by decide +kernel) ?_
                                              refine zv_icmp_ne (tgt := 710) hx hb dL_law_638 (by decide) (by omega) (by omega) (fun c638 => ?_) (fun c638 => ?_)
                                              · exfalso; omega
                                              · refine lv_aload_n hx hb dL_law_641 rfl (lv_at hl 2 rfl) ?_
                                                refine zv_iconst hx hb dL_law_642 ?_
                                                refine zv_iconst hx hb dL_law_643 ?_
                                                refine zc_V (As := [.int (zI (-1)), .int (zI 0)]) (rest := []) S hK (kX9_square l g ad w n ee en hc u un hs tc tn (-1) 0 (by omega) (by omega)) (cwV 2 hts gL_law_X9_square rfl rfl rfl (by decide +kernel) ⟨Nat.le_of_ble_eq_true rfl, Nat.le_of_ble_eq_true rfl⟩) (hA) (hA.recv hK) rfl hl.1 rfl (Nat.le_of_ble_eq_true rfl) dL_law_644 ⟨Nat.le_of_ble_eq_true rfl, Nat.le_of_ble_eq_true rfl⟩ (fun r hr9 => ?_)
                                                obtain rfl := hr9
                                                rw [show aSquare w n (-1) 0 = -2 from zIf_f (by omega)]
                                                refine zv_bipush hx hb dL_law_647 (by decide +kernel) ?_
                                                refine zv_icmp_ne (tgt := 710) hx hb dL_law_649 (by decide) (by omega) (by omega) (fun c649 => ?_) (fun c649 => ?_)
                                                · exfalso; omega
                                                · refine lv_aload_n hx hb dL_law_652 rfl (lv_at hl 2 rfl) ?_
                                                  refine zv_iconst hx hb dL_law_653 ?_
                                                  refine zv_iconst hx hb dL_law_654 ?_
                                                  refine zc_V (As := [.int (zI 0), .int (zI 2)]) (rest := []) S hK (kX9_square l g ad w n ee en hc u un hs tc tn 0 2 (by omega) (by omega)) (cwV 2 hts gL_law_X9_square rfl rfl rfl (by decide +kernel) ⟨Nat.le_of_ble_eq_true rfl, Nat.le_of_ble_eq_true rfl⟩) (hA) (hA.recv hK) rfl hl.1 rfl (Nat.le_of_ble_eq_true rfl) dL_law_655 ⟨Nat.le_of_ble_eq_true rfl, Nat.le_of_ble_eq_true rfl⟩ (fun r hr9 => ?_)
                                                  obtain rfl := hr9
                                                  rw [show aSquare w n 0 2 = -2 from zIf_f (by omega)]
                                                  refine zv_bipush hx hb dL_law_658 (by decide +kernel) ?_
                                                  refine zv_icmp_ne (tgt := 710) hx hb dL_law_660 (by decide) (by omega) (by omega) (fun c660 => ?_) (fun c660 => ?_)
                                                  · exfalso; omega
                                                  · refine lv_aload_n hx hb dL_law_663 rfl (lv_at hl 2 rfl) ?_
                                                    refine zv_iconst hx hb dL_law_664 ?_
                                                    refine zv_iconst hx hb dL_law_665 ?_
                                                    refine zc_V (As := [.int (zI 0), .int (zI 5)]) (rest := []) S hK (kX9_run l g ad w n ee en hc u un hs tc tn 0 5 (by omega) (by omega)) (cwV 2 hts gL_law_X9_run rfl rfl rfl (by decide +kernel) ⟨Nat.le_of_ble_eq_true rfl, Nat.le_of_ble_eq_true rfl⟩) (hA) (hA.recv hK) rfl hl.1 rfl (Nat.le_of_ble_eq_true rfl) dL_law_666 ⟨Nat.le_of_ble_eq_true rfl, Nat.le_of_ble_eq_true rfl⟩ (fun r hr9 => ?_)
                                                    obtain rfl := hr9
                                                    rw [show aRun w n 0 5 = -2 from zIf_f (by omega)]
                                                    refine zv_bipush hx hb dL_law_669 (by decide +kernel) ?_
                                                    refine zv_icmp_ne (tgt := 710) hx hb dL_law_671 (by decide) (by omega) (by omega) (fun c671 => ?_) (fun c671 => ?_)
                                                    · exfalso; omega
                                                    · refine lv_aload_n hx hb dL_law_674 rfl (lv_at hl 2 rfl) ?_
                                                      refine zv_iconst hx hb dL_law_675 ?_
                                                      refine zv_iconst hx hb dL_law_676 ?_
                                                      refine zc_VWi (As := [.int (zI 0), .int (zI 4)]) (rest := []) S hK (kX9_ifLetter l g ad w n ee en hc u un hs tc tn 0 4 (by omega) (by omega)) (cwV 2 hts gL_law_X9_ifLetter rfl rfl rfl (by decide +kernel) ⟨Nat.le_of_ble_eq_true rfl, Nat.le_of_ble_eq_true rfl⟩) (hA) (hA.recv hK) rfl hl.1 rfl (Nat.le_of_ble_eq_true rfl) dL_law_677 ⟨Nat.le_of_ble_eq_true rfl, Nat.le_of_ble_eq_true rfl⟩ hS (hinA) (fun r H1 locs hp hz hk hS => ?_)
                                                      obtain ⟨rfl, hA⟩ := hp
                                                      have hA : AXt g ad (w, n, ee, en, hc, u, un, hs, tc, tn) H1 := hA
                                                      clear hz hk
                                                      rw [show aIf w n 0 4 = -2 from zIf_f (by omega)]
                                                      refine zv_bipush hx hb dL_law_680 (by decide +kernel) ?_
                                                      refine zv_icmp_ne (tgt := 710) hx hb dL_law_682 (by decide) (by omega) (by omega) (fun c682 => ?_) (fun c682 => ?_)
                                                      · exfalso; omega
                                                      · refine lv_aload_n hx hb dL_law_685 rfl (lv_at hl 2 rfl) ?_
                                                        refine zv_iconst hx hb dL_law_686 ?_
                                                        refine zc_VWi (As := [.int (zI 4)]) (rest := []) S hK (kX9_bestLetter l g ad w n ee en hc u un hs tc tn 4 (by omega)) (cwV 1 hts gL_law_X9_bestLetter rfl rfl rfl (by decide +kernel) ⟨Nat.le_of_ble_eq_true rfl, Nat.le_of_ble_eq_true rfl⟩) (hA) (hA.recv hK) rfl hl.1 rfl (Nat.le_of_ble_eq_true rfl) dL_law_687 ⟨Nat.le_of_ble_eq_true rfl, Nat.le_of_ble_eq_true rfl⟩ hS (hinA) (fun r H1 locs hp hz hk hS => ?_)
                                                        obtain ⟨rfl, hA⟩ := hp
                                                        have hA : AXt g ad (w, n, ee, en, hc, u, un, hs, tc, tn) H1 := hA
                                                        clear hz hk
                                                        rw [show aBest w n 4 = -2 from zIf_f (by omega)]
                                                        refine zv_bipush hx hb dL_law_690 (by decide +kernel) ?_
                                                        refine zv_icmp_ne (tgt := 710) hx hb dL_law_692 (by decide) (by omega) (by omega) (fun c692 => ?_) (fun c692 => ?_)
                                                        · exfalso; omega
                                                        · refine lv_aload_n hx hb dL_law_695 rfl (lv_at hl 2 rfl) ?_
                                                          refine zv_bipush hx hb dL_law_696 (by decide +kernel) ?_
                                                          refine zc_V (As := [.int (zI 12)]) (rest := []) S hK (kX9_count l g ad w n ee en hc u un hs tc tn 12 (by omega)) (cwV 1 hts gL_law_X9_count rfl rfl rfl (by decide +kernel) ⟨Nat.le_of_ble_eq_true rfl, Nat.le_of_ble_eq_true rfl⟩) (hA) (hA.recv hK) rfl hl.1 rfl (Nat.le_of_ble_eq_true rfl) dL_law_698 ⟨Nat.le_of_ble_eq_true rfl, Nat.le_of_ble_eq_true rfl⟩ (fun r hr9 => ?_)
                                                          obtain rfl := hr9
                                                          rw [show zCnt w n hc tn 12 = -2 by unfold zCnt; rw [zIf_f (by omega), zIf_f (by omega), zIf_f (by omega), zIf_f (by omega), zIf_f (by omega), zIf_f (by omega), zIf_f (by omega), zIf_f (by omega), zIf_f (by omega), zIf_f (by omega), zIf_f (by omega), zIf_f (by omega)]]
                                                          refine zv_bipush hx hb dL_law_701 (by decide +kernel) ?_
                                                          refine zv_icmp_ne (tgt := 710) hx hb dL_law_703 (by decide) (by omega) (by omega) (fun c703 => ?_) (fun c703 => ?_)
                                                          · exfalso; omega
                                                          · refine lv_iconst (v := 1) hx hb dL_law_706 rfl ?_
                                                            refine lv_goto (tgt := 711) hx hb dL_law_707 (by decide) ?_
                                                            refine va_forget (fun q hq => hS.2.2 q hq) ?_
                                                            refine W.widen (k := 600000) (n := 7302250) (by decide) (by decide) ?_
                                                            exact lw_ret hx hb hr hlocks dL_law_711
                        refine lv_iload_n hx hb dL_law_430 rfl (lv_at hl 3 rfl) ?_
                        refine zv_if_eq (tgt := 536) hx hb dL_law_431 (by decide) (by omega) (fun c431 => ?_) (fun c431 => ?_)
                        · exfalso; omega
                        · refine lv_iload_n hx hb dL_law_434 rfl (lv_at hl 0 rfl) ?_
                          refine zv_bipush hx hb dL_law_435 (by decide +kernel) ?_
                          refine zv_icmp_ge (tgt := 536) hx hb dL_law_437 (by decide) (by omega) (by omega) (fun c437 => ?_) (fun c437 => ?_)
                          · exact jn536 _ _ (hA) (hS) _ (lv_sub hl [0, 1, 2, 3] rfl)
                          · refine lv_aload_n hx hb dL_law_440 rfl (lv_at hl 1 rfl) ?_
                            refine zv_bipush hx hb dL_law_441 (by decide +kernel) ?_
                            have hX1 : va_X b L xs s H1 := hX.kept (hS.2.1 b hbl hbA)
                            refine zc_Sp (As := [.ref b, .int (zI 23)]) (rest := []) S (kL_cell l g b L xs hL 23 (by omega)) (va_cwS 2 hts gL_law_L_cell rfl rfl rfl (by decide +kernel) ⟨Nat.le_of_ble_eq_true rfl, Nat.le_of_ble_eq_true rfl⟩) (zc_preX hK hX1) rfl hl.1 rfl (Nat.le_of_ble_eq_true rfl) dL_law_443 ⟨Nat.le_of_ble_eq_true rfl, Nat.le_of_ble_eq_true rfl⟩ (fun r hr9 => ?_)
                            obtain ⟨z9, rfl, bz90, bz91⟩ := hr9
                            clear hX1
                            refine zv_iconst hx hb dL_law_446 ?_
                            refine zv_irem hx hb dL_law_447 (by omega) (by omega) ?_
                            obtain ⟨wh, ewh⟩ : ∃ z : Int, z = z9 % 3 := ⟨_, rfl⟩
                            rw [← ewh]
                            have bwh : 0 ≤ wh ∧ wh < 3 := by omega
                            obtain ⟨be, ebe, bbe, be1, be2⟩ := zBest_at (w := w) (n := n) (q := wh) (by omega) (by omega)
                            refine lv_istore (lv' := [(4, .int (zI wh)), (3, .int (zI n)), (0, .ref b), (1, .ref (ad 16)), (2, .int (zI 1))]) hx hb dL_law_448 hl (by decide) rfl (fun ls hl => ?_)
                            refine lv_aload_n hx hb dL_law_450 rfl (lv_at hl 3 rfl) ?_
                            refine lv_iload hx hb dL_law_451 (lv_at hl 0 rfl) ?_
                            refine zc_VWi (As := [.int (zI wh)]) (rest := []) S hK (kX9_bestLetter l g ad w n ee en hc u un hs tc tn wh (by omega)) (cwV 1 hts gL_law_X9_bestLetter rfl rfl rfl (by decide +kernel) ⟨Nat.le_of_ble_eq_true rfl, Nat.le_of_ble_eq_true rfl⟩) (hA) (hA.recv hK) rfl hl.1 rfl (Nat.le_of_ble_eq_true rfl) dL_law_453 ⟨Nat.le_of_ble_eq_true rfl, Nat.le_of_ble_eq_true rfl⟩ hS (hinA) (fun r H1 locs hp hz hk hS => ?_)
                            obtain ⟨rfl, hA⟩ := hp
                            have hA : AXt g ad (w, n, ee, en, hc, u, un, hs, tc, tn) H1 := hA
                            clear hz hk
                            rw [ebe]
                            refine lv_istore (lv' := [(5, .int (zI be)), (4, .int (zI wh)), (3, .int (zI n)), (0, .ref b), (1, .ref (ad 16)), (2, .int (zI 1))]) hx hb dL_law_456 hl (by decide) rfl (fun ls hl => ?_)
                            refine zv_iconst hx hb dL_law_458 ?_
                            refine lv_istore (lv' := [(6, .int (zI 0)), (5, .int (zI be)), (4, .int (zI wh)), (3, .int (zI n)), (0, .ref b), (1, .ref (ad 16)), (2, .int (zI 1))]) hx hb dL_law_459 hl (by decide) rfl (fun ls hl => ?_)
                            have lp461 : ∀ (z_f : Nat) (k : Int) (H1 : Heap) (locs : List Loc), (0 ≤ k ∧ k ≤ 4) → (AXt g ad (w, n, ee, en, hc, u, un, hs, tc, tn) H1) → (va_S (zGe s.heap.size) s.heap H1 locs) → ((4 - k).toNat) < z_f → ∀ (ls : Array Slot), lv_has ls 16 [(0, .ref b), (1, .ref (ad 16)), (2, .int (zI 1)), (3, .int (zI n)), (4, .int (zI wh)), (5, .int (zI be)), (6, .int (zI k))] → W p l e room_1 s m #[Value.ref b] below meth c H1 locs 22 416 (lw_Z below #[Value.ref b] s) (F0 m 461 ls []) := by
                              intro z_f
                              induction z_f with
                              | zero => intro k H1 locs hk0 hA hS z_m; exact absurd z_m (Nat.not_lt_zero _)
                              | succ z_f ih461 =>
                                intro k H1 locs hk0 hA hS z_m461 ls hl
                                refine lv_iload hx hb dL_law_461 (lv_at hl 6 rfl) ?_
                                refine zv_iconst hx hb dL_law_463 ?_
                                refine zv_icmp_ge (tgt := 536) hx hb dL_law_464 (by decide) (by omega) (by omega) (fun c464 => ?_) (fun c464 => ?_)
                                · exact jn536 _ _ (hA) (hS) _ (lv_sub hl [3, 0, 1, 2] rfl)
                                · refine lv_iload_n hx hb dL_law_467 rfl (lv_at hl 2 rfl) ?_
                                  refine zv_if_eq (tgt := 536) hx hb dL_law_468 (by decide) (by omega) (fun c468 => ?_) (fun c468 => ?_)
                                  · exfalso; omega
                                  · have bk1 := aIf_bd (w := w) (x := k) (q := wh) hn0 (by omega) (by omega)
                                    have bk2 := aIf_bd (w := w) (x := be) (q := wh) hn0 (by omega) (by omega)
                                    have bk3 := be2 k (by omega) (by omega)
                                    refine lv_iload hx hb dL_law_471 (lv_at hl 6 rfl) ?_
                                    refine lv_iload hx hb dL_law_473 (lv_at hl 5 rfl) ?_
                                    refine zv_icmp_ge (tgt := 505) hx hb dL_law_475 (by decide) (by omega) (by omega) (fun c475 => ?_) (fun c475 => ?_)
                                    · refine lv_aload_n hx hb dL_law_505 rfl (lv_at hl 1 rfl) ?_
                                      refine lv_iload hx hb dL_law_506 (lv_at hl 6 rfl) ?_
                                      refine lv_iload hx hb dL_law_508 (lv_at hl 4 rfl) ?_
                                      refine zc_VWi (As := [.int (zI k), .int (zI wh)]) (rest := []) S hK (kX9_ifLetter l g ad w n ee en hc u un hs tc tn k wh (by omega) (by omega)) (cwV 2 hts gL_law_X9_ifLetter rfl rfl rfl (by decide +kernel) ⟨Nat.le_of_ble_eq_true rfl, Nat.le_of_ble_eq_true rfl⟩) (hA) (hA.recv hK) rfl hl.1 rfl (Nat.le_of_ble_eq_true rfl) dL_law_510 ⟨Nat.le_of_ble_eq_true rfl, Nat.le_of_ble_eq_true rfl⟩ hS (hinA) (fun r H1 locs hp hz hk hS => ?_)
                                      obtain ⟨rfl, hA⟩ := hp
                                      have hA : AXt g ad (w, n, ee, en, hc, u, un, hs, tc, tn) H1 := hA
                                      clear hz hk
                                      refine lv_aload_n hx hb dL_law_513 rfl (lv_at hl 1 rfl) ?_
                                      refine lv_iload hx hb dL_law_514 (lv_at hl 5 rfl) ?_
                                      refine lv_iload hx hb dL_law_516 (lv_at hl 4 rfl) ?_
                                      refine zc_VWi (As := [.int (zI be), .int (zI wh)]) (rest := [.int (zI (aIf w n k wh))]) S hK (kX9_ifLetter l g ad w n ee en hc u un hs tc tn be wh (by omega) (by omega)) (cwV 2 hts gL_law_X9_ifLetter rfl rfl rfl (by decide +kernel) ⟨Nat.le_of_ble_eq_true rfl, Nat.le_of_ble_eq_true rfl⟩) (hA) (hA.recv hK) rfl hl.1 rfl (Nat.le_of_ble_eq_true rfl) dL_law_518 ⟨Nat.le_of_ble_eq_true rfl, Nat.le_of_ble_eq_true rfl⟩ hS (hinA) (fun r H1 locs hp hz hk hS => ?_)
                                      obtain ⟨rfl, hA⟩ := hp
                                      have hA : AXt g ad (w, n, ee, en, hc, u, un, hs, tc, tn) H1 := hA
                                      clear hz hk
                                      refine zv_icmp_gt (tgt := 528) hx hb dL_law_521 (by decide) (by omega) (by omega) (fun c521 => ?_) (fun c521 => ?_)
                                      · exfalso; omega
                                      · refine zv_iconst hx hb dL_law_524 ?_
                                        refine lv_goto (tgt := 529) hx hb dL_law_525 (by decide) ?_
                                        refine lv_istore_n (lv' := [(2, .int (zI 1)), (0, .ref b), (1, .ref (ad 16)), (3, .int (zI n)), (4, .int (zI wh)), (5, .int (zI be)), (6, .int (zI k))]) hx hb dL_law_529 rfl hl (by decide) rfl (fun ls hl => ?_)
                                        refine zv_iinc (lv' := [(6, .int (zI (k + 1))), (2, .int (zI 1)), (0, .ref b), (1, .ref (ad 16)), (3, .int (zI n)), (4, .int (zI wh)), (5, .int (zI be))]) hx hb dL_law_530 hl (k := 6) rfl (by decide) rfl (fun ls hl => ?_)
                                        refine lv_goto (tgt := 461) hx hb dL_law_533 (by decide) ?_
                                        exact ih461 (k + 1) _ _ (by omega) (hA) (hS) (by omega) _ (lv_sub hl [2, 3, 1, 4, 5, 6, 0] rfl)
                                    · have bk4 := be1 k (by omega) (by omega)
                                      refine lv_aload_n hx hb dL_law_478 rfl (lv_at hl 1 rfl) ?_
                                      refine lv_iload hx hb dL_law_479 (lv_at hl 6 rfl) ?_
                                      refine lv_iload hx hb dL_law_481 (lv_at hl 4 rfl) ?_
                                      refine zc_VWi (As := [.int (zI k), .int (zI wh)]) (rest := []) S hK (kX9_ifLetter l g ad w n ee en hc u un hs tc tn k wh (by omega) (by omega)) (cwV 2 hts gL_law_X9_ifLetter rfl rfl rfl (by decide +kernel) ⟨Nat.le_of_ble_eq_true rfl, Nat.le_of_ble_eq_true rfl⟩) (hA) (hA.recv hK) rfl hl.1 rfl (Nat.le_of_ble_eq_true rfl) dL_law_483 ⟨Nat.le_of_ble_eq_true rfl, Nat.le_of_ble_eq_true rfl⟩ hS (hinA) (fun r H1 locs hp hz hk hS => ?_)
                                      obtain ⟨rfl, hA⟩ := hp
                                      have hA : AXt g ad (w, n, ee, en, hc, u, un, hs, tc, tn) H1 := hA
                                      clear hz hk
                                      refine lv_aload_n hx hb dL_law_486 rfl (lv_at hl 1 rfl) ?_
                                      refine lv_iload hx hb dL_law_487 (lv_at hl 5 rfl) ?_
                                      refine lv_iload hx hb dL_law_489 (lv_at hl 4 rfl) ?_
                                      refine zc_VWi (As := [.int (zI be), .int (zI wh)]) (rest := [.int (zI (aIf w n k wh))]) S hK (kX9_ifLetter l g ad w n ee en hc u un hs tc tn be wh (by omega) (by omega)) (cwV 2 hts gL_law_X9_ifLetter rfl rfl rfl (by decide +kernel) ⟨Nat.le_of_ble_eq_true rfl, Nat.le_of_ble_eq_true rfl⟩) (hA) (hA.recv hK) rfl hl.1 rfl (Nat.le_of_ble_eq_true rfl) dL_law_491 ⟨Nat.le_of_ble_eq_true rfl, Nat.le_of_ble_eq_true rfl⟩ hS (hinA) (fun r H1 locs hp hz hk hS => ?_)
                                      obtain ⟨rfl, hA⟩ := hp
                                      have hA : AXt g ad (w, n, ee, en, hc, u, un, hs, tc, tn) H1 := hA
                                      clear hz hk
                                      refine zv_icmp_ge (tgt := 501) hx hb dL_law_494 (by decide) (by omega) (by omega) (fun c494 => ?_) (fun c494 => ?_)
                                      · exfalso; omega
                                      · refine zv_iconst hx hb dL_law_497 ?_
                                        refine lv_goto (tgt := 529) hx hb dL_law_498 (by decide) ?_
                                        refine lv_istore_n (lv' := [(2, .int (zI 1)), (0, .ref b), (1, .ref (ad 16)), (3, .int (zI n)), (4, .int (zI wh)), (5, .int (zI be)), (6, .int (zI k))]) hx hb dL_law_529 rfl hl (by decide) rfl (fun ls hl => ?_)
                                        refine zv_iinc (lv' := [(6, .int (zI (k + 1))), (2, .int (zI 1)), (0, .ref b), (1, .ref (ad 16)), (3, .int (zI n)), (4, .int (zI wh)), (5, .int (zI be))]) hx hb dL_law_530 hl (k := 6) rfl (by decide) rfl (fun ls hl => ?_)
                                        refine lv_goto (tgt := 461) hx hb dL_law_533 (by decide) ?_
                                        exact ih461 (k + 1) _ _ (by omega) (hA) (hS) (by omega) _ (lv_sub hl [2, 3, 1, 4, 5, 6, 0] rfl)
                            exact lp461 _ 0 _ _ (by omega) (hA) (hS) (Nat.lt_succ_self _) _ (lv_sub hl [4, 5, 6, 3, 2, 1, 0] rfl)
                      · refine lv_iload_n hx hb dL_law_93 rfl (lv_at hl 2 rfl) ?_
                        refine zv_if_eq (tgt := 424) hx hb dL_law_94 (by decide) (by omega) (fun c94 => ?_) (fun c94 => ?_)
                        · exfalso; omega
                        · refine lv_aload_n hx hb dL_law_97 rfl (lv_at hl 0 rfl) ?_
                          refine lv_iload_n hx hb dL_law_98 rfl (lv_at hl 3 rfl) ?_
                          have hX1 : va_X b L xs s H1 := hX.kept (hS.2.1 b hbl hbA)
                          refine zc_Sp (As := [.ref b, .int (zI i)]) (rest := []) S (kL_cell l g b L xs hL i (by omega)) (va_cwS 2 hts gL_law_L_cell rfl rfl rfl (by decide +kernel) ⟨Nat.le_of_ble_eq_true rfl, Nat.le_of_ble_eq_true rfl⟩) (zc_preX hK hX1) rfl hl.1 rfl (Nat.le_of_ble_eq_true rfl) dL_law_99 ⟨Nat.le_of_ble_eq_true rfl, Nat.le_of_ble_eq_true rfl⟩ (fun r hr9 => ?_)
                          obtain ⟨y9, rfl, by90, by91⟩ := hr9
                          clear hX1
                          refine lv_istore (lv' := [(4, .int (zI y9)), (0, .ref b), (1, .ref (ad 16)), (2, .int (zI 1)), (3, .int (zI i))]) hx hb dL_law_102 hl (by decide) rfl (fun ls hl => ?_)
                          refine lv_aload_n hx hb dL_law_104 rfl (lv_at hl 2 rfl) ?_
                          refine zv_bipush hx hb dL_law_105 (by decide +kernel) ?_
                          refine zc_V (As := [.int (zI 10)]) (rest := []) S hK (kX9_count l g ad w n ee en hc u un hs tc tn 10 (by omega)) (cwV 1 hts gL_law_X9_count rfl rfl rfl (by decide +kernel) ⟨Nat.le_of_ble_eq_true rfl, Nat.le_of_ble_eq_true rfl⟩) (hA) (hA.recv hK) rfl hl.1 rfl (Nat.le_of_ble_eq_true rfl) dL_law_107 ⟨Nat.le_of_ble_eq_true rfl, Nat.le_of_ble_eq_true rfl⟩ (fun r hr9 => ?_)
                          obtain rfl := hr9
                          rw [zCnt_10]
                          refine lv_istore (lv' := [(5, .int (zI hc)), (4, .int (zI y9)), (0, .ref b), (1, .ref (ad 16)), (2, .int (zI 1)), (3, .int (zI i))]) hx hb dL_law_110 hl (by decide) rfl (fun ls hl => ?_)
                          refine lv_aload_n hx hb dL_law_112 rfl (lv_at hl 3 rfl) ?_
                          refine zv_iconst hx hb dL_law_113 ?_
                          refine zc_V (As := [.int (zI 0)]) (rest := []) S hK (kX9_count l g ad w n ee en hc u un hs tc tn 0 (by omega)) (cwV 1 hts gL_law_X9_count rfl rfl rfl (by decide +kernel) ⟨Nat.le_of_ble_eq_true rfl, Nat.le_of_ble_eq_true rfl⟩) (hA) (hA.recv hK) rfl hl.1 rfl (Nat.le_of_ble_eq_true rfl) dL_law_114 ⟨Nat.le_of_ble_eq_true rfl, Nat.le_of_ble_eq_true rfl⟩ (fun r hr9 => ?_)
                          obtain rfl := hr9
                          rw [zCnt_0]
                          refine lv_istore (lv' := [(6, .int (zI n)), (5, .int (zI hc)), (4, .int (zI y9)), (0, .ref b), (1, .ref (ad 16)), (2, .int (zI 1)), (3, .int (zI i))]) hx hb dL_law_117 hl (by decide) rfl (fun ls hl => ?_)
                          refine lv_iload hx hb dL_law_119 (lv_at hl 2 rfl) ?_
                          refine zv_bipush hx hb dL_law_121 (by decide +kernel) ?_
                          refine zv_idiv hx hb dL_law_123 (by omega) (by omega) ?_
                          refine zv_bipush hx hb dL_law_124 (by decide +kernel) ?_
                          refine zv_irem hx hb dL_law_126 (by omega) (by omega) ?_
                          have jn141 : ∀ (le9 : Int), (le9 = zLe y9) → ∀ (ls : Array Slot), lv_has ls 16 [(6, .int (zI n)), (5, .int (zI hc)), (4, .int (zI y9)), (0, .ref b), (1, .ref (ad 16)), (2, .int (zI 1)), (3, .int (zI i))] → W p l e room_1 s m #[Value.ref b] below meth c H1 locs 22 416 (lw_Z below #[Value.ref b] s) (F0 m 141 ls [.int (zI le9)]) := by
                            intro le9 hle ls hl
                            refine lv_istore (lv' := [(7, .int (zI le9)), (6, .int (zI n)), (5, .int (zI hc)), (4, .int (zI y9)), (0, .ref b), (1, .ref (ad 16)), (2, .int (zI 1)), (3, .int (zI i))]) hx hb dL_law_141 hl (by decide) rfl (fun ls hl => ?_)
                            have bLe := zLe_bd y9
                            refine lv_iload hx hb dL_law_143 (lv_at hl 3 rfl) ?_
                            refine zv_bipush hx hb dL_law_145 (by decide +kernel) ?_
                            refine zv_irem hx hb dL_law_147 (by omega) (by omega) ?_
                            refine zv_bipush hx hb dL_law_148 (by decide +kernel) ?_
                            have jn158 : ∀ (a8 : Int), ((a8 = 1 ∧ 6 < y9 % 16) ∨ (a8 = 0 ∧ y9 % 16 ≤ 6)) → ∀ (ls : Array Slot), lv_has ls 16 [(7, .int (zI le9)), (6, .int (zI n)), (5, .int (zI hc)), (4, .int (zI y9)), (0, .ref b), (1, .ref (ad 16)), (2, .int (zI 1)), (3, .int (zI i))] → W p l e room_1 s m #[Value.ref b] below meth c H1 locs 22 416 (lw_Z below #[Value.ref b] s) (F0 m 158 ls [.int (zI a8)]) := by
                              intro a8 ha8 ls hl
                              refine lv_istore (lv' := [(8, .int (zI a8)), (7, .int (zI le9)), (6, .int (zI n)), (5, .int (zI hc)), (4, .int (zI y9)), (0, .ref b), (1, .ref (ad 16)), (2, .int (zI 1)), (3, .int (zI i))]) hx hb dL_law_158 hl (by decide) rfl (fun ls hl => ?_)
                              refine lv_aload_n hx hb dL_law_160 rfl (lv_at hl 6 rfl) ?_
                              refine lv_iload hx hb dL_law_161 (lv_at hl 1 rfl) ?_
                              refine zv_iconst hx hb dL_law_163 ?_
                              refine zc_VWi (As := [.int (zI le9), .int (zI 0)]) (rest := []) S hK (kX9_ifLetter l g ad w n ee en hc u un hs tc tn le9 0 (by omega) (by omega)) (cwV 2 hts gL_law_X9_ifLetter rfl rfl rfl (by decide +kernel) ⟨Nat.le_of_ble_eq_true rfl, Nat.le_of_ble_eq_true rfl⟩) (hA) (hA.recv hK) rfl hl.1 rfl (Nat.le_of_ble_eq_true rfl) dL_law_164 ⟨Nat.le_of_ble_eq_true rfl, Nat.le_of_ble_eq_true rfl⟩ hS (hinA) (fun r H1 locs hp hz hk hS => ?_)
                              obtain ⟨rfl, hA⟩ := hp
                              have hA : AXt g ad (w, n, ee, en, hc, u, un, hs, tc, tn) H1 := hA
                              clear hz hk
                              obtain ⟨f0, ef0⟩ : ∃ z : Int, z = aIf w n le9 0 := ⟨_, rfl⟩
                              rw [← ef0]
                              have bf0 := aIf_bd (w := w) (x := le9) (q := 0) hn0 (by omega) (by omega)
                              rw [← ef0] at bf0
                              refine lv_istore (lv' := [(9, .int (zI f0)), (8, .int (zI a8)), (7, .int (zI le9)), (6, .int (zI n)), (5, .int (zI hc)), (4, .int (zI y9)), (0, .ref b), (1, .ref (ad 16)), (2, .int (zI 1)), (3, .int (zI i))]) hx hb dL_law_167 hl (by decide) rfl (fun ls hl => ?_)
                              refine lv_aload_n hx hb dL_law_169 rfl (lv_at hl 7 rfl) ?_
                              refine lv_iload hx hb dL_law_170 (lv_at hl 2 rfl) ?_
                              refine zv_iconst hx hb dL_law_172 ?_
                              refine zc_VWi (As := [.int (zI le9), .int (zI 1)]) (rest := []) S hK (kX9_ifLetter l g ad w n ee en hc u un hs tc tn le9 1 (by omega) (by omega)) (cwV 2 hts gL_law_X9_ifLetter rfl rfl rfl (by decide +kernel) ⟨Nat.le_of_ble_eq_true rfl, Nat.le_of_ble_eq_true rfl⟩) (hA) (hA.recv hK) rfl hl.1 rfl (Nat.le_of_ble_eq_true rfl) dL_law_173 ⟨Nat.le_of_ble_eq_true rfl, Nat.le_of_ble_eq_true rfl⟩ hS (hinA) (fun r H1 locs hp hz hk hS => ?_)
                              obtain ⟨rfl, hA⟩ := hp
                              have hA : AXt g ad (w, n, ee, en, hc, u, un, hs, tc, tn) H1 := hA
                              clear hz hk
                              obtain ⟨f1, ef1⟩ : ∃ z : Int, z = aIf w n le9 1 := ⟨_, rfl⟩
                              rw [← ef1]
                              have bf1 := aIf_bd (w := w) (x := le9) (q := 1) hn0 (by omega) (by omega)
                              rw [← ef1] at bf1
                              refine lv_istore (lv' := [(10, .int (zI f1)), (9, .int (zI f0)), (8, .int (zI a8)), (7, .int (zI le9)), (6, .int (zI n)), (5, .int (zI hc)), (4, .int (zI y9)), (0, .ref b), (1, .ref (ad 16)), (2, .int (zI 1)), (3, .int (zI i))]) hx hb dL_law_176 hl (by decide) rfl (fun ls hl => ?_)
                              refine lv_aload_n hx hb dL_law_178 rfl (lv_at hl 8 rfl) ?_
                              refine lv_iload hx hb dL_law_179 (lv_at hl 3 rfl) ?_
                              refine zv_iconst hx hb dL_law_181 ?_
                              refine zc_VWi (As := [.int (zI le9), .int (zI 2)]) (rest := []) S hK (kX9_ifLetter l g ad w n ee en hc u un hs tc tn le9 2 (by omega) (by omega)) (cwV 2 hts gL_law_X9_ifLetter rfl rfl rfl (by decide +kernel) ⟨Nat.le_of_ble_eq_true rfl, Nat.le_of_ble_eq_true rfl⟩) (hA) (hA.recv hK) rfl hl.1 rfl (Nat.le_of_ble_eq_true rfl) dL_law_182 ⟨Nat.le_of_ble_eq_true rfl, Nat.le_of_ble_eq_true rfl⟩ hS (hinA) (fun r H1 locs hp hz hk hS => ?_)
                              obtain ⟨rfl, hA⟩ := hp
                              have hA : AXt g ad (w, n, ee, en, hc, u, un, hs, tc, tn) H1 := hA
                              clear hz hk
                              obtain ⟨f2, ef2⟩ : ∃ z : Int, z = aIf w n le9 2 := ⟨_, rfl⟩
                              rw [← ef2]
                              have bf2 := aIf_bd (w := w) (x := le9) (q := 2) hn0 (by omega) (by omega)
                              rw [← ef2] at bf2
                              refine lv_istore (lv' := [(11, .int (zI f2)), (10, .int (zI f1)), (9, .int (zI f0)), (8, .int (zI a8)), (7, .int (zI le9)), (6, .int (zI n)), (5, .int (zI hc)), (4, .int (zI y9)), (0, .ref b), (1, .ref (ad 16)), (2, .int (zI 1)), (3, .int (zI i))]) hx hb dL_law_185 hl (by decide) rfl (fun ls hl => ?_)
                              refine lv_aload_n hx hb dL_law_187 rfl (lv_at hl 9 rfl) ?_
                              refine lv_iload hx hb dL_law_188 (lv_at hl 4 rfl) ?_
                              refine zv_iconst hx hb dL_law_190 ?_
                              refine zc_VWi (As := [.int (zI le9), .int (zI 3)]) (rest := []) S hK (kX9_ifLetter l g ad w n ee en hc u un hs tc tn le9 3 (by omega) (by omega)) (cwV 2 hts gL_law_X9_ifLetter rfl rfl rfl (by decide +kernel) ⟨Nat.le_of_ble_eq_true rfl, Nat.le_of_ble_eq_true rfl⟩) (hA) (hA.recv hK) rfl hl.1 rfl (Nat.le_of_ble_eq_true rfl) dL_law_191 ⟨Nat.le_of_ble_eq_true rfl, Nat.le_of_ble_eq_true rfl⟩ hS (hinA) (fun r H1 locs hp hz hk hS => ?_)
                              obtain ⟨rfl, hA⟩ := hp
                              have hA : AXt g ad (w, n, ee, en, hc, u, un, hs, tc, tn) H1 := hA
                              clear hz hk
                              obtain ⟨f3, ef3⟩ : ∃ z : Int, z = aIf w n le9 3 := ⟨_, rfl⟩
                              rw [← ef3]
                              have bf3 := aIf_bd (w := w) (x := le9) (q := 3) hn0 (by omega) (by omega)
                              rw [← ef3] at bf3
                              refine lv_istore (lv' := [(12, .int (zI f3)), (11, .int (zI f2)), (10, .int (zI f1)), (9, .int (zI f0)), (8, .int (zI a8)), (7, .int (zI le9)), (6, .int (zI n)), (5, .int (zI hc)), (4, .int (zI y9)), (0, .ref b), (1, .ref (ad 16)), (2, .int (zI 1)), (3, .int (zI i))]) hx hb dL_law_194 hl (by decide) rfl (fun ls hl => ?_)
                              have bU1 := zUn_bd (w := w) hn0
                              have bS1 := zCC_bd (zSqP w) hn0
                              refine lv_aload_n hx hb dL_law_196 rfl (lv_at hl 10 rfl) ?_
                              refine zv_iconst hx hb dL_law_197 ?_
                              refine zc_V (As := [.int (zI 2)]) (rest := []) S hK (kX9_count l g ad w n ee en hc u un hs tc tn 2 (by omega)) (cwV 1 hts gL_law_X9_count rfl rfl rfl (by decide +kernel) ⟨Nat.le_of_ble_eq_true rfl, Nat.le_of_ble_eq_true rfl⟩) (hA) (hA.recv hK) rfl hl.1 rfl (Nat.le_of_ble_eq_true rfl) dL_law_198 ⟨Nat.le_of_ble_eq_true rfl, Nat.le_of_ble_eq_true rfl⟩ (fun r hr9 => ?_)
                              obtain rfl := hr9
                              rw [zCnt_2]
                              refine lv_istore (lv' := [(13, .int (zI (zUn w n))), (12, .int (zI f3)), (11, .int (zI f2)), (10, .int (zI f1)), (9, .int (zI f0)), (8, .int (zI a8)), (7, .int (zI le9)), (6, .int (zI n)), (5, .int (zI hc)), (4, .int (zI y9)), (0, .ref b), (1, .ref (ad 16)), (2, .int (zI 1)), (3, .int (zI i))]) hx hb dL_law_201 hl (by decide) rfl (fun ls hl => ?_)
                              refine lv_aload_n hx hb dL_law_203 rfl (lv_at hl 11 rfl) ?_
                              refine zv_iconst hx hb dL_law_204 ?_
                              refine zc_V (As := [.int (zI 4)]) (rest := []) S hK (kX9_count l g ad w n ee en hc u un hs tc tn 4 (by omega)) (cwV 1 hts gL_law_X9_count rfl rfl rfl (by decide +kernel) ⟨Nat.le_of_ble_eq_true rfl, Nat.le_of_ble_eq_true rfl⟩) (hA) (hA.recv hK) rfl hl.1 rfl (Nat.le_of_ble_eq_true rfl) dL_law_205 ⟨Nat.le_of_ble_eq_true rfl, Nat.le_of_ble_eq_true rfl⟩ (fun r hr9 => ?_)
                              obtain rfl := hr9
                              rw [zCnt_4]
                              refine lv_istore (lv' := [(14, .int (zI (zCC (zSqP w) n n))), (13, .int (zI (zUn w n))), (12, .int (zI f3)), (11, .int (zI f2)), (10, .int (zI f1)), (9, .int (zI f0)), (8, .int (zI a8)), (7, .int (zI le9)), (6, .int (zI n)), (5, .int (zI hc)), (4, .int (zI y9)), (0, .ref b), (1, .ref (ad 16)), (2, .int (zI 1)), (3, .int (zI i))]) hx hb dL_law_208 hl (by decide) rfl (fun ls hl => ?_)
                              refine lv_aload_n hx hb dL_law_210 rfl (lv_at hl 12 rfl) ?_
                              refine lv_iload hx hb dL_law_211 (lv_at hl 10 rfl) ?_
                              refine zc_SWi (As := [.ref (ad 16), .int (zI y9)]) (rest := []) S hK (kL_acts l g ad w n ee en hc u un hs tc tn y9 (by omega)) (va_cwS 2 hts gL_law_L_acts rfl rfl rfl (by decide +kernel) ⟨Nat.le_of_ble_eq_true rfl, Nat.le_of_ble_eq_true rfl⟩) (hA) rfl hl.1 rfl (Nat.le_of_ble_eq_true rfl) dL_law_213 ⟨Nat.le_of_ble_eq_true rfl, Nat.le_of_ble_eq_true rfl⟩ hS (hinA) (fun r H1 locs hp hz hk hS => ?_)
                              obtain ⟨t9, σ2, rfl, hA, hOK⟩ := hp
                              obtain ⟨w2, n2, ee2, en2, hc2, u2, un2, hs2, tc2, tn2⟩ := σ2
                              clear hz hk
                              have hT : -100 ≤ t9 ∧ t9 ≤ 40 := hOK.1
                              have hP : 0 ≤ t9 → hc2 = min (hc + 1) 4 := hOK.2.1
                              have hN : t9 < 0 → w2 = w ∧ n2 = n ∧ hc2 = hc := fun v => zOK_neg (hOK.2.2.1 v)
                              have hN1 : t9 < 0 → n2 = n ∧ hc2 = hc ∧ zUn w2 n2 = zUn w n := fun v => ⟨(hN v).2.1, (hN v).2.2, by rw [(hN v).1, (hN v).2.1]⟩
                              have hF : 6 < y9 % 16 → n = 40 → t9 = -3 := fun v v2 => (hOK.2.2.2 v).1 v2
                              have hL9 : 6 < y9 % 16 → n < 40 → t9 = zEG (zApp w n (zLe y9)) 0 (n + 1) (n + 1) ∧ w2 = zApp w n (zLe y9) ∧ n2 = n + 1 := fun v v2 => (hOK.2.2.2 v).2 v2
                              have hf0 : n = 40 → f0 = -3 := fun v => ef0.trans (aIf_full (by omega) (by omega) (by omega))
                              have hG : 6 < y9 % 16 → n < 40 → t9 = f0 ∧ n2 = n + 1 ∧ zUn w2 n2 = zUn w n + f1 ∧ zCC (zSqP w2) n2 n2 = zCC (zSqP w) n n + f2 ∧ zSE w2 (n + 1) = f2 ∧ zCC (zRun w2 n2) n2 n2 = f3 := fun v v2 => by
                                obtain ⟨g1, g2, g3⟩ := hL9 v v2
                                have hx : 0 ≤ le9 ∧ le9 ≤ 25 := by omega
                                rw [aIf_in (q := 0) hx (by omega) v2, zBr_0] at ef0
                                rw [aIf_in (q := 1) hx (by omega) v2, zBr_1] at ef1
                                rw [aIf_in (q := 2) hx (by omega) v2, zBr_2] at ef2
                                rw [aIf_in (q := 3) hx (by omega) v2, zBr_3] at ef3
                                rw [hle] at ef0 ef1 ef2 ef3
                                have u1 := zUn_more (w := w) (n := n) (x := zLe y9) hn0.1
                                have u2 := zSqs_more (w := w) (n := n) (x := zLe y9) hn0.1
                                rw [g2, g3]
                                exact ⟨by omega, rfl, by omega, by omega, ef2.symm, ef3.symm⟩
                              have hB2 := hA.bd
                              obtain ⟨hn2, hw2, hc02⟩ := hB2
                              have bU2 := zUn_bd (w := w2) hn2
                              have bS2 := zCC_bd (zSqP w2) hn2
                              have bR2 := zCC_bd (zRun w2 n2) hn2
                              clear hOK hN hL9
                              refine lv_istore (lv' := [(15, .int (zI t9)), (14, .int (zI (zCC (zSqP w) n n))), (13, .int (zI (zUn w n))), (12, .int (zI f3)), (11, .int (zI f2)), (10, .int (zI f1)), (9, .int (zI f0)), (8, .int (zI a8)), (7, .int (zI le9)), (6, .int (zI n)), (5, .int (zI hc)), (4, .int (zI y9)), (0, .ref b), (1, .ref (ad 16)), (2, .int (zI 1)), (3, .int (zI i))]) hx hb dL_law_216 hl (by decide) rfl (fun ls hl => ?_)
                              have jn290 : ∀ (_ : Unit), ∀ (ls : Array Slot), lv_has ls 16 [(15, .int (zI t9)), (14, .int (zI (zCC (zSqP w) n n))), (13, .int (zI (zUn w n))), (12, .int (zI f3)), (11, .int (zI f2)), (10, .int (zI f1)), (9, .int (zI f0)), (8, .int (zI a8)), (7, .int (zI le9)), (6, .int (zI n)), (5, .int (zI hc)), (4, .int (zI y9)), (0, .ref b), (1, .ref (ad 16)), (2, .int (zI 1)), (3, .int (zI i))] → W p l e room_1 s m #[Value.ref b] below meth c H1 locs 22 416 (lw_Z below #[Value.ref b] s) (F0 m 290 ls [.int (zI 1)]) := by
                                intro _  ls hl
                                refine lv_istore_n (lv' := [(2, .int (zI 1)), (15, .int (zI t9)), (14, .int (zI (zCC (zSqP w) n n))), (13, .int (zI (zUn w n))), (12, .int (zI f3)), (11, .int (zI f2)), (10, .int (zI f1)), (9, .int (zI f0)), (8, .int (zI a8)), (7, .int (zI le9)), (6, .int (zI n)), (5, .int (zI hc)), (4, .int (zI y9)), (0, .ref b), (1, .ref (ad 16)), (3, .int (zI i))]) hx hb dL_law_290 rfl hl (by decide) rfl (fun ls hl => ?_)
                                refine lv_iload_n hx hb dL_law_291 rfl (lv_at hl 0 rfl) ?_
                                refine zv_if_eq (tgt := 383) hx hb dL_law_292 (by decide) (by omega) (fun c292 => ?_) (fun c292 => ?_)
                                · exfalso; omega
                                · have jn379 : ∀ (_ : Unit), ∀ (ls : Array Slot), lv_has ls 16 [(2, .int (zI 1)), (15, .int (zI t9)), (14, .int (zI (zCC (zSqP w) n n))), (13, .int (zI (zUn w n))), (12, .int (zI f3)), (11, .int (zI f2)), (10, .int (zI f1)), (9, .int (zI f0)), (8, .int (zI a8)), (7, .int (zI le9)), (6, .int (zI n)), (5, .int (zI hc)), (4, .int (zI y9)), (0, .ref b), (1, .ref (ad 16)), (3, .int (zI i))] → W p l e room_1 s m #[Value.ref b] below meth c H1 locs 22 416 (lw_Z below #[Value.ref b] s) (F0 m 379 ls []) := by
                                    intro _  ls hl
                                    refine zv_iconst hx hb dL_law_379 ?_
                                    refine lv_goto (tgt := 384) hx hb dL_law_380 (by decide) ?_
                                    refine lv_istore_n (lv' := [(2, .int (zI 1)), (15, .int (zI t9)), (14, .int (zI (zCC (zSqP w) n n))), (13, .int (zI (zUn w n))), (12, .int (zI f3)), (11, .int (zI f2)), (10, .int (zI f1)), (9, .int (zI f0)), (8, .int (zI a8)), (7, .int (zI le9)), (6, .int (zI n)), (5, .int (zI hc)), (4, .int (zI y9)), (0, .ref b), (1, .ref (ad 16)), (3, .int (zI i))]) hx hb dL_law_384 rfl hl (by decide) rfl (fun ls hl => ?_)
                                    refine lv_iload_n hx hb dL_law_385 rfl (lv_at hl 0 rfl) ?_
                                    refine zv_if_eq (tgt := 416) hx hb dL_law_386 (by decide) (by omega) (fun c386 => ?_) (fun c386 => ?_)
                                    · exfalso; omega
                                    · refine lv_iload_n hx hb dL_law_389 rfl (lv_at hl 15 rfl) ?_
                                      refine zv_bipush hx hb dL_law_390 (by decide +kernel) ?_
                                      refine zv_irem hx hb dL_law_392 (by omega) (by omega) ?_
                                      have jn403 : ∀ (_ : Unit), ∀ (ls : Array Slot), lv_has ls 16 [(2, .int (zI 1)), (15, .int (zI t9)), (14, .int (zI (zCC (zSqP w) n n))), (13, .int (zI (zUn w n))), (12, .int (zI f3)), (11, .int (zI f2)), (10, .int (zI f1)), (9, .int (zI f0)), (8, .int (zI a8)), (7, .int (zI le9)), (6, .int (zI n)), (5, .int (zI hc)), (4, .int (zI y9)), (0, .ref b), (1, .ref (ad 16)), (3, .int (zI i))] → W p l e room_1 s m #[Value.ref b] below meth c H1 locs 22 416 (lw_Z below #[Value.ref b] s) (F0 m 403 ls []) := by
                                        intro _  ls hl
                                        refine lv_aload_n hx hb dL_law_403 rfl (lv_at hl 14 rfl) ?_
                                        refine lv_iload hx hb dL_law_404 (lv_at hl 12 rfl) ?_
                                        refine zc_S (As := [.ref (ad 16), .int (zI y9)]) (rest := []) S hK (kL_factors l g ad w2 n2 ee2 en2 hc2 u2 un2 hs2 tc2 tn2 y9 (by omega)) (va_cwS 2 hts gL_law_L_factors rfl rfl rfl (by decide +kernel) ⟨Nat.le_of_ble_eq_true rfl, Nat.le_of_ble_eq_true rfl⟩) (hA) rfl hl.1 rfl (Nat.le_of_ble_eq_true rfl) dL_law_406 ⟨Nat.le_of_ble_eq_true rfl, Nat.le_of_ble_eq_true rfl⟩ (fun r hr9 => ?_)
                                        obtain rfl := hr9
                                        refine zv_if_eq (tgt := 416) hx hb dL_law_409 (by decide) (by omega) (fun c409 => ?_) (fun c409 => ?_)
                                        · exfalso; omega
                                        · refine zv_iconst hx hb dL_law_412 ?_
                                          refine lv_goto (tgt := 417) hx hb dL_law_413 (by decide) ?_
                                          refine lv_istore_n (lv' := [(2, .int (zI 1)), (15, .int (zI t9)), (14, .int (zI (zCC (zSqP w) n n))), (13, .int (zI (zUn w n))), (12, .int (zI f3)), (11, .int (zI f2)), (10, .int (zI f1)), (9, .int (zI f0)), (8, .int (zI a8)), (7, .int (zI le9)), (6, .int (zI n)), (5, .int (zI hc)), (4, .int (zI y9)), (0, .ref b), (1, .ref (ad 16)), (3, .int (zI i))]) hx hb dL_law_417 rfl hl (by decide) rfl (fun ls hl => ?_)
                                          refine zv_iinc (lv' := [(3, .int (zI (i + 1))), (2, .int (zI 1)), (15, .int (zI t9)), (14, .int (zI (zCC (zSqP w) n n))), (13, .int (zI (zUn w n))), (12, .int (zI f3)), (11, .int (zI f2)), (10, .int (zI f1)), (9, .int (zI f0)), (8, .int (zI a8)), (7, .int (zI le9)), (6, .int (zI n)), (5, .int (zI hc)), (4, .int (zI y9)), (0, .ref b), (1, .ref (ad 16))]) hx hb dL_law_418 hl (k := 15) rfl (by decide) rfl (fun ls hl => ?_)
                                          refine lv_goto (tgt := 87) hx hb dL_law_421 (by decide) ?_
                                          exact ih87 (i + 1) (w2, n2, ee2, en2, hc2, u2, un2, hs2, tc2, tn2) _ _ (by omega) (hA) (hS) (by omega) _ (lv_sub hl [14, 15, 1, 0] rfl)
                                      refine zv_if_gt (tgt := 403) hx hb dL_law_393 (by decide) (by omega) (fun c393 => ?_) (fun c393 => ?_)
                                      · exact jn403 ()  _ (lv_sub hl [0, 1, 2, 3, 4, 5, 6, 7, 8, 9, 10, 11, 12, 13, 14, 15] rfl)
                                      · refine lv_aload_n hx hb dL_law_396 rfl (lv_at hl 14 rfl) ?_
                                        refine zc_S (As := [.ref (ad 16)]) (rest := []) S hK (kL_hangs l g ad w2 n2 ee2 en2 hc2 u2 un2 hs2 tc2 tn2 ) (va_cwS 1 hts gL_law_L_hangs rfl rfl rfl (by decide +kernel) ⟨Nat.le_of_ble_eq_true rfl, Nat.le_of_ble_eq_true rfl⟩) (hA) rfl hl.1 rfl (Nat.le_of_ble_eq_true rfl) dL_law_397 ⟨Nat.le_of_ble_eq_true rfl, Nat.le_of_ble_eq_true rfl⟩ (fun r hr9 => ?_)
                                        obtain rfl := hr9
                                        refine zv_if_eq (tgt := 416) hx hb dL_law_400 (by decide) (by omega) (fun c400 => ?_) (fun c400 => ?_)
                                        · exfalso; omega
                                        · exact jn403 ()  _ (lv_sub hl [0, 1, 2, 3, 4, 5, 6, 7, 8, 9, 10, 11, 12, 13, 14, 15] rfl)
                                  refine lv_iload hx hb dL_law_295 (lv_at hl 8 rfl) ?_
                                  refine zv_if_eq (tgt := 379) hx hb dL_law_297 (by decide) (by omega) (fun c297 => ?_) (fun c297 => ?_)
                                  · exact jn379 ()  _ (lv_sub hl [0, 1, 2, 3, 4, 5, 6, 7, 8, 9, 10, 11, 12, 13, 14, 15] rfl)
                                  · refine lv_iload hx hb dL_law_300 (lv_at hl 10 rfl) ?_
                                    refine zv_bipush hx hb dL_law_302 (by decide +kernel) ?_
                                    refine zv_icmp_ne (tgt := 324) hx hb dL_law_304 (by decide) (by omega) (by omega) (fun c304 => ?_) (fun c304 => ?_)
                                    · refine lv_iload hx hb dL_law_324 (lv_at hl 1 rfl) ?_
                                      refine lv_iload hx hb dL_law_326 (lv_at hl 7 rfl) ?_
                                      refine zv_icmp_ne (tgt := 383) hx hb dL_law_328 (by decide) (by omega) (by omega) (fun c328 => ?_) (fun c328 => ?_)
                                      · exfalso; omega
                                      · refine lv_aload_n hx hb dL_law_331 rfl (lv_at hl 14 rfl) ?_
                                        refine zv_iconst hx hb dL_law_332 ?_
                                        refine zc_V (As := [.int (zI 2)]) (rest := []) S hK (kX9_count l g ad w2 n2 ee2 en2 hc2 u2 un2 hs2 tc2 tn2 2 (by omega)) (cwV 1 hts gL_law_X9_count rfl rfl rfl (by decide +kernel) ⟨Nat.le_of_ble_eq_true rfl, Nat.le_of_ble_eq_true rfl⟩) (hA) (hA.recv hK) rfl hl.1 rfl (Nat.le_of_ble_eq_true rfl) dL_law_333 ⟨Nat.le_of_ble_eq_true rfl, Nat.le_of_ble_eq_true rfl⟩ (fun r hr9 => ?_)
                                        obtain rfl := hr9
                                        rw [zCnt_2]
                                        refine lv_iload hx hb dL_law_336 (lv_at hl 3 rfl) ?_
                                        refine lv_iload hx hb dL_law_338 (lv_at hl 6 rfl) ?_
                                        refine zv_iadd hx hb dL_law_340 ?_
                                        refine zv_icmp_ne (tgt := 383) hx hb dL_law_341 (by decide) (by omega) (by omega) (fun c341 => ?_) (fun c341 => ?_)
                                        · exfalso; omega
                                        · refine lv_aload_n hx hb dL_law_344 rfl (lv_at hl 14 rfl) ?_
                                          refine zv_iconst hx hb dL_law_345 ?_
                                          refine zc_V (As := [.int (zI 4)]) (rest := []) S hK (kX9_count l g ad w2 n2 ee2 en2 hc2 u2 un2 hs2 tc2 tn2 4 (by omega)) (cwV 1 hts gL_law_X9_count rfl rfl rfl (by decide +kernel) ⟨Nat.le_of_ble_eq_true rfl, Nat.le_of_ble_eq_true rfl⟩) (hA) (hA.recv hK) rfl hl.1 rfl (Nat.le_of_ble_eq_true rfl) dL_law_346 ⟨Nat.le_of_ble_eq_true rfl, Nat.le_of_ble_eq_true rfl⟩ (fun r hr9 => ?_)
                                          obtain rfl := hr9
                                          rw [zCnt_4]
                                          refine lv_iload hx hb dL_law_349 (lv_at hl 2 rfl) ?_
                                          refine lv_iload hx hb dL_law_351 (lv_at hl 5 rfl) ?_
                                          refine zv_iadd hx hb dL_law_353 ?_
                                          refine zv_icmp_ne (tgt := 383) hx hb dL_law_354 (by decide) (by omega) (by omega) (fun c354 => ?_) (fun c354 => ?_)
                                          · exfalso; omega
                                          · refine lv_aload_n hx hb dL_law_357 rfl (lv_at hl 14 rfl) ?_
                                            refine lv_iload hx hb dL_law_358 (lv_at hl 10 rfl) ?_
                                            refine zv_iconst hx hb dL_law_360 ?_
                                            refine zc_V (As := [.int (zI n), .int (zI 3)]) (rest := []) S hK (kX9_at l g ad w2 n2 ee2 en2 hc2 u2 un2 hs2 tc2 tn2 n 3 (by omega) (by omega)) (cwV 2 hts gL_law_X9_at rfl rfl rfl (by decide +kernel) ⟨Nat.le_of_ble_eq_true rfl, Nat.le_of_ble_eq_true rfl⟩) (hA) (hA.recv hK) rfl hl.1 rfl (Nat.le_of_ble_eq_true rfl) dL_law_361 ⟨Nat.le_of_ble_eq_true rfl, Nat.le_of_ble_eq_true rfl⟩ (fun r hr9 => ?_)
                                            obtain rfl := hr9
                                            rw [zAt_3 (by omega)]
                                            refine lv_iload hx hb dL_law_364 (lv_at hl 5 rfl) ?_
                                            refine zv_icmp_ne (tgt := 383) hx hb dL_law_366 (by decide) (by omega) (by omega) (fun c366 => ?_) (fun c366 => ?_)
                                            · exfalso; omega
                                            · refine lv_aload_n hx hb dL_law_369 rfl (lv_at hl 14 rfl) ?_
                                              refine zv_iconst hx hb dL_law_370 ?_
                                              refine zc_V (As := [.int (zI 5)]) (rest := []) S hK (kX9_count l g ad w2 n2 ee2 en2 hc2 u2 un2 hs2 tc2 tn2 5 (by omega)) (cwV 1 hts gL_law_X9_count rfl rfl rfl (by decide +kernel) ⟨Nat.le_of_ble_eq_true rfl, Nat.le_of_ble_eq_true rfl⟩) (hA) (hA.recv hK) rfl hl.1 rfl (Nat.le_of_ble_eq_true rfl) dL_law_371 ⟨Nat.le_of_ble_eq_true rfl, Nat.le_of_ble_eq_true rfl⟩ (fun r hr9 => ?_)
                                              obtain rfl := hr9
                                              rw [zCnt_5]
                                              refine lv_iload hx hb dL_law_374 (lv_at hl 4 rfl) ?_
                                              refine zv_icmp_ne (tgt := 383) hx hb dL_law_376 (by decide) (by omega) (by omega) (fun c376 => ?_) (fun c376 => ?_)
                                              · exfalso; omega
                                              · exact jn379 ()  _ (lv_sub hl [0, 1, 2, 3, 4, 5, 6, 7, 8, 9, 10, 11, 12, 13, 14, 15] rfl)
                                    · refine lv_iload hx hb dL_law_307 (lv_at hl 1 rfl) ?_
                                      refine zv_bipush hx hb dL_law_309 (by decide +kernel) ?_
                                      refine zv_icmp_ne (tgt := 383) hx hb dL_law_311 (by decide) (by omega) (by omega) (fun c311 => ?_) (fun c311 => ?_)
                                      · exfalso; omega
                                      · refine lv_iload hx hb dL_law_314 (lv_at hl 7 rfl) ?_
                                        refine zv_bipush hx hb dL_law_316 (by decide +kernel) ?_
                                        refine zv_icmp_ne (tgt := 383) hx hb dL_law_318 (by decide) (by omega) (by omega) (fun c318 => ?_) (fun c318 => ?_)
                                        · exfalso; omega
                                        · refine lv_goto (tgt := 379) hx hb dL_law_321 (by decide) ?_
                                          exact jn379 ()  _ (lv_sub hl [0, 1, 2, 3, 4, 5, 6, 7, 8, 9, 10, 11, 12, 13, 14, 15] rfl)
                              refine lv_iload hx hb dL_law_218 (lv_at hl 0 rfl) ?_
                              refine zv_if_lt (tgt := 254) hx hb dL_law_220 (by decide) (by omega) (fun c220 => ?_) (fun c220 => ?_)
                              · refine lv_aload_n hx hb dL_law_254 rfl (lv_at hl 13 rfl) ?_
                                refine zv_bipush hx hb dL_law_255 (by decide +kernel) ?_
                                refine zc_V (As := [.int (zI 10)]) (rest := []) S hK (kX9_count l g ad w2 n2 ee2 en2 hc2 u2 un2 hs2 tc2 tn2 10 (by omega)) (cwV 1 hts gL_law_X9_count rfl rfl rfl (by decide +kernel) ⟨Nat.le_of_ble_eq_true rfl, Nat.le_of_ble_eq_true rfl⟩) (hA) (hA.recv hK) rfl hl.1 rfl (Nat.le_of_ble_eq_true rfl) dL_law_257 ⟨Nat.le_of_ble_eq_true rfl, Nat.le_of_ble_eq_true rfl⟩ (fun r hr9 => ?_)
                                obtain rfl := hr9
                                rw [zCnt_10]
                                refine lv_iload hx hb dL_law_260 (lv_at hl 10 rfl) ?_
                                refine zv_icmp_ne (tgt := 289) hx hb dL_law_262 (by decide) (by omega) (by omega) (fun c262 => ?_) (fun c262 => ?_)
                                · exfalso; omega
                                · refine lv_aload_n hx hb dL_law_265 rfl (lv_at hl 13 rfl) ?_
                                  refine zv_iconst hx hb dL_law_266 ?_
                                  refine zc_V (As := [.int (zI 0)]) (rest := []) S hK (kX9_count l g ad w2 n2 ee2 en2 hc2 u2 un2 hs2 tc2 tn2 0 (by omega)) (cwV 1 hts gL_law_X9_count rfl rfl rfl (by decide +kernel) ⟨Nat.le_of_ble_eq_true rfl, Nat.le_of_ble_eq_true rfl⟩) (hA) (hA.recv hK) rfl hl.1 rfl (Nat.le_of_ble_eq_true rfl) dL_law_267 ⟨Nat.le_of_ble_eq_true rfl, Nat.le_of_ble_eq_true rfl⟩ (fun r hr9 => ?_)
                                  obtain rfl := hr9
                                  rw [zCnt_0]
                                  refine lv_iload hx hb dL_law_270 (lv_at hl 9 rfl) ?_
                                  refine zv_icmp_ne (tgt := 289) hx hb dL_law_272 (by decide) (by omega) (by omega) (fun c272 => ?_) (fun c272 => ?_)
                                  · exfalso; omega
                                  · refine lv_aload_n hx hb dL_law_275 rfl (lv_at hl 13 rfl) ?_
                                    refine zv_iconst hx hb dL_law_276 ?_
                                    refine zc_V (As := [.int (zI 2)]) (rest := []) S hK (kX9_count l g ad w2 n2 ee2 en2 hc2 u2 un2 hs2 tc2 tn2 2 (by omega)) (cwV 1 hts gL_law_X9_count rfl rfl rfl (by decide +kernel) ⟨Nat.le_of_ble_eq_true rfl, Nat.le_of_ble_eq_true rfl⟩) (hA) (hA.recv hK) rfl hl.1 rfl (Nat.le_of_ble_eq_true rfl) dL_law_277 ⟨Nat.le_of_ble_eq_true rfl, Nat.le_of_ble_eq_true rfl⟩ (fun r hr9 => ?_)
                                    obtain rfl := hr9
                                    rw [zCnt_2]
                                    refine lv_iload hx hb dL_law_280 (lv_at hl 2 rfl) ?_
                                    refine zv_icmp_ne (tgt := 289) hx hb dL_law_282 (by decide) (by omega) (by omega) (fun c282 => ?_) (fun c282 => ?_)
                                    · exfalso; omega
                                    · refine zv_iconst hx hb dL_law_285 ?_
                                      refine lv_goto (tgt := 290) hx hb dL_law_286 (by decide) ?_
                                      exact jn290 ()  _ (lv_sub hl [0, 1, 2, 3, 4, 5, 6, 7, 8, 9, 10, 11, 12, 13, 14, 15] rfl)
                              · refine lv_aload_n hx hb dL_law_223 rfl (lv_at hl 13 rfl) ?_
                                refine zv_bipush hx hb dL_law_224 (by decide +kernel) ?_
                                refine zc_V (As := [.int (zI 10)]) (rest := []) S hK (kX9_count l g ad w2 n2 ee2 en2 hc2 u2 un2 hs2 tc2 tn2 10 (by omega)) (cwV 1 hts gL_law_X9_count rfl rfl rfl (by decide +kernel) ⟨Nat.le_of_ble_eq_true rfl, Nat.le_of_ble_eq_true rfl⟩) (hA) (hA.recv hK) rfl hl.1 rfl (Nat.le_of_ble_eq_true rfl) dL_law_226 ⟨Nat.le_of_ble_eq_true rfl, Nat.le_of_ble_eq_true rfl⟩ (fun r hr9 => ?_)
                                obtain rfl := hr9
                                rw [zCnt_10]
                                refine lv_iload hx hb dL_law_229 (lv_at hl 10 rfl) ?_
                                refine zv_iconst hx hb dL_law_231 ?_
                                refine zv_icmp_ne (tgt := 239) hx hb dL_law_232 (by decide) (by omega) (by omega) (fun c232 => ?_) (fun c232 => ?_)
                                · refine lv_iload hx hb dL_law_239 (lv_at hl 10 rfl) ?_
                                  refine zv_iconst hx hb dL_law_241 ?_
                                  refine zv_iadd hx hb dL_law_242 ?_
                                  refine zv_icmp_ne (tgt := 250) hx hb dL_law_243 (by decide) (by omega) (by omega) (fun c243 => ?_) (fun c243 => ?_)
                                  · exfalso; omega
                                  · refine zv_iconst hx hb dL_law_246 ?_
                                    refine lv_goto (tgt := 290) hx hb dL_law_247 (by decide) ?_
                                    exact jn290 ()  _ (lv_sub hl [0, 1, 2, 3, 4, 5, 6, 7, 8, 9, 10, 11, 12, 13, 14, 15] rfl)
                                · refine zv_iconst hx hb dL_law_235 ?_
                                  refine lv_goto (tgt := 243) hx hb dL_law_236 (by decide) ?_
                                  refine zv_icmp_ne (tgt := 250) hx hb dL_law_243 (by decide) (by omega) (by omega) (fun c243 => ?_) (fun c243 => ?_)
                                  · exfalso; omega
                                  · refine zv_iconst hx hb dL_law_246 ?_
                                    refine lv_goto (tgt := 290) hx hb dL_law_247 (by decide) ?_
                                    exact jn290 ()  _ (lv_sub hl [0, 1, 2, 3, 4, 5, 6, 7, 8, 9, 10, 11, 12, 13, 14, 15] rfl)
                            refine zv_icmp_le (tgt := 157) hx hb dL_law_150 (by decide) (by omega) (by omega) (fun c150 => ?_) (fun c150 => ?_)
                            · refine zv_iconst hx hb dL_law_157 ?_
                              exact jn158 0 (Or.inr ⟨rfl, by omega⟩) _ (lv_sub hl [0, 1, 2, 3, 4, 5, 6, 7] rfl)
                            · refine zv_iconst hx hb dL_law_153 ?_
                              refine lv_goto (tgt := 158) hx hb dL_law_154 (by decide) ?_
                              exact jn158 1 (Or.inl ⟨rfl, by omega⟩) _ (lv_sub hl [0, 1, 2, 3, 4, 5, 6, 7] rfl)
                          refine zv_if_ne (tgt := 134) hx hb dL_law_127 (by decide) (by omega) (fun c127 => ?_) (fun c127 => ?_)
                          · refine lv_iload hx hb dL_law_134 (lv_at hl 2 rfl) ?_
                            refine zv_bipush hx hb dL_law_136 (by decide +kernel) ?_
                            refine zv_idiv hx hb dL_law_138 (by omega) (by omega) ?_
                            refine zv_iconst hx hb dL_law_139 ?_
                            refine zv_irem hx hb dL_law_140 (by omega) (by omega) ?_
                            exact jn141 ((y9 / 16) % 2) (by unfold zLe; exact (zIf_f c127).symm) _ (lv_sub hl [0, 1, 2, 3, 4, 5, 6] rfl)
                          · refine zv_iconst hx hb dL_law_130 ?_
                            refine lv_goto (tgt := 141) hx hb dL_law_131 (by decide) ?_
                            exact jn141 2 (by unfold zLe; exact (zIf_t c127).symm) _ (lv_sub hl [0, 1, 2, 3, 4, 5, 6] rfl)
                  exact lp87 _ 0 (w, n, ee, en, hc, u, un, hs, tc, tn) _ _ (by omega) (hA) (hS) (Nat.lt_succ_self _) _ (lv_sub hl [3, 2, 1, 0] rfl)

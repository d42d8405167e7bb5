-- a start that knows the script; static calls
def zPx (g : zG) (As : List Value) (b L : Nat) (xs : Nat → Int32) : Array Value → State → Prop := fun v U => v = As.toArray ∧ zK g U ∧ va_X b L xs U U.heap
theorem zPx_blind {g : zG} {As : List Value} {b L : Nat} {xs : Nat → Int32} : FrameBlind (zPx g As b L xs) := fun a U g' mk q => ⟨q.1, va_K.moved (u := U) (U := U.calling g' mk a) (Vm.Alike.refl U.vm) q.2.1, va_X.moved (u := U) (U := U.calling g' mk a) (Vm.Alike.refl U.vm) q.2.2⟩
theorem Met.ofZx {l : Launch} {y : MethodName} {ws ws' : List Cond} {rm : Room} {g : zG} {As : List Value} {b L : Nat} {xs : Nat → Int32} {Qc : Array Value → State → Outcome → State → Prop} {mc ms : Nat} {free : Addr → Prop} {cc : ByteArray} {maxL : Nat} {ret : Option FieldType}
    (hy : plainName y.cls = true) (hw : ws = Cond.code y cc maxL ret :: ws') (hlen : (lg_sl As).length ≤ maxL)
    (body : ∀ (p : Program) (e : Env) (s : State) (m : MethodId) (args : Array Value) (below : List Frame) (meth : Method) (c : Code) (ls : Array Slot), p.tables.exec = Jvm.exec → c.code = cc → meth.sig.returnType = ret → meth.locks = false → CallFix p m c cc maxL s args ws y.cls → meth.name = y.name → zK g s → va_X b L xs s s.heap → lv_has ls maxL (lv_args 0 As) →
      W p l e rm s m args below meth c s.heap [] 0 0 (MQ below Qc args s mc ms free) (F0 m 0 ls [])) : Met l y ws rm (zPx g As b L xs) Qc mc ms free := by
  refine Met.ofW (cc := cc) (maxL := maxL) (ret := ret) hy hw ?_
  intro p e s m args below meth c s₁ B hml hv
  obtain ⟨rfl, hK, hX⟩ := hv
  have hts := atoms_spec (ws := ws) B.pre
  have hl := lv_entry As (n := maxL) hlen
  rw [lg_entry_eq]
  exact body p e s m _ below meth c _ B.exec B.bytes B.returns B.notSynchronized ⟨B.exec, B.bytes, hml, findClass_of_methodNamed B.named, hts⟩ (name_of_methodNamed B.named B.method).1 hK hX hl
section ZCP
variable {p : Program} {l : Launch} {e : Env} {R : Room} {s : State} {m : MethodId} {args : Array Value} {below : List Frame} {meth : Method} {c : Code} {H H0 : Heap} {locs : List Loc} {cells slots : Nat} {Q : State → Prop}
variable {cc bytes : ByteArray} {pc nL maxL index n : Nat} {ls : Array Slot} {rest st As : List Value} {g : zG} {Pic : Heap → Prop} {Ts ws : List Cond} {own : String} {y : MethodName} {ret : Option FieldType} {rm : Room} {b L : Nat} {xs : Nat → Int32}
variable {A0 A1 : Nat → Prop} {Pc : Array Value → State → Prop}
theorem zc_preX (hK : zK g s) (hX : va_X b L xs s H) : PreS s H (zPx g As b L xs) As := ⟨zPx_blind, fun U hU hW => ⟨rfl, va_K.moved hW.alike hK, by rw [hU]; exact hX.moved hW.alike⟩⟩
theorem zc_Sp (S : CallFix p m c cc nL s args Ts own) {post : Int32 → Prop} (hM : Met l y ws rm Pc (vp_Si post) 0 0 (fun _ => False)) (cw : CallB R s args own index y bytes maxL ret ws rm 0 0 n ∧ (Cond.static y).before args s = true) (hp : PreS s H Pc As)
    (hn : As.length = n) (hsize : ls.size = nL) (hstack : st = As.reverse ++ rest) (hW : (rest.map fun v => v.category).sum ≤ 8) (hdg : decode cc pc = .ok (.invokestatic index, 3)) (hf : cells ≤ R.cells ∧ slots ≤ R.slots)
    (kk : ∀ r : Int32, post r → W p l e R s m args below meth c H locs cells slots Q (F0 m (pc + 3) ls (.int r :: rest))) : W p l e R s m args below meth c H locs cells slots Q (F0 m pc ls st) :=
  vp_callSi (W.runS S hM cw hp rfl hn hsize hstack (lv_room hW) hdg hf) kk
theorem zc_SWi (S : CallFix p m c cc nL s args Ts own) (hK : zK g s) {post : Int32 → Heap → Prop} (hM : Met l y ws rm (zP g As Pic) (zQi post A1) 0 0 A1) (cw : CallB R s args own index y bytes maxL ret ws rm 0 0 n ∧ (Cond.static y).before args s = true) (hpic : Pic H)
    (hn : As.length = n) (hsize : ls.size = nL) (hstack : st = As.reverse ++ rest) (hW : (rest.map fun v => v.category).sum ≤ 8) (hdg : decode cc pc = .ok (.invokestatic index, 3)) (hf : cells ≤ R.cells ∧ slots ≤ R.slots) (hS : va_S A0 H0 H locs) (hA : ∀ q, A1 q → A0 q)
    (kk : ∀ (r : Int32) (H1 : Heap) (locs1 : List Loc), post r H1 → H.size ≤ H1.size → (∀ q : Nat, q < H.size → ¬ A1 q → H1[q]? = H[q]?) → va_S A0 H0 H1 locs1 → W p l e R s m args below meth c H1 locs1 cells slots Q (F0 m (pc + 3) ls (.int r :: rest))) : W p l e R s m args below meth c H locs cells slots Q (F0 m pc ls st) :=
  zc_wi (va_runS S hM cw (zc_pre hK hpic) rfl hn hsize hstack (lv_room hW) hdg hf) hS hA kk
end ZCP
-- what an act does, as far as the law asks
noncomputable def zLe (y : Int) : Int := zIf (y / 16 % 16 = 0) 2 (y / 16 % 2)
def zOK (σ : zSg) (y t : Int) (σ2 : zSg) : Prop := (-100 ≤ t ∧ t ≤ 40) ∧ (0 ≤ t → σ2.2.2.2.2.1 = min (σ.2.2.2.2.1 + 1) 4) ∧ (t < 0 → σ2 = σ) ∧ (6 < y % 16 → (σ.2.1 = 40 → t = -3) ∧ (σ.2.1 < 40 → t = zEG (zApp σ.1 σ.2.1 (zLe y)) 0 (σ.2.1 + 1) (σ.2.1 + 1) ∧ σ2.1 = zApp σ.1 σ.2.1 (zLe y) ∧ σ2.2.1 = σ.2.1 + 1))
theorem zLe_bd (y : Int) : 0 ≤ zLe y ∧ zLe y ≤ 2 := by
  unfold zLe
  rcases Classical.em (y / 16 % 16 = 0) with q | q
  · rw [zIf_t q]; omega
  · rw [zIf_f q]; omega
section ZOK
variable {w : Int → Int} {n : Int} {ee : Nat → Int → Int} {en : Nat → Int} {hc : Int} {u : Int → Int} {un hs : Int} {tc : Int → Int} {tn : Int} {y : Int}
theorem zOK_rec {t n2 : Int} {w2 : Int → Int} (h : 0 ≤ t ∧ t ≤ 40) (hy : y % 16 ≤ 6) : zOK (w, n, ee, en, hc, u, un, hs, tc, tn) y t (zRec w n ee en hc u un hs tc tn w2 n2) := ⟨by omega, fun _ => rfl, fun q => absurd q (by omega), fun q => absurd q (by omega)⟩
theorem zOK_self {t : Int} (h : -100 ≤ t ∧ t < 0) (hy : y % 16 ≤ 6) : zOK (w, n, ee, en, hc, u, un, hs, tc, tn) y t (zSelf w n ee en hc u un hs tc tn) := ⟨by omega, fun q => absurd q (by omega), fun _ => rfl, fun q => absurd q (by omega)⟩
theorem zOK_drop {x : Int} (hn : 0 ≤ n ∧ n ≤ 40) (hy : y % 16 ≤ 6) : zOK (w, n, ee, en, hc, u, un, hs, tc, tn) y (sDrop w n ee en hc u un hs tc tn x).1 (sDrop w n ee en hc u un hs tc tn x).2 := by
  unfold sDrop
  rcases Classical.em (1 ≤ x ∧ x ≤ 40) with c | c
  · rw [zIf_t c]
    rcases Classical.em (n < x) with d | d
    · rw [zIf_t d]; exact zOK_self (by omega) hy
    · rw [zIf_f d]; exact zOK_rec (by omega) hy
  · rw [zIf_f c]; exact zOK_self (by omega) hy
theorem zOK_change {i x : Int} (hw : ∀ k, 0 ≤ k → k < n → 0 ≤ w k ∧ w k ≤ 25) (hy : y % 16 ≤ 6) : zOK (w, n, ee, en, hc, u, un, hs, tc, tn) y (sChange w n ee en hc u un hs tc tn i x).1 (sChange w n ee en hc u un hs tc tn i x).2 := by
  unfold sChange
  rcases Classical.em (0 ≤ i ∧ i < n) with c | c
  · rw [zIf_t c]
    have := hw i c.1 c.2
    rcases Classical.em (0 ≤ x ∧ x ≤ 25) with d | d
    · rw [zIf_t d]
      rcases Classical.em (w i = x) with v | v
      · rw [zIf_t v]; exact zOK_self (by omega) hy
      · rw [zIf_f v]; exact zOK_rec (by omega) hy
    · rw [zIf_f d]; exact zOK_self (by omega) hy
  · rw [zIf_f c]; exact zOK_self (by omega) hy
theorem zOK_reverse (hn : 0 ≤ n ∧ n ≤ 40) (hy : y % 16 ≤ 6) : zOK (w, n, ee, en, hc, u, un, hs, tc, tn) y (sReverse w n ee en hc u un hs tc tn).1 (sReverse w n ee en hc u un hs tc tn).2 := by
  unfold sReverse
  rcases Classical.em (zEqW (zRev w n) n w n) with c | c
  · rw [zIf_t c]; exact zOK_self (by omega) hy
  · rw [zIf_f c]; exact zOK_rec (by omega) hy
theorem zOK_turn {x : Int} (hw : ∀ k, 0 ≤ k → k < n → 0 ≤ w k ∧ w k ≤ 25) (hy : y % 16 ≤ 6) : zOK (w, n, ee, en, hc, u, un, hs, tc, tn) y (sTurn w n ee en hc u un hs tc tn x).1 (sTurn w n ee en hc u un hs tc tn x).2 := by
  unfold sTurn
  rcases Classical.em (1 ≤ x ∧ x ≤ 39) with c | c
  · rw [zIf_t c]
    rcases Classical.em (n ≤ x) with d | d
    · rw [zIf_t d]; exact zOK_self (by omega) hy
    · rw [zIf_f d]
      rcases Classical.em (zEqW (zTurn w n x) n w n) with v | v
      · rw [zIf_t v]; exact zOK_self (by omega) hy
      · rw [zIf_f v]
        have e : zTurn w n x 0 = w (0 + x) := if_pos (by omega)
        have := hw (0 + x) (by omega) (by omega)
        exact zOK_rec (by rw [e]; omega) hy
  · rw [zIf_f c]; exact zOK_self (by omega) hy
theorem zOK_fold {i j : Int} (hn : 0 ≤ n ∧ n ≤ 40) (hy : y % 16 ≤ 6) : zOK (w, n, ee, en, hc, u, un, hs, tc, tn) y (sFold w n ee en hc u un hs tc tn i j).1 (sFold w n ee en hc u un hs tc tn i j).2 := by
  unfold sFold
  rcases Classical.em (0 ≤ i ∧ i < j ∧ j ≤ n) with c | c
  · rw [zIf_t c]
    rcases Classical.em (40 < n + (j - i)) with d | d
    · rw [zIf_t d]; exact zOK_self (by omega) hy
    · rw [zIf_f d]; exact zOK_rec (by omega) hy
  · rw [zIf_f c]; exact zOK_self (by omega) hy
theorem zOK_add {x : Int} (hn : 0 ≤ n ∧ n ≤ 40) (hy : 6 < y % 16) (hx : x = zLe y) : zOK (w, n, ee, en, hc, u, un, hs, tc, tn) y (sAdd w n ee en hc u un hs tc tn x).1 (sAdd w n ee en hc u un hs tc tn x).2 := by
  subst hx
  have hb := zLe_bd y
  unfold sAdd
  rw [zIf_t (by omega)]
  rcases Classical.em (40 ≤ n) with d | d
  · rw [zIf_t d]
    exact ⟨by show (-100 : Int) ≤ -3 ∧ (-3 : Int) ≤ 40; omega, fun q => absurd q (by show ¬ (0 : Int) ≤ -3; omega), fun _ => rfl, fun _ => ⟨fun _ => rfl, fun q => absurd q (by show ¬ n < 40; omega)⟩⟩
  · rw [zIf_f d]
    have e := zEG_bd (zApp w n (zLe y)) 0 (n + 1) (n + 1)
    have e2 := e.2.1 (by omega)
    exact ⟨by show -100 ≤ zEG (zApp w n (zLe y)) 0 (n + 1) (n + 1) ∧ zEG (zApp w n (zLe y)) 0 (n + 1) (n + 1) ≤ 40; omega, fun _ => rfl, fun q => absurd q (by show ¬ zEG (zApp w n (zLe y)) 0 (n + 1) (n + 1) < 0; omega), fun _ => ⟨fun q => absurd q (by show ¬ n = 40; omega), fun _ => ⟨rfl, rfl, rfl⟩⟩⟩
end ZOK

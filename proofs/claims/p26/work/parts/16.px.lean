-- the picture of a BorderRuns with all that it reaches, at 22 addresses apart
section ZXP
variable {p : Program} {l : Launch} {e : Env} {R : Room} {s : State} {m : MethodId} {args : Array Value} {below : List Frame} {meth : Method} {c : Code} {H : Heap} {locs : List Loc} {cells slots : Nat} {Q : State → Prop}
variable {cc : ByteArray} {pc : Nat} {ls : Array Slot} {rest : List Value} {D : va_G} {cl : List vw_C} {A : Nat → Prop} {a : Nat} {tys : List (ClassId × FieldType)} {H0 : Heap}
/-- a field of one object is written: all other cells stay -/
theorem zx_put (hexec : p.tables.exec = Jvm.exec) (hb : c.code = cc) {own ref C : String} {T : u_T} {N ci index : Nat} {Ts : List Cond} (hts : ∀ w ∈ Ts, w.before args s = true) (hin : ∀ w ∈ u_ws C T N, w ∈ Ts) (ty0 : Nat → FieldType) (hty : ∀ k, k < N → parseFieldDescriptor (T k).2.2.1 = some (ty0 k)) (hnm : ∀ a, a < N → ∀ b, b < N → a ≠ b → (T a).2.1 ≠ (T b).2.1) (hown : s.vm.findClass own = some m.cls) (hK : va_K D cl tys s) {fs : List Value} (hP : va_P D cl [(a, .inr (ci, fs))] H) (hAa : A a) (hS0 : va_S A H0 H locs) (hc : cl[ci]? = some (C, T, N)) (k : Nat) (hk : k < N)
    (hlink : (Cond.fieldLink own index ref (T k).2.1 (T k).2.2.1).before args s = true) (hsame : ∀ x, s.fieldFound? (T k).1 (T k).2.1 (T k).2.2.1 = some x → s.fieldFound? ref (T k).2.1 (T k).2.2.1 = some x) (hfin : (T k).2.2.2 = false) {ty : FieldType} {v : Value} (hd : parseFieldDescriptor (T k).2.2.1 = some ty) (hn : narrow ty v = v) (hfit : fits ty v = true) (hl : k < fs.length) (hdg : decode cc pc = .ok (.putfield index, 3))
    (kk : ∀ (H1 : Heap) (locs1 : List Loc), va_P D cl [(a, .inr (ci, fs.set k v))] H1 → (∀ q : Nat, q < H.size → ¬ q = a → H1[q]? = H[q]?) → va_S A H0 H1 locs1 → W p l e R s m args below meth c H1 locs1 cells slots Q (F0 m (pc + 3) ls rest)) : W p l e R s m args below meth c H locs cells slots Q (F0 m pc ls (v :: .ref a :: rest)) := by
  have hap := va_apart (own := own) hts hin ty0 hty hnm hK hc
  obtain ⟨r, h1, cell, q1, q2, q3, q4⟩ := hP 0 _ rfl
  cases Option.some.inj (h1.symm.trans hc)
  obtain ⟨hS, hfc, kC, hkC, hkind⟩ := hK.1 ci _ hc
  obtain ⟨cf, kf, fi, f, hi, hsl⟩ := hS k hk
  have hlay := hts _ (hin _ (u_in_lay hk))
  unfold u_lay at hlay
  rw [if_neg (by rw [hfin]; decide)] at hlay
  have hst := (u_facts hfc hkC (u_lays hts hin hk) hi).1
  have h6 := u_store hfc hkC hkind hlay hi hd hn hfit
  refine W.putK hexec hb (f := f) ⟨hown, hlink, ⟨_, _, _, hsame _ hi⟩, hst⟩ (by rw [q2]; exact h6) q1 q3 (by rw [hsl]; exact k2_hasslot (q4 k hk)) rfl rfl hdg fun H' e1 e2 e3 => ?_
  rw [hsl] at e1 ⊢
  exact kk H' _ ((hP.set (va_D.one hAa) (p := 0) rfl ⟨_, hc, t_OB.to (V := updV (vp_V fs) k v) ⟨_, e1, q2, q3, t_set q4 hap hk v⟩ (fun j _ => vp_updV_set hl v j)⟩ e3)) (fun q _ h => e3 q h) (hS0.put e2 e3 hAa)
end ZXP
/-- an answer that is a known value -/
def zSr (v : Value) : Array Value → State → Outcome → State → Prop := fun _ st o t => o = .returned (some v) ∧ t.heap = st.heap
section ZCR
variable {p : Program} {l : Launch} {e : Env} {R : Room} {s : State} {m : MethodId} {args : Array Value} {below : List Frame} {meth : Method} {c : Code} {H : Heap} {locs : List Loc} {cells slots : Nat} {Q : State → Prop}
variable {cc bytes : ByteArray} {pc nL maxL index n : Nat} {ls : Array Slot} {rest st As : List Value} {g : zG} {Pic : Heap → Prop} {Ts ws : List Cond} {own C : String} {y : MethodName} {ret : Option FieldType} {rm : Room} {b : Nat}
theorem zc_VR (S : CallFix p m c cc nL s args Ts own) (hK : zK g s) {v : Value} (hM : Met l y ws rm (zP g (.ref b :: As) Pic) (zSr v) 0 0 (fun _ => False)) (cw : CallW R s args own C index y bytes maxL ret ws rm 0 0 n) (hpic : Pic H) (hrecv : ∃ cell : Cell, H[b]? = some cell ∧ cell.vm.isStatics = false ∧ s.vm.findClass C = some cell.cls)
    (hn : As.length = n) (hsize : ls.size = nL) (hstack : st = As.reverse ++ .ref b :: rest) (hW : (rest.map fun v => v.category).sum ≤ 8) (hdg : decode cc pc = .ok (.invokevirtual index, 3)) (hf : cells ≤ R.cells ∧ slots ≤ R.slots)
    (kk : W p l e R s m args below meth c H locs cells slots Q (F0 m (pc + 3) ls (v :: rest))) : W p l e R s m args below meth c H locs cells slots Q (F0 m pc ls st) := by
  intro T hT X
  obtain ⟨v', st₀, t, T', L, h0, X', hL, e1, ⟨hv, hh⟩, st'⟩ := W.runV S hM cw (zc_preV hK hpic hrecv) rfl hn hsize hstack (lv_room hW) hdg hf T hT X
  cases hv
  obtain ⟨t2, a1, b1⟩ := kk T' (by rw [e1, hh, h0]) (Stand.forget X' (fun q h => (hL q h).elim))
  exact ⟨t2, st' t2 a1, b1⟩
theorem zr_a (hexec : p.tables.exec = Jvm.exec) (hb : c.code = cc) {rt : FieldType} (hr : meth.sig.returnType = some rt) (hrt : (∃ n, rt = .object n) ∨ ∃ t, rt = .array t) (hlocks : meth.locks = false) {x : Nat} (hdg : decode cc pc = .ok (.areturn, 1)) : W p l e R s m args below meth c s.heap [] 0 0 (MQ below (zSr (.ref x)) args s 0 0 (fun _ => False)) (F0 m pc ls [.ref x]) :=
  W.aret hexec hb hr hrt (Or.inr ⟨x, rfl⟩) (fun t ht _ => ⟨rfl, ht⟩) (fun q h => by cases h) hdg hlocks
end ZCR
def PT (g : zG) (h a : Nat) (w : Int → Int) (n : Int) (H : Heap) : Prop :=
  (0 ≤ n ∧ n ≤ 60) ∧ (∀ k, 0 ≤ k → k < n → 0 ≤ w k ∧ w k < 65536) ∧ ∃ f : Nat → Int32, va_P g.1 vwCl [(h, .inr (2, [.ref a, .int (zI n)])), (a, .inl (g.2.2.1, 60, .inl f))] H ∧ (∀ k, 0 ≤ k → k < n → f k.toNat = zI (w k)) ∧ h ≠ a
theorem PT.frm {g : zG} {h a : Nat} {w : Int → Int} {n : Int} {H H1 : Heap} {A : Nat → Prop} (p : PT g h a w n H) (hk : ∀ q : Nat, q < H.size → ¬ A q → H1[q]? = H[q]?) (h1 : ¬ A h) (h2 : ¬ A a) : PT g h a w n H1 := by
  obtain ⟨hn, hw, f, hP, hf, hha⟩ := p
  exact ⟨hn, hw, f, hP.frm2 hk h1 h2, hf, hha⟩
theorem PT.recv {g : zG} {s : State} {h a : Nat} {w : Int → Int} {n : Int} {H : Heap} (hK : zK g s) (p : PT g h a w n H) : ∃ cell : Cell, H[h]? = some cell ∧ cell.vm.isStatics = false ∧ s.vm.findClass RX7 = some cell.cls := by
  obtain ⟨hn, hw, f, hP, hf, hha⟩ := p
  exact va_recv hK hP (ci := 2) (q0 := 0) rfl rfl
def zInj (ad : Nat → Nat) : Prop := ∀ i j, i < 22 → j < 22 → ad i = ad j → i = j
def zAx (ad : Nat → Nat) : Nat → Prop := fun q => ∃ i, i < 22 ∧ q = ad i
theorem zAx_i {ad : Nat → Nat} (i : Nat) (h : i < 22) : zAx ad (ad i) := ⟨i, h, rfl⟩
theorem zAx_2 {ad : Nat → Nat} {i j : Nat} (hi : i < 22) (hj : j < 22) : ∀ q, zA2 (ad i) (ad j) q → zAx ad q := fun q h => h.elim (fun e => ⟨i, hi, e⟩) (fun e => ⟨j, hj, e⟩)
theorem zInj.ne {ad : Nat → Nat} (h : zInj ad) {i j : Nat} (hi : i < 22) (hj : j < 22) (n : i ≠ j) : ad i ≠ ad j := fun q => n (h i j hi hj q)
theorem zInj.no {ad : Nat → Nat} (h : zInj ad) {i j k : Nat} (hi : i < 22) (hj : j < 22) (hk : k < 22) (n1 : k ≠ i) (n2 : k ≠ j) : ¬ zA2 (ad i) (ad j) (ad k) := zA2_no (h.ne hk hi n1) (h.ne hk hj n2)
def zUp {α : Type} (f : Nat → α) (k : Nat) (v : α) : Nat → α := fun j => if j = k then v else f j
theorem zUp_eq {α : Type} (f : Nat → α) (k : Nat) (v : α) : zUp f k v k = v := if_pos rfl
theorem zUp_ne {α : Type} {f : Nat → α} {k j : Nat} {v : α} (h : j ≠ k) : zUp f k v j = f j := if_neg h
def PX (g : zG) (ad : Nat → Nat) (w : Int → Int) (n : Int) (d : Int → Int) (dn : Int) (u : Int → Int) (un : Int) (hf : Nat → Int → Int) (hn : Nat → Int) (v : Int → Int) (vn hs nx hd tn pf ig bp : Int) (tc : Int → Int) (H : Heap) : Prop :=
  zInj ad ∧ PW g (ad 0) (ad 1) w n H ∧ PW g (ad 2) (ad 3) d dn H ∧ PW g (ad 4) (ad 5) u un H ∧ (∀ k, k < 4 → PW g (ad (6 + 2 * k)) (ad (7 + 2 * k)) (hf k) (hn k) H) ∧ PW g (ad 14) (ad 15) v vn H ∧
  va_P g.1 vwCl [(ad 16, .inr (4, [.ref (ad 0), .ref (ad 2), .ref (ad 4), .int (zI hs), .ref (ad 17), .ref (ad 19), .ref (ad 21)]))] H ∧
  va_P g.1 vwCl [(ad 17, .inr (0, [.ref (ad 18), .int (zI nx), .int (zI hd)]))] H ∧
  va_P g.1 vwCl [(ad 18, .inl (g.2.2.2, 4, .inr (.inr (.inr (.inr (fun k => some (ad (6 + 2 * k))))))))] H ∧
  PT g (ad 19) (ad 20) tc tn H ∧
  va_P g.1 vwCl [(ad 21, .inr (1, [.ref (ad 14), .int (zI pf), .int (zI ig), .int (zI bp)]))] H ∧
  ((hs = 0 ∨ hs = 1) ∧ (0 ≤ nx ∧ nx ≤ 3) ∧ (0 ≤ hd ∧ hd ≤ 4) ∧ (0 ≤ pf ∧ pf ≤ 40) ∧ (ig = 0 ∨ ig = 1) ∧ (bp = 0 ∨ bp = 1))
section PXL
variable {g : zG} {ad : Nat → Nat} {w : Int → Int} {n : Int} {d : Int → Int} {dn : Int} {u : Int → Int} {un : Int} {hf : Nat → Int → Int} {hn : Nat → Int} {v : Int → Int} {vn hs nx hd tn pf ig bp : Int} {tc : Int → Int} {H H1 : Heap}
theorem PX.gj (q : PX g ad w n d dn u un hf hn v vn hs nx hd tn pf ig bp tc H) : zInj ad := by
  obtain ⟨j, c0, c1, c2, c3, c4, cx, ch, cs, ct, cr, cg⟩ := q
  exact j
theorem PX.gw (q : PX g ad w n d dn u un hf hn v vn hs nx hd tn pf ig bp tc H) : PW g (ad 0) (ad 1) w n H := by
  obtain ⟨j, c0, c1, c2, c3, c4, cx, ch, cs, ct, cr, cg⟩ := q
  exact c0
theorem PX.gd (q : PX g ad w n d dn u un hf hn v vn hs nx hd tn pf ig bp tc H) : PW g (ad 2) (ad 3) d dn H := by
  obtain ⟨j, c0, c1, c2, c3, c4, cx, ch, cs, ct, cr, cg⟩ := q
  exact c1
theorem PX.gu (q : PX g ad w n d dn u un hf hn v vn hs nx hd tn pf ig bp tc H) : PW g (ad 4) (ad 5) u un H := by
  obtain ⟨j, c0, c1, c2, c3, c4, cx, ch, cs, ct, cr, cg⟩ := q
  exact c2
theorem PX.ghh (q : PX g ad w n d dn u un hf hn v vn hs nx hd tn pf ig bp tc H) : ∀ k, k < 4 → PW g (ad (6 + 2 * k)) (ad (7 + 2 * k)) (hf k) (hn k) H := by
  obtain ⟨j, c0, c1, c2, c3, c4, cx, ch, cs, ct, cr, cg⟩ := q
  exact c3
theorem PX.gv (q : PX g ad w n d dn u un hf hn v vn hs nx hd tn pf ig bp tc H) : PW g (ad 14) (ad 15) v vn H := by
  obtain ⟨j, c0, c1, c2, c3, c4, cx, ch, cs, ct, cr, cg⟩ := q
  exact c4
theorem PX.gx (q : PX g ad w n d dn u un hf hn v vn hs nx hd tn pf ig bp tc H) : va_P g.1 vwCl [(ad 16, .inr (4, [.ref (ad 0), .ref (ad 2), .ref (ad 4), .int (zI hs), .ref (ad 17), .ref (ad 19), .ref (ad 21)]))] H := by
  obtain ⟨j, c0, c1, c2, c3, c4, cx, ch, cs, ct, cr, cg⟩ := q
  exact cx
theorem PX.gh (q : PX g ad w n d dn u un hf hn v vn hs nx hd tn pf ig bp tc H) : va_P g.1 vwCl [(ad 17, .inr (0, [.ref (ad 18), .int (zI nx), .int (zI hd)]))] H := by
  obtain ⟨j, c0, c1, c2, c3, c4, cx, ch, cs, ct, cr, cg⟩ := q
  exact ch
theorem PX.gs (q : PX g ad w n d dn u un hf hn v vn hs nx hd tn pf ig bp tc H) : va_P g.1 vwCl [(ad 18, .inl (g.2.2.2, 4, .inr (.inr (.inr (.inr (fun k => some (ad (6 + 2 * k))))))))] H := by
  obtain ⟨j, c0, c1, c2, c3, c4, cx, ch, cs, ct, cr, cg⟩ := q
  exact cs
theorem PX.gt (q : PX g ad w n d dn u un hf hn v vn hs nx hd tn pf ig bp tc H) : PT g (ad 19) (ad 20) tc tn H := by
  obtain ⟨j, c0, c1, c2, c3, c4, cx, ch, cs, ct, cr, cg⟩ := q
  exact ct
theorem PX.gr (q : PX g ad w n d dn u un hf hn v vn hs nx hd tn pf ig bp tc H) : va_P g.1 vwCl [(ad 21, .inr (1, [.ref (ad 14), .int (zI pf), .int (zI ig), .int (zI bp)]))] H := by
  obtain ⟨j, c0, c1, c2, c3, c4, cx, ch, cs, ct, cr, cg⟩ := q
  exact cr
theorem PX.grg (q : PX g ad w n d dn u un hf hn v vn hs nx hd tn pf ig bp tc H) : (hs = 0 ∨ hs = 1) ∧ (0 ≤ nx ∧ nx ≤ 3) ∧ (0 ≤ hd ∧ hd ≤ 4) ∧ (0 ≤ pf ∧ pf ≤ 40) ∧ (ig = 0 ∨ ig = 1) ∧ (bp = 0 ∨ bp = 1) := by
  obtain ⟨j, c0, c1, c2, c3, c4, cx, ch, cs, ct, cr, cg⟩ := q
  exact cg
theorem PX.recvx {s : State} (hK : zK g s) (q : PX g ad w n d dn u un hf hn v vn hs nx hd tn pf ig bp tc H) : ∃ cell : Cell, H[ad 16]? = some cell ∧ cell.vm.isStatics = false ∧ s.vm.findClass RX9 = some cell.cls := va_recv hK q.gx (ci := 4) (q0 := 0) rfl rfl
theorem PX.recvh {s : State} (hK : zK g s) (q : PX g ad w n d dn u un hf hn v vn hs nx hd tn pf ig bp tc H) : ∃ cell : Cell, H[ad 17]? = some cell ∧ cell.vm.isStatics = false ∧ s.vm.findClass RX1 = some cell.cls := va_recv hK q.gh (ci := 0) (q0 := 0) rfl rfl
theorem PX.recvr {s : State} (hK : zK g s) (q : PX g ad w n d dn u un hf hn v vn hs nx hd tn pf ig bp tc H) : ∃ cell : Cell, H[ad 21]? = some cell ∧ cell.vm.isStatics = false ∧ s.vm.findClass RX3 = some cell.cls := va_recv hK q.gr (ci := 1) (q0 := 0) rfl rfl
theorem PX.setW {w2 : Int → Int} {n2 : Int} (q : PX g ad w n d dn u un hf hn v vn hs nx hd tn pf ig bp tc H) (hk : ∀ z : Nat, z < H.size → ¬ zA2 (ad 0) (ad 1) z → H1[z]? = H[z]?) (hw : PW g (ad 0) (ad 1) w2 n2 H1) : PX g ad w2 n2 d dn u un hf hn v vn hs nx hd tn pf ig bp tc H1 := by
  obtain ⟨j, c0, c1, c2, c3, c4, cx, ch, cs, ct, cr, cg⟩ := q
  exact ⟨j, hw, (c1.frm hk (j.no (by omega) (by omega) (by omega) (by omega) (by omega)) (j.no (by omega) (by omega) (by omega) (by omega) (by omega))), (c2.frm hk (j.no (by omega) (by omega) (by omega) (by omega) (by omega)) (j.no (by omega) (by omega) (by omega) (by omega) (by omega))), (fun k h4 => (c3 k h4).frm hk (j.no (by omega) (by omega) (by omega) (by omega) (by omega)) (j.no (by omega) (by omega) (by omega) (by omega) (by omega))), (c4.frm hk (j.no (by omega) (by omega) (by omega) (by omega) (by omega)) (j.no (by omega) (by omega) (by omega) (by omega) (by omega))), (cx.frm1 hk (j.no (by omega) (by omega) (by omega) (by omega) (by omega))), (ch.frm1 hk (j.no (by omega) (by omega) (by omega) (by omega) (by omega))), (cs.frm1 hk (j.no (by omega) (by omega) (by omega) (by omega) (by omega))), (ct.frm hk (j.no (by omega) (by omega) (by omega) (by omega) (by omega)) (j.no (by omega) (by omega) (by omega) (by omega) (by omega))), (cr.frm1 hk (j.no (by omega) (by omega) (by omega) (by omega) (by omega))), cg⟩
theorem PX.setD {w2 : Int → Int} {n2 : Int} (q : PX g ad w n d dn u un hf hn v vn hs nx hd tn pf ig bp tc H) (hk : ∀ z : Nat, z < H.size → ¬ zA2 (ad 2) (ad 3) z → H1[z]? = H[z]?) (hw : PW g (ad 2) (ad 3) w2 n2 H1) : PX g ad w n w2 n2 u un hf hn v vn hs nx hd tn pf ig bp tc H1 := by
  obtain ⟨j, c0, c1, c2, c3, c4, cx, ch, cs, ct, cr, cg⟩ := q
  exact ⟨j, (c0.frm hk (j.no (by omega) (by omega) (by omega) (by omega) (by omega)) (j.no (by omega) (by omega) (by omega) (by omega) (by omega))), hw, (c2.frm hk (j.no (by omega) (by omega) (by omega) (by omega) (by omega)) (j.no (by omega) (by omega) (by omega) (by omega) (by omega))), (fun k h4 => (c3 k h4).frm hk (j.no (by omega) (by omega) (by omega) (by omega) (by omega)) (j.no (by omega) (by omega) (by omega) (by omega) (by omega))), (c4.frm hk (j.no (by omega) (by omega) (by omega) (by omega) (by omega)) (j.no (by omega) (by omega) (by omega) (by omega) (by omega))), (cx.frm1 hk (j.no (by omega) (by omega) (by omega) (by omega) (by omega))), (ch.frm1 hk (j.no (by omega) (by omega) (by omega) (by omega) (by omega))), (cs.frm1 hk (j.no (by omega) (by omega) (by omega) (by omega) (by omega))), (ct.frm hk (j.no (by omega) (by omega) (by omega) (by omega) (by omega)) (j.no (by omega) (by omega) (by omega) (by omega) (by omega))), (cr.frm1 hk (j.no (by omega) (by omega) (by omega) (by omega) (by omega))), cg⟩
theorem PX.setU {w2 : Int → Int} {n2 : Int} (q : PX g ad w n d dn u un hf hn v vn hs nx hd tn pf ig bp tc H) (hk : ∀ z : Nat, z < H.size → ¬ zA2 (ad 4) (ad 5) z → H1[z]? = H[z]?) (hw : PW g (ad 4) (ad 5) w2 n2 H1) : PX g ad w n d dn w2 n2 hf hn v vn hs nx hd tn pf ig bp tc H1 := by
  obtain ⟨j, c0, c1, c2, c3, c4, cx, ch, cs, ct, cr, cg⟩ := q
  exact ⟨j, (c0.frm hk (j.no (by omega) (by omega) (by omega) (by omega) (by omega)) (j.no (by omega) (by omega) (by omega) (by omega) (by omega))), (c1.frm hk (j.no (by omega) (by omega) (by omega) (by omega) (by omega)) (j.no (by omega) (by omega) (by omega) (by omega) (by omega))), hw, (fun k h4 => (c3 k h4).frm hk (j.no (by omega) (by omega) (by omega) (by omega) (by omega)) (j.no (by omega) (by omega) (by omega) (by omega) (by omega))), (c4.frm hk (j.no (by omega) (by omega) (by omega) (by omega) (by omega)) (j.no (by omega) (by omega) (by omega) (by omega) (by omega))), (cx.frm1 hk (j.no (by omega) (by omega) (by omega) (by omega) (by omega))), (ch.frm1 hk (j.no (by omega) (by omega) (by omega) (by omega) (by omega))), (cs.frm1 hk (j.no (by omega) (by omega) (by omega) (by omega) (by omega))), (ct.frm hk (j.no (by omega) (by omega) (by omega) (by omega) (by omega)) (j.no (by omega) (by omega) (by omega) (by omega) (by omega))), (cr.frm1 hk (j.no (by omega) (by omega) (by omega) (by omega) (by omega))), cg⟩
theorem PX.setV {w2 : Int → Int} {n2 : Int} (q : PX g ad w n d dn u un hf hn v vn hs nx hd tn pf ig bp tc H) (hk : ∀ z : Nat, z < H.size → ¬ zA2 (ad 14) (ad 15) z → H1[z]? = H[z]?) (hw : PW g (ad 14) (ad 15) w2 n2 H1) : PX g ad w n d dn u un hf hn w2 n2 hs nx hd tn pf ig bp tc H1 := by
  obtain ⟨j, c0, c1, c2, c3, c4, cx, ch, cs, ct, cr, cg⟩ := q
  exact ⟨j, (c0.frm hk (j.no (by omega) (by omega) (by omega) (by omega) (by omega)) (j.no (by omega) (by omega) (by omega) (by omega) (by omega))), (c1.frm hk (j.no (by omega) (by omega) (by omega) (by omega) (by omega)) (j.no (by omega) (by omega) (by omega) (by omega) (by omega))), (c2.frm hk (j.no (by omega) (by omega) (by omega) (by omega) (by omega)) (j.no (by omega) (by omega) (by omega) (by omega) (by omega))), (fun k h4 => (c3 k h4).frm hk (j.no (by omega) (by omega) (by omega) (by omega) (by omega)) (j.no (by omega) (by omega) (by omega) (by omega) (by omega))), hw, (cx.frm1 hk (j.no (by omega) (by omega) (by omega) (by omega) (by omega))), (ch.frm1 hk (j.no (by omega) (by omega) (by omega) (by omega) (by omega))), (cs.frm1 hk (j.no (by omega) (by omega) (by omega) (by omega) (by omega))), (ct.frm hk (j.no (by omega) (by omega) (by omega) (by omega) (by omega)) (j.no (by omega) (by omega) (by omega) (by omega) (by omega))), (cr.frm1 hk (j.no (by omega) (by omega) (by omega) (by omega) (by omega))), cg⟩
theorem PX.setT {w2 : Int → Int} {n2 : Int} (q : PX g ad w n d dn u un hf hn v vn hs nx hd tn pf ig bp tc H) (hk : ∀ z : Nat, z < H.size → ¬ zA2 (ad 19) (ad 20) z → H1[z]? = H[z]?) (hw : PT g (ad 19) (ad 20) w2 n2 H1) : PX g ad w n d dn u un hf hn v vn hs nx hd n2 pf ig bp w2 H1 := by
  obtain ⟨j, c0, c1, c2, c3, c4, cx, ch, cs, ct, cr, cg⟩ := q
  exact ⟨j, (c0.frm hk (j.no (by omega) (by omega) (by omega) (by omega) (by omega)) (j.no (by omega) (by omega) (by omega) (by omega) (by omega))), (c1.frm hk (j.no (by omega) (by omega) (by omega) (by omega) (by omega)) (j.no (by omega) (by omega) (by omega) (by omega) (by omega))), (c2.frm hk (j.no (by omega) (by omega) (by omega) (by omega) (by omega)) (j.no (by omega) (by omega) (by omega) (by omega) (by omega))), (fun k h4 => (c3 k h4).frm hk (j.no (by omega) (by omega) (by omega) (by omega) (by omega)) (j.no (by omega) (by omega) (by omega) (by omega) (by omega))), (c4.frm hk (j.no (by omega) (by omega) (by omega) (by omega) (by omega)) (j.no (by omega) (by omega) (by omega) (by omega) (by omega))), (cx.frm1 hk (j.no (by omega) (by omega) (by omega) (by omega) (by omega))), (ch.frm1 hk (j.no (by omega) (by omega) (by omega) (by omega) (by omega))), (cs.frm1 hk (j.no (by omega) (by omega) (by omega) (by omega) (by omega))), hw, (cr.frm1 hk (j.no (by omega) (by omega) (by omega) (by omega) (by omega))), cg⟩
theorem PX.setH {w2 : Int → Int} {n2 : Int} {i : Nat} (hi : i < 4) (q : PX g ad w n d dn u un hf hn v vn hs nx hd tn pf ig bp tc H) (hk : ∀ z : Nat, z < H.size → ¬ zA2 (ad (6 + 2 * i)) (ad (7 + 2 * i)) z → H1[z]? = H[z]?) (hw : PW g (ad (6 + 2 * i)) (ad (7 + 2 * i)) w2 n2 H1) : PX g ad w n d dn u un (zUp hf i w2) (zUp hn i n2) v vn hs nx hd tn pf ig bp tc H1 := by
  obtain ⟨j, c0, c1, c2, c3, c4, cx, ch, cs, ct, cr, cg⟩ := q
  exact ⟨j, (c0.frm hk (j.no (by omega) (by omega) (by omega) (by omega) (by omega)) (j.no (by omega) (by omega) (by omega) (by omega) (by omega))), (c1.frm hk (j.no (by omega) (by omega) (by omega) (by omega) (by omega)) (j.no (by omega) (by omega) (by omega) (by omega) (by omega))), (c2.frm hk (j.no (by omega) (by omega) (by omega) (by omega) (by omega)) (j.no (by omega) (by omega) (by omega) (by omega) (by omega))), (fun k h4 => by
    by_cases e : k = i
    · subst e; rw [zUp_eq, zUp_eq]; exact hw
    · rw [zUp_ne e, zUp_ne e]; exact (c3 k h4).frm hk (j.no (by omega) (by omega) (by omega) (by omega) (by omega)) (j.no (by omega) (by omega) (by omega) (by omega) (by omega))), (c4.frm hk (j.no (by omega) (by omega) (by omega) (by omega) (by omega)) (j.no (by omega) (by omega) (by omega) (by omega) (by omega))), (cx.frm1 hk (j.no (by omega) (by omega) (by omega) (by omega) (by omega))), (ch.frm1 hk (j.no (by omega) (by omega) (by omega) (by omega) (by omega))), (cs.frm1 hk (j.no (by omega) (by omega) (by omega) (by omega) (by omega))), (ct.frm hk (j.no (by omega) (by omega) (by omega) (by omega) (by omega)) (j.no (by omega) (by omega) (by omega) (by omega) (by omega))), (cr.frm1 hk (j.no (by omega) (by omega) (by omega) (by omega) (by omega))), cg⟩
theorem PX.putX {z : Int} (q : PX g ad w n d dn u un hf hn v vn hs nx hd tn pf ig bp tc H) (hk : ∀ z : Nat, z < H.size → ¬ z = ad 16 → H1[z]? = H[z]?) (hc : va_P g.1 vwCl [(ad 16, .inr (4, [.ref (ad 0), .ref (ad 2), .ref (ad 4), .int (zI z), .ref (ad 17), .ref (ad 19), .ref (ad 21)]))] H1) (hz : z = 0 ∨ z = 1) : PX g ad w n d dn u un hf hn v vn z nx hd tn pf ig bp tc H1 := by
  obtain ⟨j, c0, c1, c2, c3, c4, cx, ch, cs, ct, cr, cg⟩ := q
  exact ⟨j, (c0.frm hk (j.ne (by omega) (by omega) (by omega)) (j.ne (by omega) (by omega) (by omega))), (c1.frm hk (j.ne (by omega) (by omega) (by omega)) (j.ne (by omega) (by omega) (by omega))), (c2.frm hk (j.ne (by omega) (by omega) (by omega)) (j.ne (by omega) (by omega) (by omega))), (fun k h4 => (c3 k h4).frm hk (j.ne (by omega) (by omega) (by omega)) (j.ne (by omega) (by omega) (by omega))), (c4.frm hk (j.ne (by omega) (by omega) (by omega)) (j.ne (by omega) (by omega) (by omega))), hc, (ch.frm1 hk (j.ne (by omega) (by omega) (by omega))), (cs.frm1 hk (j.ne (by omega) (by omega) (by omega))), (ct.frm hk (j.ne (by omega) (by omega) (by omega)) (j.ne (by omega) (by omega) (by omega))), (cr.frm1 hk (j.ne (by omega) (by omega) (by omega))), ⟨hz, cg.2.1, cg.2.2.1, cg.2.2.2.1, cg.2.2.2.2.1, cg.2.2.2.2.2⟩⟩
theorem PX.putH {z1 z2 : Int} (q : PX g ad w n d dn u un hf hn v vn hs nx hd tn pf ig bp tc H) (hk : ∀ z : Nat, z < H.size → ¬ z = ad 17 → H1[z]? = H[z]?) (hc : va_P g.1 vwCl [(ad 17, .inr (0, [.ref (ad 18), .int (zI z1), .int (zI z2)]))] H1) (hz : (0 ≤ z1 ∧ z1 ≤ 3) ∧ (0 ≤ z2 ∧ z2 ≤ 4)) : PX g ad w n d dn u un hf hn v vn hs z1 z2 tn pf ig bp tc H1 := by
  obtain ⟨j, c0, c1, c2, c3, c4, cx, ch, cs, ct, cr, cg⟩ := q
  exact ⟨j, (c0.frm hk (j.ne (by omega) (by omega) (by omega)) (j.ne (by omega) (by omega) (by omega))), (c1.frm hk (j.ne (by omega) (by omega) (by omega)) (j.ne (by omega) (by omega) (by omega))), (c2.frm hk (j.ne (by omega) (by omega) (by omega)) (j.ne (by omega) (by omega) (by omega))), (fun k h4 => (c3 k h4).frm hk (j.ne (by omega) (by omega) (by omega)) (j.ne (by omega) (by omega) (by omega))), (c4.frm hk (j.ne (by omega) (by omega) (by omega)) (j.ne (by omega) (by omega) (by omega))), (cx.frm1 hk (j.ne (by omega) (by omega) (by omega))), hc, (cs.frm1 hk (j.ne (by omega) (by omega) (by omega))), (ct.frm hk (j.ne (by omega) (by omega) (by omega)) (j.ne (by omega) (by omega) (by omega))), (cr.frm1 hk (j.ne (by omega) (by omega) (by omega))), ⟨cg.1, hz.1, hz.2, cg.2.2.2.1, cg.2.2.2.2.1, cg.2.2.2.2.2⟩⟩
theorem PX.putR {z1 z2 z3 : Int} (q : PX g ad w n d dn u un hf hn v vn hs nx hd tn pf ig bp tc H) (hk : ∀ z : Nat, z < H.size → ¬ z = ad 21 → H1[z]? = H[z]?) (hc : va_P g.1 vwCl [(ad 21, .inr (1, [.ref (ad 14), .int (zI z1), .int (zI z2), .int (zI z3)]))] H1) (hz : (0 ≤ z1 ∧ z1 ≤ 40) ∧ (z2 = 0 ∨ z2 = 1) ∧ (z3 = 0 ∨ z3 = 1)) : PX g ad w n d dn u un hf hn v vn hs nx hd tn z1 z2 z3 tc H1 := by
  obtain ⟨j, c0, c1, c2, c3, c4, cx, ch, cs, ct, cr, cg⟩ := q
  exact ⟨j, (c0.frm hk (j.ne (by omega) (by omega) (by omega)) (j.ne (by omega) (by omega) (by omega))), (c1.frm hk (j.ne (by omega) (by omega) (by omega)) (j.ne (by omega) (by omega) (by omega))), (c2.frm hk (j.ne (by omega) (by omega) (by omega)) (j.ne (by omega) (by omega) (by omega))), (fun k h4 => (c3 k h4).frm hk (j.ne (by omega) (by omega) (by omega)) (j.ne (by omega) (by omega) (by omega))), (c4.frm hk (j.ne (by omega) (by omega) (by omega)) (j.ne (by omega) (by omega) (by omega))), (cx.frm1 hk (j.ne (by omega) (by omega) (by omega))), (ch.frm1 hk (j.ne (by omega) (by omega) (by omega))), (cs.frm1 hk (j.ne (by omega) (by omega) (by omega))), (ct.frm hk (j.ne (by omega) (by omega) (by omega)) (j.ne (by omega) (by omega) (by omega))), hc, ⟨cg.1, cg.2.1, cg.2.2.1, hz⟩⟩
end PXL

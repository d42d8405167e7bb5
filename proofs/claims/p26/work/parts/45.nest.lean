-- what the tables say of calls between classes of one nest, and of rows of words
def zNest (U : State) : Prop := va_Nw (.methodLinkNest RX9 9 yX8_init "BorderRuns") U ∧ va_Nw (.methodLinkNest RX1 24 yX8_init "BorderRuns") U ∧ va_Nw (.methodLinkNest RX9 35 yX7_init "BorderRuns") U ∧ va_Nw (.methodLinkNest RX9 42 yX3_init "BorderRuns") U ∧ va_Nw (.methodLinkNest RX3 11 yX8_init "BorderRuns") U ∧ va_AO RX8 U
theorem zNest.warm {s U : State} (hW : s.WarmedH U.vm) (h : zNest s) : zNest U :=
  ⟨va_Nw.warmM hW h.1, va_Nw.warmM hW h.2.1, va_Nw.warmM hW h.2.2.1, va_Nw.warmM hW h.2.2.2.1, va_Nw.warmM hW h.2.2.2.2.1, va_AO.moved hW.alike h.2.2.2.2.2⟩
theorem zNest.same {s U : State} (e : s.vm = U.vm) (h : zNest s) : zNest U :=
  ⟨va_Nw.same rfl e h.1, va_Nw.same rfl e h.2.1, va_Nw.same rfl e h.2.2.1, va_Nw.same rfl e h.2.2.2.1, va_Nw.same rfl e h.2.2.2.2.1, va_AO.moved (by rw [e]; exact Vm.Alike.refl U.vm) h.2.2.2.2.2⟩
def zPn (g : zG) (As : List Value) (Pic : Heap → Prop) : Array Value → State → Prop := fun v U => v = As.toArray ∧ zK g U ∧ zNest U ∧ Pic U.heap
theorem zPn_blind {g : zG} {As : List Value} {Pic : Heap → Prop} : FrameBlind (zPn g As Pic) := fun a U g' mk q => ⟨q.1, va_K.moved (u := U) (U := U.calling g' mk a) (Vm.Alike.refl U.vm) q.2.1, zNest.same (s := U) (U := U.calling g' mk a) rfl q.2.2.1, q.2.2.2⟩
theorem Met.ofZn {l : Launch} {y : MethodName} {ws ws' : List Cond} {rm : Room} {g : zG} {As : List Value} {Pic : Heap → Prop} {Qc : Array Value → State → Outcome → State → Prop} {mc ms : Nat} {free : Addr → Prop} {cc : ByteArray} {maxL : Nat} {ret : Option FieldType}
    (hy : plainName y.cls = true) (hw : ws = Cond.code y cc maxL ret :: ws') (hlen : (lg_sl As).length ≤ maxL)
    (body : ∀ (p : Program) (e : Env) (s : State) (m : MethodId) (args : Array Value) (below : List Frame) (meth : Method) (c : Code) (ls : Array Slot), p.tables.exec = Jvm.exec → c.code = cc → meth.sig.returnType = ret → meth.locks = false → CallFix p m c cc maxL s args ws y.cls → meth.name = y.name → zK g s → zNest s → Pic s.heap → lv_has ls maxL (lv_args 0 As) →
      W p l e rm s m args below meth c s.heap [] 0 0 (MQ below Qc args s mc ms free) (F0 m 0 ls [])) : Met l y ws rm (zPn g As Pic) Qc mc ms free := by
  refine Met.ofW (cc := cc) (maxL := maxL) (ret := ret) hy hw ?_
  intro p e s m args below meth c s₁ B hml hv
  obtain ⟨rfl, hK, hN, hpic⟩ := hv
  have hts := atoms_spec (ws := ws) B.pre
  have hl := lv_entry As (n := maxL) hlen
  rw [lg_entry_eq]
  exact body p e s m _ below meth c _ B.exec B.bytes B.returns B.notSynchronized ⟨B.exec, B.bytes, hml, findClass_of_methodNamed B.named, hts⟩ (name_of_methodNamed B.named B.method).1 hK hN hpic hl
section ZNI
variable {p : Program} {l : Launch} {e : Env} {R : Room} {s : State} {m : MethodId} {args : Array Value} {below : List Frame} {meth : Method} {c : Code} {H : Heap} {locs : List Loc} {cells slots : Nat} {Q : State → Prop}
variable {cc bytes : ByteArray} {pc nL maxL index n : Nat} {ls : Array Slot} {rest st As : List Value} {g : zG} {Pic : Heap → Prop} {Ts ws : List Cond} {own host : String} {y : MethodName} {ret : Option FieldType} {rm : Room} {b : Nat}
variable {A A0 A1 : Nat → Prop} {H0 : Heap} {mc ms : Nat} {Pc : Array Value → State → Prop}
theorem zc_preN (hK : zK g s) (hN : zNest s) (hpic : Pic H) : PreS s H (zPn g As Pic) As := ⟨zPn_blind, fun U hU hW => ⟨rfl, va_K.moved hW.alike hK, hN.warm hW, by rw [hU]; exact hpic⟩⟩
theorem zc_I (S : CallFix p m c cc nL s args Ts own) {post : Heap → Prop} (hM : Met l y ws rm Pc (zQv post A1) mc ms A1) (cw : CallB R s args own index y bytes maxL none ws rm mc ms n ∧ y.name = "<init>" ∧ (Cond.instanceMethod y).before args s = true) (hp : PreS s H Pc (.ref b :: As))
    (hn : As.length = n) (hsize : ls.size = nL) (hstack : st = As.reverse ++ .ref b :: rest) (hW : (rest.map fun v => v.category).sum ≤ 8) (hdg : decode cc pc = .ok (.invokespecial index, 3)) (hf : cells + mc ≤ R.cells ∧ slots + ms ≤ R.slots) (hS : va_S A0 H0 H locs) (hA : ∀ q, A1 q → A0 q)
    (kk : ∀ (H1 : Heap) (locs1 : List Loc), post H1 → H.size ≤ H1.size → (∀ q : Nat, q < H.size → ¬ A1 q → H1[q]? = H[q]?) → va_S A0 H0 H1 locs1 → W p l e R s m args below meth c H1 locs1 (cells + mc) (slots + ms) Q (F0 m (pc + 3) ls rest)) : W p l e R s m args below meth c H locs cells slots Q (F0 m pc ls st) :=
  zc_wv (va_runI S hM cw hp rfl hn hsize hstack (lv_room hW) hdg hf) hS hA kk
theorem zc_IN (S : CallFix p m c cc nL s args Ts own) {post : Heap → Prop} (hM : Met l y ws rm Pc (zQv post A1) mc ms A1) (cw : va_CN R s args own index y host bytes maxL none ws rm mc ms n ∧ y.name = "<init>" ∧ (Cond.instanceMethod y).before args s = true) (hp : PreS s H Pc (.ref b :: As))
    (hn : As.length = n) (hsize : ls.size = nL) (hstack : st = As.reverse ++ .ref b :: rest) (hW : (rest.map fun v => v.category).sum ≤ 8) (hdg : decode cc pc = .ok (.invokespecial index, 3)) (hf : cells + mc ≤ R.cells ∧ slots + ms ≤ R.slots) (hS : va_S A0 H0 H locs) (hA : ∀ q, A1 q → A0 q)
    (kk : ∀ (H1 : Heap) (locs1 : List Loc), post H1 → H.size ≤ H1.size → (∀ q : Nat, q < H.size → ¬ A1 q → H1[q]? = H[q]?) → va_S A0 H0 H1 locs1 → W p l e R s m args below meth c H1 locs1 (cells + mc) (slots + ms) Q (F0 m (pc + 3) ls rest)) : W p l e R s m args below meth c H locs cells slots Q (F0 m pc ls st) :=
  zc_wv (va_runIN S hM cw hp rfl hn hsize hstack (lv_room hW) hdg hf) hS hA kk
theorem zn_new (hexec : p.tables.exec = Jvm.exec) (hb : c.code = cc) {C : String} {T : u_T} {N ci : Nat} (hts : ∀ w ∈ Ts, w.before args s = true) (hin : ∀ w ∈ u_ws C T N, w ∈ Ts) (ty : Nat → FieldType) (hty : ∀ k, k < N → parseFieldDescriptor (T k).2.2.1 = some (ty k)) (hown : s.vm.findClass own = some m.cls) (hcl : (Cond.classLink own index C).before args s = true) (hinst : (Cond.instantiable C N).before args s = true) (hini : (Cond.initialized C).before args s = true)
    (hK : zK g s) (hS : va_S A H0 H locs) (hc : vwCl[ci]? = some (C, T, N)) {fs : List Value} (hfs : ∀ j, j < N → defaultValue (ty j) = vp_V fs j) (hcells : cells + 1 ≤ R.cells) (hslots : slots + N ≤ R.slots) (hdg : decode cc pc = .ok (.new index, 3))
    (kk : ∀ (q : Nat) (H1 : Heap), q = H.size → va_P g.1 vwCl [(q, .inr (ci, fs))] H1 → (∀ x, x < H.size → H1[x]? = H[x]?) → va_S A H0 H1 locs →
      W p l e R s m args below meth c H1 locs (cells + 1) (slots + N) Q (F0 m (pc + 3) ls (.ref q :: rest))) : W p l e R s m args below meth c H locs cells slots Q (F0 m pc ls rest) := by
  have hKn := hK.1 ci _ hc
  refine W.newcK hexec hb hown hcl hinst hini rfl hdg hcells hslots hKn.2.1 rfl fun H1 kC hkC e1 z1 o1 => ?_
  exact kk H.size H1 rfl (va_P.one ⟨_, hc, (u_born ty hts hin hKn hkC e1 hty).to hfs⟩) o1 ⟨Nat.le_trans hS.1 (by omega), fun x h1 h2 => (o1 x (Nat.lt_of_lt_of_le h1 hS.1)).trans (hS.2.1 x h1 h2), hS.2.2⟩
theorem zn_newq (hexec : p.tables.exec = Jvm.exec) (hb : c.code = cc) (hown : s.vm.findClass own = some m.cls) (hclink : (Cond.classLink own index RX8).before args s = true) (hover : va_AO RX8 s) (hK : zK g s) (hS : va_S A H0 H locs)
    {z : Int} {N : Nat} (hz : 0 ≤ z ∧ z = N ∧ N ≤ 1000) (hcells : cells + 1 ≤ R.cells) (hslots : slots + N ≤ R.slots) (hdg : decode cc pc = .ok (.anewarray index, 3))
    (kk : ∀ (q : Nat) (H1 : Heap), q = H.size → va_P g.1 vwCl [(q, .inl (g.2.2.2, N, .inr (.inr (.inr (.inr (fun _ => none))))))] H1 → (∀ x, x < H.size → H1[x]? = H[x]?) → va_S A H0 H1 locs →
      W p l e R s m args below meth c H1 locs (cells + 1) (slots + N) Q (F0 m (pc + 3) ls (.ref q :: rest))) : W p l e R s m args below meth c H locs cells slots Q (F0 m pc ls (.int (zI z) :: rest)) := by
  have hneg : ¬ zI z < 0 := by rw [zI_0, zI_lt (by omega) (by omega)]; omega
  have hcl : (zI z).toNatClampNeg = N := by rw [zI_cl (by omega)]; omega
  refine W.anew hexec hb hown hclink (va_AO.use hover) rfl hdg rfl hneg (by rw [hcl]; omega) hcells (by rw [hcl]; exact hslots) fun cA kA comp f1 f2 f3 f4 => ?_
  rw [hcl]
  obtain ⟨kA2, comp2, g1, g2, g3, g4⟩ := (hK.2 2 _ rfl).2
  have hc : cA = g.2.2.2 := Option.some.inj (f1.symm.trans g4)
  subst hc
  generalize hH1 : H.push ({ cls := g.2.2.2, slots := Array.replicate N .null, vm := .none } : Cell) = H1
  have z1 : H1.size = H.size + 1 := by rw [← hH1, Array.size_push]
  have e1 : H1[H.size]? = some (arrV g.2.2.2 N (fun _ => .null)) := by rw [← hH1, Array.getElem?_push_size, ← arrV_new]
  have o1 : ∀ q : Nat, q < H.size → H1[q]? = H[q]? := fun q hq => by rw [← hH1, Array.getElem?_push, if_neg (Nat.ne_of_lt hq)]
  refine kk H.size H1 rfl (va_P.one ?_) o1 ⟨Nat.le_trans hS.1 (by omega), fun x h1 h2 => (o1 x (Nat.lt_of_lt_of_le h1 hS.1)).trans (hS.2.1 x h1 h2), hS.2.2⟩
  show H1[H.size]? = some (vp_cell _ _)
  rw [vp_cell_q]
  exact e1
theorem zn_astq (hexec : p.tables.exec = Jvm.exec) (hb : c.code = cc) (hK : zK g s) {a v N : Nat} {vs : List Value} {f : Nat → Option Nat} (hP : va_P g.1 vwCl [(a, .inl (g.2.2.2, N, .inr (.inr (.inr (.inr f)))))] H) (hV : va_P g.1 vwCl [(v, .inr (3, vs))] H) (hAa : A a) (hS : va_S A H0 H locs) {i : Int} (hi : 0 ≤ i ∧ i < N ∧ N ≤ 1000) (hdg : decode cc pc = .ok (.aastore, 1))
    (kk : ∀ (H1 : Heap) (locs1 : List Loc), va_P g.1 vwCl [(a, .inl (g.2.2.2, N, .inr (.inr (.inr (.inr (va_up f i.toNat (some v)))))))] H1 → (∀ q : Nat, q < H.size → ¬ q = a → H1[q]? = H[q]?) → va_S A H0 H1 locs1 → W p l e R s m args below meth c H1 locs1 cells slots Q (F0 m (pc + 1) ls rest)) : W p l e R s m args below meth c H locs cells slots Q (F0 m pc ls (.ref v :: .int (zI i) :: .ref a :: rest)) := by
  have hin : vp_in (zI i) N := zI_in (by omega) (by omega)
  have hlt : (zI i).toNatClampNeg < N := Nat.not_le.mp fun q => hin (Or.inr q)
  have h0 : ¬ zI i < 0 := fun q => hin (Or.inl q)
  obtain ⟨r', hr', cellV, g1, g2, g3, -⟩ := hV 0 _ rfl
  have hcls := (hK.1 3 _ rfl).2
  obtain ⟨kA, comp, k1, k2, k3, -⟩ := (hK.2 2 _ rfl).2
  have hcomp : comp = g.1.1 3 := Option.some.inj (k3.symm.trans hcls.1)
  subst hcomp
  obtain ⟨kC, hkC, -⟩ := hcls.2
  refine W.aast hexec hb (hP 0 _ rfl) (fun q h => by cases h) (fun h => by cases h) k1 k2 rfl hkC ⟨h0, by show _ < (arrV _ _ _).slots.size; rw [arrV_size]; exact hlt⟩ g1 (fun q h => by rw [g3] at h; cases h) (by rw [g2]; exact hkC) (by rw [g2]; exact va_assign hcls) rfl rfl hdg fun H1 e z oq => ?_
  refine kk H1 _ (va_P.one ?_) (fun q _ h => oq q h) (hS.put z oq hAa)
  show H1[a]? = some (vp_cell _ _)
  rw [e]
  rw [vp_cell_q, vp_cell_q, arrV_store, zI_cl (by omega)]
  congr 2
  funext q
  by_cases hq : q = i.toNat
  · subst hq
    simp [updV, va_up, va_rf]
  · simp [updV, va_up, hq]
end ZNI
theorem PW.obj {g : zG} {h a : Nat} {w : Int → Int} {n : Int} {H : Heap} (p : PW g h a w n H) : va_P g.1 vwCl [(h, .inr (3, [.ref a, .int (zI n)]))] H := by
  obtain ⟨hn, hw, f, hP, hf, hha⟩ := p
  exact va_P.one (hP 0 _ rfl)

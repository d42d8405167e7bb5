-- writes in the other class's rows
def zA4 (y sa ta oa : Nat) : Nat → Prop := fun q => q = y ∨ q = sa ∨ q = ta ∨ q = oa
theorem va_D.four {A : Nat → Prop} {a b c d : Nat} {e1 e2 e3 e4 : va_E} (h : a ≠ b ∧ a ≠ c ∧ a ≠ d ∧ b ≠ c ∧ b ≠ d ∧ c ≠ d) (ha : A a) (hb : A b) (hc : A c) (hd : A d) : va_D A [(a, e1), (b, e2), (c, e3), (d, e4)] := by
  obtain ⟨h1, h2, h3, h4, h5, h6⟩ := h
  refine ⟨fun i j p q hi hj hpq => ?_, fun k q hk => ?_⟩
  · have bi : i < 4 := (List.getElem?_eq_some_iff.mp hi).1
    have bj : j < 4 := (List.getElem?_eq_some_iff.mp hj).1
    rcases (show i = 0 ∨ i = 1 ∨ i = 2 ∨ i = 3 by omega) with rfl | rfl | rfl | rfl <;> rcases (show j = 0 ∨ j = 1 ∨ j = 2 ∨ j = 3 by omega) with rfl | rfl | rfl | rfl <;> cases hi <;> cases hj <;> first | rfl | exact absurd hpq h1 | exact absurd hpq h2 | exact absurd hpq h3 | exact absurd hpq h4 | exact absurd hpq h5 | exact absurd hpq h6 | exact absurd hpq.symm h1 | exact absurd hpq.symm h2 | exact absurd hpq.symm h3 | exact absurd hpq.symm h4 | exact absurd hpq.symm h5 | exact absurd hpq.symm h6
  · have bk : k < 4 := (List.getElem?_eq_some_iff.mp hk).1
    rcases (show k = 0 ∨ k = 1 ∨ k = 2 ∨ k = 3 by omega) with rfl | rfl | rfl | rfl <;> cases hk <;> assumption
section ZRM
variable {p : Program} {l : Launch} {e : Env} {R : Room} {s : State} {m : MethodId} {args : Array Value} {below : List Frame} {meth : Method} {c : Code} {H H0 : Heap} {locs : List Loc} {cells slots : Nat} {Q : State → Prop}
variable {cc : ByteArray} {pc : Nat} {ls : Array Slot} {rest : List Value} {g : zG} {y sa ta oa : Nat} {f gt od : Int → Int} {sv ik tp : Int}
theorem RM.gy (q : RM g y sa ta oa f gt od sv ik tp H) : va_P g.1 vwCl [(y, .inr (5, [.ref sa, .int (zI sv), .int (zI ik), .ref ta, .int (zI tp), .ref oa]))] H := by
  obtain ⟨F, G, O, hP, -⟩ := q
  intro k e hk
  cases k with
  | zero => exact hP 0 e hk
  | succ k => simp at hk
theorem RM.gf (q : RM g y sa ta oa f gt od sv ik tp H) {k : Int} (h : 0 ≤ k ∧ k < 287) : -2147483648 ≤ f k ∧ f k < 2147483648 := by
  obtain ⟨F, G, O, hP, hF, hG, hO, hd, hr⟩ := q
  exact (hF k h.1 h.2).2
theorem RM.gg (q : RM g y sa ta oa f gt od sv ik tp H) {k : Int} (h : 0 ≤ k ∧ k < 60) : 0 ≤ gt k ∧ gt k < 65536 := by
  obtain ⟨F, G, O, hP, hF, hG, hO, hd, hr⟩ := q
  exact (hG k h.1 h.2).2
theorem RM.put {sv2 ik2 tp2 : Int} {H1 : Heap} (q : RM g y sa ta oa f gt od sv ik tp H) (hk : ∀ z : Nat, z < H.size → ¬ z = y → H1[z]? = H[z]?) (hp : va_P g.1 vwCl [(y, .inr (5, [.ref sa, .int (zI sv2), .int (zI ik2), .ref ta, .int (zI tp2), .ref oa]))] H1) (hr : (0 ≤ sv2 ∧ sv2 ≤ 4) ∧ (ik2 = 0 ∨ ik2 = 1) ∧ (0 ≤ tp2 ∧ tp2 ≤ 60)) : RM g y sa ta oa f gt od sv2 ik2 tp2 H1 := by
  obtain ⟨F, G, O, hP, hF, hG, hO, hd, -⟩ := q
  have h3 : va_P g.1 vwCl [(sa, .inl (g.2.1, 287, .inl F)), (ta, .inl (g.2.2.1, 60, .inl G)), (oa, .inl (g.2.1, 41, .inl O))] H := fun k e h => hP (k + 1) e h
  have h4 := h3.frm (A := fun z => z = y) hk (fun k e h => by
    have bk : k < 3 := (List.getElem?_eq_some_iff.mp h).1
    rcases (show k = 0 ∨ k = 1 ∨ k = 2 by omega) with rfl | rfl | rfl <;> cases h
    · exact fun z => hd.1 z.symm
    · exact fun z => hd.2.1 z.symm
    · exact fun z => hd.2.2.1 z.symm)
  refine ⟨F, G, O, fun k e h => ?_, hF, hG, hO, hd, hr⟩
  cases k with
  | zero => exact hp 0 e h
  | succ k => exact h4 k e h
theorem RM.congrF {f2 : Int → Int} (q : RM g y sa ta oa f gt od sv ik tp H) (h : ∀ k, 0 ≤ k → k < 287 → f2 k = f k) : RM g y sa ta oa f2 gt od sv ik tp H := by
  obtain ⟨F, G, O, hP, hF, hG, hO, hd, hr⟩ := q
  exact ⟨F, G, O, hP, fun k a b => by rw [h k a b]; exact hF k a b, hG, hO, hd, hr⟩
theorem RM.frm {H1 : Heap} {A : Nat → Prop} (q : RM g y sa ta oa f gt od sv ik tp H) (hk : ∀ z : Nat, z < H.size → ¬ A z → H1[z]? = H[z]?) (h1 : ¬ A y) (h2 : ¬ A sa) (h3 : ¬ A ta) (h4 : ¬ A oa) : RM g y sa ta oa f gt od sv ik tp H1 := by
  obtain ⟨F, G, O, hP, h⟩ := q
  refine ⟨F, G, O, hP.frm hk (fun k e hk2 => ?_), h⟩
  have bk : k < 4 := (List.getElem?_eq_some_iff.mp hk2).1
  rcases (show k = 0 ∨ k = 1 ∨ k = 2 ∨ k = 3 by omega) with rfl | rfl | rfl | rfl <;> cases hk2 <;> assumption
theorem zy_ild (hexec : p.tables.exec = Jvm.exec) (hb : c.code = cc) (hK : zK g s) (hX : RM g y sa ta oa f gt od sv ik tp H) {i : Int} (hi : 0 ≤ i ∧ i < 287) (hdg : decode cc pc = .ok (.iaload, 1))
    (kk : W p l e R s m args below meth c H locs cells slots Q (F0 m (pc + 1) ls (.int (zI (f i)) :: rest))) : W p l e R s m args below meth c H locs cells slots Q (F0 m pc ls (.int (zI i) :: .ref sa :: rest)) := by
  obtain ⟨F, G, O, hP, hF, hG, hO, hd, hr⟩ := hX
  refine va_iald (D := g.1) hexec hb hK hP 1 0 rfl rfl (zI_in (by omega) (by decide)) hdg ?_
  rw [zI_cl (by omega), (hF i hi.1 hi.2).1]
  exact kk
theorem zy_old (hexec : p.tables.exec = Jvm.exec) (hb : c.code = cc) (hK : zK g s) (hX : RM g y sa ta oa f gt od sv ik tp H) {i : Int} (hi : 0 ≤ i ∧ i < 41) (hdg : decode cc pc = .ok (.iaload, 1))
    (kk : W p l e R s m args below meth c H locs cells slots Q (F0 m (pc + 1) ls (.int (zI (od i)) :: rest))) : W p l e R s m args below meth c H locs cells slots Q (F0 m pc ls (.int (zI i) :: .ref oa :: rest)) := by
  obtain ⟨F, G, O, hP, hF, hG, hO, hd, hr⟩ := hX
  refine va_iald (D := g.1) hexec hb hK hP 3 0 rfl rfl (zI_in (by omega) (by decide)) hdg ?_
  rw [zI_cl (by omega), (hO i hi.1 hi.2).1]
  exact kk
theorem zy_tld (hexec : p.tables.exec = Jvm.exec) (hb : c.code = cc) (hK : zK g s) (hX : RM g y sa ta oa f gt od sv ik tp H) {i : Int} (hi : 0 ≤ i ∧ i < 60) (hdg : decode cc pc = .ok (.caload, 1))
    (kk : W p l e R s m args below meth c H locs cells slots Q (F0 m (pc + 1) ls (.int (zI (gt i)) :: rest))) : W p l e R s m args below meth c H locs cells slots Q (F0 m pc ls (.int (zI i) :: .ref ta :: rest)) := by
  obtain ⟨F, G, O, hP, hF, hG, hO, hd, hr⟩ := hX
  refine va_cald (D := g.1) hexec hb hK hP 2 1 rfl rfl (zI_in (by omega) (by decide)) hdg ?_
  rw [zI_cl (by omega), (hG i hi.1 hi.2).1]
  exact kk
theorem zUpd_is {F : Nat → Int32} {f : Int → Int} {i v : Int} {N : Int} {P : Int → Prop} (hi : 0 ≤ i ∧ i < N) (h : ∀ k, 0 ≤ k → k < N → F k.toNat = zI (f k) ∧ P (f k)) (hv : P v) : ∀ k, 0 ≤ k → k < N → upd F i.toNat (zI v) k.toNat = zI (zApp f i v k) ∧ P (zApp f i v k) := by
  intro k a b
  by_cases q : k = i
  · subst q
    rw [zApp_eq]
    exact ⟨by unfold upd; simp, hv⟩
  · rw [zApp_ne q]
    refine ⟨?_, (h k a b).2⟩
    rw [← (h k a b).1]
    unfold upd
    have : k.toNat ≠ i.toNat := by omega
    simp [this]
theorem zy_ist (hexec : p.tables.exec = Jvm.exec) (hb : c.code = cc) (hK : zK g s) (hX : RM g y sa ta oa f gt od sv ik tp H) (hS : va_S (zA4 y sa ta oa) H0 H locs) {i v : Int} (hi : 0 ≤ i ∧ i < 287) (hv : -2147483648 ≤ v ∧ v < 2147483648) (hdg : decode cc pc = .ok (.iastore, 1))
    (kk : ∀ (H1 : Heap) (locs1 : List Loc), RM g y sa ta oa (zApp f i v) gt od sv ik tp H1 → va_S (zA4 y sa ta oa) H0 H1 locs1 → W p l e R s m args below meth c H1 locs1 cells slots Q (F0 m (pc + 1) ls rest)) : W p l e R s m args below meth c H locs cells slots Q (F0 m pc ls (.int (zI v) :: .int (zI i) :: .ref sa :: rest)) := by
  obtain ⟨F, G, O, hP, hF, hG, hO, hd, hr⟩ := hX
  refine va_iast (D := g.1) hexec hb hK hP (va_D.four hd (Or.inl rfl) (Or.inr (Or.inl rfl)) (Or.inr (Or.inr (Or.inl rfl))) (Or.inr (Or.inr (Or.inr rfl)))) hS 1 0 rfl rfl (zI_in (by omega) (by decide)) hdg (fun H1 locs hP1 hD1 hS => kk H1 locs ?_ hS)
  rw [zI_cl (by omega)] at hP1
  exact ⟨_, G, O, hP1, zUpd_is (P := fun z => -2147483648 ≤ z ∧ z < 2147483648) hi hF hv, hG, hO, hd, hr⟩
theorem zy_ost (hexec : p.tables.exec = Jvm.exec) (hb : c.code = cc) (hK : zK g s) (hX : RM g y sa ta oa f gt od sv ik tp H) (hS : va_S (zA4 y sa ta oa) H0 H locs) {i v : Int} (hi : 0 ≤ i ∧ i < 41) (hv : -2147483648 ≤ v ∧ v < 2147483648) (hdg : decode cc pc = .ok (.iastore, 1))
    (kk : ∀ (H1 : Heap) (locs1 : List Loc), RM g y sa ta oa f gt (zApp od i v) sv ik tp H1 → va_S (zA4 y sa ta oa) H0 H1 locs1 → W p l e R s m args below meth c H1 locs1 cells slots Q (F0 m (pc + 1) ls rest)) : W p l e R s m args below meth c H locs cells slots Q (F0 m pc ls (.int (zI v) :: .int (zI i) :: .ref oa :: rest)) := by
  obtain ⟨F, G, O, hP, hF, hG, hO, hd, hr⟩ := hX
  refine va_iast (D := g.1) hexec hb hK hP (va_D.four hd (Or.inl rfl) (Or.inr (Or.inl rfl)) (Or.inr (Or.inr (Or.inl rfl))) (Or.inr (Or.inr (Or.inr rfl)))) hS 3 0 rfl rfl (zI_in (by omega) (by decide)) hdg (fun H1 locs hP1 hD1 hS => kk H1 locs ?_ hS)
  rw [zI_cl (by omega)] at hP1
  exact ⟨F, G, _, hP1, hF, hG, zUpd_is (P := fun z => -2147483648 ≤ z ∧ z < 2147483648) hi hO hv, hd, hr⟩
theorem zy_tst (hexec : p.tables.exec = Jvm.exec) (hb : c.code = cc) (hK : zK g s) (hX : RM g y sa ta oa f gt od sv ik tp H) (hS : va_S (zA4 y sa ta oa) H0 H locs) {i v : Int} (hi : 0 ≤ i ∧ i < 60) (hv : 0 ≤ v ∧ v < 65536) (hdg : decode cc pc = .ok (.castore, 1))
    (kk : ∀ (H1 : Heap) (locs1 : List Loc), RM g y sa ta oa f (zApp gt i v) od sv ik tp H1 → va_S (zA4 y sa ta oa) H0 H1 locs1 → W p l e R s m args below meth c H1 locs1 cells slots Q (F0 m (pc + 1) ls rest)) : W p l e R s m args below meth c H locs cells slots Q (F0 m pc ls (.int (zI v) :: .int (zI i) :: .ref ta :: rest)) := by
  obtain ⟨F, G, O, hP, hF, hG, hO, hd, hr⟩ := hX
  refine va_cast (D := g.1) hexec hb hK hP (va_D.four hd (Or.inl rfl) (Or.inr (Or.inl rfl)) (Or.inr (Or.inr (Or.inl rfl))) (Or.inr (Or.inr (Or.inr rfl)))) hS 2 1 rfl rfl (zI_in (by omega) (by decide)) hdg (fun H1 locs hP1 hD1 hS => kk H1 locs ?_ hS)
  rw [zI_cl (by omega), zI_nar (by omega)] at hP1
  exact ⟨F, _, O, hP1, hF, zUpd_is (P := fun z => 0 ≤ z ∧ z < 65536) hi hG hv, hO, hd, hr⟩
end ZRM
/-- t of the 41 numbers of the part i are copied to the part j -/
def zCp (f : Int → Int) (i j t : Int) : Int → Int := fun k => if 41 * j ≤ k ∧ k < 41 * j + t then f (k - 41 * j + 41 * i) else f k
theorem zCp_in {f : Int → Int} {i j t k : Int} (h : 41 * j ≤ k ∧ k < 41 * j + t) : zCp f i j t k = f (k - 41 * j + 41 * i) := if_pos h
theorem zCp_out {f : Int → Int} {i j t k : Int} (h : ¬ (41 * j ≤ k ∧ k < 41 * j + t)) : zCp f i j t k = f k := if_neg h
theorem zCp_s {f : Int → Int} {i j t : Int} (h : i ≠ j) (ht : 0 ≤ t ∧ t < 41) (k : Int) : zCp f i j (t + 1) k = zApp (zCp f i j t) (41 * j + t) (zCp f i j t (41 * i + t)) k := by
  by_cases q : k = 41 * j + t
  · subst q
    rw [zApp_eq, zCp_in (by omega), zCp_out (k := 41 * i + t) (by omega)]
    congr 1; omega
  · rw [zApp_ne q]
    by_cases q2 : 41 * j ≤ k ∧ k < 41 * j + t
    · rw [zCp_in q2, zCp_in (by omega)]
    · rw [zCp_out q2, zCp_out (by omega)]
/-- what the first row holds: the word, the states before it, the snapshot -/
def MF (f : Int → Int) (w : Int → Int) (n : Int) (ee : Nat → Int → Int) (en : Nat → Int) (hc : Int) (u : Int → Int) (un hs : Int) : Prop :=
  SL f 0 w n ∧ (∀ j : Nat, (j : Int) < hc → SL f (41 * (hc - j)) (ee j) (en j)) ∧ (hs = 1 → SL f 205 u un)
theorem SL.mv {f f2 : Int → Int} {b b2 : Int} {w : Int → Int} {n : Int} (q : SL f b w n) (h : ∀ k, 0 ≤ k → k < 41 → f2 (b2 + k) = f (b + k)) : SL f2 b2 w n := by
  obtain ⟨q1, q2, q3⟩ := q
  refine ⟨?_, q2, fun k a1 b1 => ?_⟩
  · have := h 0 (by omega) (by omega)
    rw [show b2 + 0 = b2 by omega, show b + 0 = b by omega] at this
    omega
  · have := h (1 + k) (by omega) (by omega)
    rw [show b2 + (1 + k) = b2 + 1 + k by omega, show b + (1 + k) = b + 1 + k by omega] at this
    have := q3 k a1 b1
    omega
theorem MF.push {f f2 : Int → Int} {w : Int → Int} {n : Int} {ee : Nat → Int → Int} {en : Nat → Int} {hc : Int} {u : Int → Int} {un hs : Int} (q : MF f w n ee en hc u un hs) (hh : 0 ≤ hc ∧ hc ≤ 4) {sv2 : Int} (e : sv2 = min (hc + 1) 4)
    (hA : ∀ k, 0 ≤ k → k < 41 → f2 k = f k) (hB : ∀ k, 205 ≤ k → k < 287 → f2 k = f k) (hC : ∀ k, 0 ≤ k → k < 41 → f2 (41 * sv2 + k) = f k) (hD : ∀ q, 1 ≤ q → q < sv2 → ∀ k, 0 ≤ k → k < 41 → f2 (41 * q + k) = f (41 * (q + (hc + 1 - sv2)) + k)) : MF f2 w n (zPush ee w) (zPush en n) sv2 u un hs := by
  obtain ⟨q1, q2, q3⟩ := q
  refine ⟨q1.mv (fun k a b => by rw [hA _ (by omega) (by omega)]), fun j hj => ?_, fun h => (q3 h).mv (fun k a b => hB _ (by omega) (by omega))⟩
  cases j with
  | zero =>
    rw [zPush_0, zPush_0]
    exact q1.mv (fun k a b => by rw [show 41 * (sv2 - ((0 : Nat) : Int)) + k = 41 * sv2 + k by omega, hC k a b]; congr 1; omega)
  | succ j =>
    rw [zPush_s, zPush_s]
    refine (q2 j (by omega)).mv (fun k a b => ?_)
    rw [show 41 * (sv2 - ((j + 1 : Nat) : Int)) + k = 41 * (sv2 - j - 1) + k by omega, hD (sv2 - j - 1) (by omega) (by omega) k a b]
    congr 1; omega
theorem MF.set0 {f f2 : Int → Int} {w w2 : Int → Int} {n n2 : Int} {ee : Nat → Int → Int} {en : Nat → Int} {hc : Int} {u : Int → Int} {un hs : Int} (q : MF f w n ee en hc u un hs) (hh : 0 ≤ hc ∧ hc ≤ 4) (h : ∀ k, 41 ≤ k → k < 246 → f2 k = f k) (h0 : SL f2 0 w2 n2) : MF f2 w2 n2 ee en hc u un hs := by
  obtain ⟨q1, q2, q3⟩ := q
  exact ⟨h0, fun j hj => (q2 j hj).mv (fun k a b => h _ (by omega) (by omega)), fun z => (q3 z).mv (fun k a b => h _ (by omega) (by omega))⟩
theorem MF.scr {f f2 : Int → Int} {w : Int → Int} {n : Int} {ee : Nat → Int → Int} {en : Nat → Int} {hc : Int} {u : Int → Int} {un hs : Int} (q : MF f w n ee en hc u un hs) (hh : 0 ≤ hc ∧ hc ≤ 4) (h : ∀ k, 0 ≤ k → k < 246 → f2 k = f k) : MF f2 w n ee en hc u un hs :=
  q.set0 hh (fun k a b => h k (by omega) b) (q.1.mv (fun k a b => h _ (by omega) (by omega)))
def AM (g : zG) (y sa ta oa : Nat) (w : Int → Int) (n : Int) (ee : Nat → Int → Int) (en : Nat → Int) (hc : Int) (u : Int → Int) (un hs : Int) (tc : Int → Int) (tn : Int) (H : Heap) : Prop :=
  ∃ f gt od : Int → Int, RM g y sa ta oa f gt od hc hs tn H ∧ MF f w n ee en hc u un hs ∧ ∀ k, 0 ≤ k → k < tn → gt k = tc k
def AMt (g : zG) (y sa ta oa : Nat) (σ : zSg) (H : Heap) : Prop := AM g y sa ta oa σ.1 σ.2.1 σ.2.2.1 σ.2.2.2.1 σ.2.2.2.2.1 σ.2.2.2.2.2.1 σ.2.2.2.2.2.2.1 σ.2.2.2.2.2.2.2.1 σ.2.2.2.2.2.2.2.2.1 σ.2.2.2.2.2.2.2.2.2 H
-- the order of the suffixes, by putting one in after the other
theorem zC_le {P Q : Int → Prop} {a b : Int} (hab : a ≤ b) (h : ∀ q, a ≤ q → q < b → P q → Q q) : zC P a b ≤ zC Q a b := by
  have e : zC Q a b = zC P a b + zS (fun q => zB (Q q) - zB (P q)) a b := by
    show _ = zS (fun q => zB (P q)) a b + _
    rw [← zS_add]
    exact zS_congr fun q _ _ => by omega
  have := zS_bd (f := fun q => zB (Q q) - zB (P q)) (a := a) (b := b) 1 hab (fun q q1 q2 => by
    have := zB_r (P q); have := zB_r (Q q)
    rcases zB_c (P q) with ⟨c, d⟩ | ⟨c, d⟩
    · have := zB_t (h q q1 q2 c); omega
    · omega)
  omega
/-- of the first i places, those in od are sorted -/
def zSrt (w : Int → Int) (n : Int) (od : Int → Int) (i : Int) : Prop := ∀ r, 0 ≤ r → r < i → (0 ≤ od r ∧ od r < i) ∧ zC (fun q => zAh w n q (od r)) 0 i = r
theorem zSrt_0 (w : Int → Int) (n : Int) (od : Int → Int) : zSrt w n od 0 := fun r a b => absurd b (by omega)
theorem zSrt_ord {w : Int → Int} {n : Int} {od : Int → Int} {i r q : Int} (hi : 0 ≤ i ∧ i ≤ n) (h : zSrt w n od i) (a : 0 ≤ r) (b : r < q) (c : q < i) : zAh w n (od r) (od q) := by
  have h1 := h r a (by omega)
  have h2 := h q (by omega) c
  have ne : od r ≠ od q := fun e => by
    have := h1.2; rw [e, h2.2] at this; omega
  rcases zAh_tri (w := w) (n := n) (i := od r) (j := od q) (by omega) (by omega) ne with v | v
  · exact v
  · have := zC_lt (P := fun z => zAh w n z (od q)) (Q := fun z => zAh w n z (od r)) (a := 0) (b := i) (k := od q) (by omega) (by omega) v (zAh_irr w n _) (fun z z1 z2 z3 => zAh_trans (by omega) (by omega) (by omega) z3 v)
    omega
theorem zSrt_step {w : Int → Int} {n : Int} {od od2 : Int → Int} {i k : Int} (hi : 0 ≤ i ∧ i < n) (h : zSrt w n od i) (hk : 0 ≤ k ∧ k ≤ i) (h1 : ∀ r, 0 ≤ r → r < k → od2 r = od r) (h2 : od2 k = i) (h3 : ∀ r, k < r → r ≤ i → od2 r = od (r - 1)) (ha : ∀ r, k ≤ r → r < i → zAh w n i (od r)) (hb : k = 0 ∨ ¬ zAh w n i (od (k - 1))) : zSrt w n od2 (i + 1) := by
  have low : ∀ r, 0 ≤ r → r < k → zAh w n (od r) i := by
    intro r a b
    have hb2 : ¬ zAh w n i (od (k - 1)) := hb.resolve_left (by omega)
    have o1 := h (k - 1) (by omega) (by omega)
    have v : zAh w n (od (k - 1)) i := (zAh_tri (w := w) (n := n) (i := od (k - 1)) (j := i) (by omega) (by omega) (by omega)).resolve_right hb2
    rcases (show r = k - 1 ∨ r < k - 1 by omega) with e | e
    · rw [e]; exact v
    · have o2 := h r a (by omega)
      exact zAh_trans (by omega) (by omega) (by omega) (zSrt_ord (by omega) h a e (by omega)) v
  have cnt : zC (fun q => zAh w n q i) 0 i = k := by
    have lo : k ≤ zC (fun q => zAh w n q i) 0 i := by
      rcases (show k = 0 ∨ 0 < k by omega) with e | e
      · have := zC_bd (fun q => zAh w n q i) (a := 0) (b := i) (by omega); omega
      · have o1 := h (k - 1) (by omega) (by omega)
        have v := low (k - 1) (by omega) (by omega)
        have := zC_lt (P := fun z => zAh w n z (od (k - 1))) (Q := fun z => zAh w n z i) (a := 0) (b := i) (k := od (k - 1)) (by omega) (by omega) v (zAh_irr w n _) (fun z z1 z2 z3 => zAh_trans (by omega) (by omega) (by omega) z3 v)
        omega
    have hi2 : zC (fun q => zAh w n q i) 0 i ≤ k := by
      rcases (show k = i ∨ k < i by omega) with e | e
      · have := zC_bd (fun q => zAh w n q i) (a := 0) (b := i) (by omega); omega
      · have o1 := h k (by omega) e
        have v := ha k (by omega) e
        have := zC_le (P := fun z => zAh w n z i) (Q := fun z => zAh w n z (od k)) (a := 0) (b := i) (by omega) (fun z z1 z2 z3 => zAh_trans (by omega) (by omega) (by omega) z3 v)
        omega
    omega
  intro r a b
  rcases Int.lt_trichotomy r k with v | v | v
  · have o := h r a (by omega)
    rw [h1 r a v]
    exact ⟨by omega, by rw [zC_f (P := fun q => zAh w n q (od r)) (by omega) (fun z => zAh_asym (by omega) (by omega) z (low r a v))]; exact o.2⟩
  · subst v
    rw [h2]
    exact ⟨by omega, by rw [zC_f (P := fun q => zAh w n q i) (by omega) (zAh_irr w n i)]; exact cnt⟩
  · have o := h (r - 1) (by omega) (by omega)
    rw [h3 r v (by omega)]
    exact ⟨by omega, by rw [zC_t (P := fun q => zAh w n q (od (r - 1))) (by omega) (ha (r - 1) (by omega) (by omega)), o.2]; omega⟩

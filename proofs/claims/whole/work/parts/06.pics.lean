-- pictures: a Word (object h, letters at a) holds the n letters w
theorem va_P.frm {D : va_G} {cl : List vw_C} {ws : va_W} {H H1 : Heap} {A : Nat → Prop} (h : va_P D cl ws H) (hk : ∀ q : Nat, q < H.size → ¬ A q → H1[q]? = H[q]?) (hA : ∀ (k : Nat) (q : Nat × va_E), ws[k]? = some q → ¬ A q.1) : va_P D cl ws H1 :=
  h.kept fun k q hq => hk q.1 ((h k q hq).lt) (hA k q hq)
theorem va_P.frm1 {D : va_G} {cl : List vw_C} {a : Nat} {e : va_E} {H H1 : Heap} {A : Nat → Prop} (h : va_P D cl [(a, e)] H) (hk : ∀ q : Nat, q < H.size → ¬ A q → H1[q]? = H[q]?) (hA : ¬ A a) : va_P D cl [(a, e)] H1 :=
  h.frm hk fun k q hq => by
    cases k with
    | zero => cases hq; exact hA
    | succ k => simp at hq
theorem va_P.frm2 {D : va_G} {cl : List vw_C} {a b : Nat} {e e2 : va_E} {H H1 : Heap} {A : Nat → Prop} (h : va_P D cl [(a, e), (b, e2)] H) (hk : ∀ q : Nat, q < H.size → ¬ A q → H1[q]? = H[q]?) (hA : ¬ A a) (hB : ¬ A b) : va_P D cl [(a, e), (b, e2)] H1 :=
  h.frm hk fun k q hq => by
    cases k with
    | zero => cases hq; exact hA
    | succ k =>
      cases k with
      | zero => cases hq; exact hB
      | succ k => simp at hq
theorem va_D.two {A : Nat → Prop} {a b : Nat} {e e2 : va_E} (h : a ≠ b) (ha : A a) (hb : A b) : va_D A [(a, e), (b, e2)] := by
  refine ⟨fun i j p q hi hj hpq => ?_, fun k q hk => ?_⟩
  · match i, j with
    | 0, 0 => rfl
    | 0, 1 => cases hi; cases hj; exact absurd hpq h
    | 1, 0 => cases hi; cases hj; exact absurd hpq.symm h
    | 1, 1 => rfl
    | 0, j + 2 => simp at hj
    | 1, j + 2 => simp at hj
    | i + 2, _ => simp at hi
  · match k with
    | 0 => cases hk; exact ha
    | 1 => cases hk; exact hb
    | k + 2 => simp at hk
theorem va_D.one {A : Nat → Prop} {a : Nat} {e : va_E} (ha : A a) : va_D A [(a, e)] := by
  refine ⟨fun i j p q hi hj hpq => ?_, fun k q hk => ?_⟩
  · match i, j with
    | 0, 0 => rfl
    | 0, j + 1 => simp at hj
    | i + 1, _ => simp at hi
  · match k with
    | 0 => cases hk; exact ha
    | k + 1 => simp at hk
def PW (g : zG) (h a : Nat) (w : Int → Int) (n : Int) (H : Heap) : Prop :=
  (0 ≤ n ∧ n ≤ 40) ∧ (∀ k, 0 ≤ k → k < n → 0 ≤ w k ∧ w k ≤ 25) ∧ ∃ f : Nat → Int32, va_P g.1 vwCl [(h, .inr (3, [.ref a, .int (zI n)])), (a, .inl (g.2.1, 40, .inl f))] H ∧ ∀ k, 0 ≤ k → k < n → f k.toNat = zI (w k)
theorem PW.frm {g : zG} {h a : Nat} {w : Int → Int} {n : Int} {H H1 : Heap} {A : Nat → Prop} (p : PW g h a w n H) (hk : ∀ q : Nat, q < H.size → ¬ A q → H1[q]? = H[q]?) (h1 : ¬ A h) (h2 : ¬ A a) : PW g h a w n H1 := by
  obtain ⟨hn, hw, f, hP, hf⟩ := p
  exact ⟨hn, hw, f, hP.frm2 hk h1 h2, hf⟩
theorem PW.recv {g : zG} {s : State} {h a : Nat} {w : Int → Int} {n : Int} {H : Heap} (hK : zK g s) (p : PW g h a w n H) : ∃ cell : Cell, H[h]? = some cell ∧ cell.vm.isStatics = false ∧ s.vm.findClass RX8 = some cell.cls := by
  obtain ⟨hn, hw, f, hP, hf⟩ := p
  exact va_recv hK hP (ci := 3) (q0 := 0) rfl rfl
theorem PW.congr {g : zG} {h a : Nat} {w w2 : Int → Int} {n : Int} {H : Heap} (p : PW g h a w n H) (e : ∀ k, 0 ≤ k → k < n → w2 k = w k) : PW g h a w2 n H := by
  obtain ⟨hn, hw, f, hP, hf⟩ := p
  exact ⟨hn, fun k h1 h2 => by rw [e k h1 h2]; exact hw k h1 h2, f, hP, fun k h1 h2 => by rw [e k h1 h2]; exact hf k h1 h2⟩

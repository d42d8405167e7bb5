-- pictures: a Word (object h, letters at a) holds the n letters w
theorem va_P.frm {D : va_G} {cl : List vw_C} {ws : va_W} {H H1 : Heap} {A : Nat → Prop} (h : va_P D cl ws H) (hk : ∀ q : Nat, q < H.size → ¬ A q → H1[q]? = H[q]?) (hA : ∀ (k : Nat) (q : Nat × va_E), ws[k]? = some q → ¬ A q.1) : va_P D cl ws H1 :=
  h.kept fun k q hq => hk q.1 ((h k q hq).lt) (hA k q hq)
theorem va_P.frm1 {D : va_G} {cl : List vw_C} {a : Nat} {e : va_E} {H H1 : Heap} {A : Nat → Prop} (h : va_P D cl [(a, e)] H) (hk : ∀ q : Nat, q < H.size → ¬ A q → H1[q]? = H[q]?) (hA : ¬ A a) : va_P D cl [(a, e)] H1 :=
  h.frm hk fun k q hq => by
    cases k with
    | zero => cases hq; exact hA
    | succ k => simp at hq
theorem va_P.frm2 {D : va_G} {cl : List vw_C} {a b : Nat} {e e2 : va_E} {H H1 : Heap} {A : Nat → Prop} (h : va_P D cl [(a, e), (b, e2)] H) (hk : ∀ q : Nat, q < H.size → ¬ A q → H1[q]? = H[q]?) (hA : ¬ A a) (hB : ¬ A b) : va_P D cl [(a, e), (b, e2)] H1 :=
  h.frm hk fun k q hq => by
    cases k with
    | zero => cases hq; exact hA
    | succ k =>
      cases k with
      | zero => cases hq; exact hB
      | succ k => simp at hq
theorem va_D.two {A : Nat → Prop} {a b : Nat} {e e2 : va_E} (h : a ≠ b) (ha : A a) (hb : A b) : va_D A [(a, e), (b, e2)] := by
  refine ⟨fun i j p q hi hj hpq => ?_, fun k q hk => ?_⟩
  · match i, j with
    | 0, 0 => rfl
    | 0, 1 => cases hi; cases hj; exact absurd hpq h
    | 1, 0 => cases hi; cases hj; exact absurd hpq.symm h
    | 1, 1 => rfl
    | 0, j + 2 => simp at hj
    | 1, j + 2 => simp at hj
    | i + 2, _ => simp at hi
  · match k with
    | 0 => cases hk; exact ha
    | 1 => cases hk; exact hb
    | k + 2 => simp at hk
theorem va_D.one {A : Nat → Prop} {a : Nat} {e : va_E} (ha : A a) : va_D A [(a, e)] := by
  refine ⟨fun i j p q hi hj hpq => ?_, fun k q hk => ?_⟩
  · match i, j with
    | 0, 0 => rfl
    | 0, j + 1 => simp at hj
    | i + 1, _ => simp at hi
  · match k with
    | 0 => cases hk; exact ha
    | k + 1 => simp at hk
def PW (g : zG) (h a : Nat) (w : Int → Int) (n : Int) (H : Heap) : Prop :=
  (0 ≤ n ∧ n ≤ 40) ∧ (∀ k, 0 ≤ k → k < n → 0 ≤ w k ∧ w k ≤ 25) ∧ ∃ f : Nat → Int32, va_P g.1 vwCl [(h, .inr (3, [.ref a, .int (zI n)])), (a, .inl (g.2.1, 40, .inl f))] H ∧ (∀ k, 0 ≤ k → k < n → f k.toNat = zI (w k)) ∧ h ≠ a
theorem PW.frm {g : zG} {h a : Nat} {w : Int → Int} {n : Int} {H H1 : Heap} {A : Nat → Prop} (p : PW g h a w n H) (hk : ∀ q : Nat, q < H.size → ¬ A q → H1[q]? = H[q]?) (h1 : ¬ A h) (h2 : ¬ A a) : PW g h a w n H1 := by
  obtain ⟨hn, hw, f, hP, hf, hha⟩ := p
  exact ⟨hn, hw, f, hP.frm2 hk h1 h2, hf, hha⟩
theorem PW.recv {g : zG} {s : State} {h a : Nat} {w : Int → Int} {n : Int} {H : Heap} (hK : zK g s) (p : PW g h a w n H) : ∃ cell : Cell, H[h]? = some cell ∧ cell.vm.isStatics = false ∧ s.vm.findClass RX8 = some cell.cls := by
  obtain ⟨hn, hw, f, hP, hf, hha⟩ := p
  exact va_recv hK hP (ci := 3) (q0 := 0) rfl rfl
theorem PW.congr {g : zG} {h a : Nat} {w w2 : Int → Int} {n : Int} {H : Heap} (p : PW g h a w n H) (e : ∀ k, 0 ≤ k → k < n → w2 k = w k) : PW g h a w2 n H := by
  obtain ⟨hn, hw, f, hP, hf, hha⟩ := p
  exact ⟨hn, fun k h1 h2 => by rw [e k h1 h2]; exact hw k h1 h2, f, hP, fun k h1 h2 => by rw [e k h1 h2]; exact hf k h1 h2, hha⟩
def zA2 (h a : Nat) : Nat → Prop := fun q => q = h ∨ q = a
theorem zA2_no {h a q : Nat} (h1 : q ≠ h) (h2 : q ≠ a) : ¬ zA2 h a q := fun x => x.elim h1 h2
def zApp (w : Int → Int) (n x : Int) : Int → Int := fun k => if k = n then x else w k
/-- w's first n letters, then those of o from i on -/
def zExt (w : Int → Int) (n : Int) (o : Int → Int) (i : Int) : Int → Int := fun q => if q < n then w q else o (i + (q - n))
def zEqW (w : Int → Int) (n : Int) (o : Int → Int) (q : Int) : Prop := n = q ∧ ∀ k, 0 ≤ k → k < n → w k = o k
theorem zApp_eq (w : Int → Int) (n x : Int) : zApp w n x n = x := by unfold zApp; exact if_pos rfl
theorem zApp_ne {w : Int → Int} {n x k : Int} (h : k ≠ n) : zApp w n x k = w k := by unfold zApp; exact if_neg h
theorem zExt_lo {w o : Int → Int} {n i q : Int} (h : q < n) : zExt w n o i q = w q := by unfold zExt; exact if_pos h
theorem zExt_hi {w o : Int → Int} {n i q : Int} (h : n ≤ q) : zExt w n o i q = o (i + (q - n)) := by unfold zExt; exact if_neg (by omega)
theorem zExt_step {w o : Int → Int} {n i k : Int} (h : i ≤ k) : ∀ q, q < n + (k - i) + 1 → zExt w n o i q = zApp (zExt w n o i) (n + (k - i)) (o k) q := by
  intro q hq
  by_cases e : q = n + (k - i)
  · subst e
    rw [zApp_eq, zExt_hi (by omega), show i + (n + (k - i) - n) = k by omega]
  · rw [zApp_ne e]

-- counting, and what is told of factors by their ends
noncomputable def zC (P : Int → Prop) (a b : Int) : Int := zS (fun k => zB (P k)) a b
theorem zC_nil (P : Int → Prop) {a b : Int} (h : b ≤ a) : zC P a b = 0 := zS_nil _ h
theorem zC_t {P : Int → Prop} {a b : Int} (h : a ≤ b) (hp : P b) : zC P a (b + 1) = zC P a b + 1 := by
  have e : zC P a (b + 1) = zC P a b + zB (P b) := zS_succ _ h
  rw [e, zB_t hp]
theorem zC_f {P : Int → Prop} {a b : Int} (h : a ≤ b) (hp : ¬ P b) : zC P a (b + 1) = zC P a b := by
  have e : zC P a (b + 1) = zC P a b + zB (P b) := zS_succ _ h
  rw [e, zB_f hp]; omega
theorem zC_bd (P : Int → Prop) {a b : Int} (h : a ≤ b) : 0 ≤ zC P a b ∧ zC P a b ≤ b - a := by
  have := zS_bd (f := fun k => zB (P k)) 1 h (fun k _ _ => zB_r (P k))
  have e : zC P a b = zS (fun k => zB (P k)) a b := rfl
  omega
theorem zC_congr {P Q : Int → Prop} {a b : Int} (h : ∀ k, a ≤ k → k < b → (P k ↔ Q k)) : zC P a b = zC Q a b := zS_congr fun k h1 h2 => zB_eq (h k h1 h2)
/-- the number that has a property; for properties that at most one has -/
noncomputable def zThe (P : Int → Prop) : Int := Classical.epsilon P
theorem zThe_un {P : Int → Prop} {r : Int} (h : P r) (u : ∀ x, P x → x = r) : zThe P = r := u _ (Classical.epsilon_spec ⟨r, h⟩)
/-- how often the factor of k letters that ends at t stands -/
noncomputable def zHow (w : Int → Int) (n t k : Int) : Int := zC (fun q => k ≤ zAA w t q) 1 (n + 1)
def zIsFst (w : Int → Int) (t k r : Int) : Prop := k ≤ r ∧ r ≤ t ∧ k ≤ zAA w t r ∧ ∀ q, k ≤ q → q < r → ¬ k ≤ zAA w t q
noncomputable def zFst (w : Int → Int) (t k : Int) : Int := zThe (zIsFst w t k)
theorem zFst_un {w : Int → Int} {t k r : Int} (h : zIsFst w t k r) : zFst w t k = r := zThe_un h fun x hx => by
  obtain ⟨a1, a2, a3, a4⟩ := h
  obtain ⟨b1, b2, b3, b4⟩ := hx
  rcases Int.lt_trichotomy x r with q | q | q
  · exact absurd b3 (a4 x b1 q)
  · exact q
  · exact absurd a3 (b4 r a1 q)
def zIsLst (w : Int → Int) (n t k r : Int) : Prop := t ≤ r ∧ r ≤ n ∧ k ≤ zAA w t r ∧ ∀ q, r < q → q ≤ n → ¬ k ≤ zAA w t q
noncomputable def zLst (w : Int → Int) (n t k : Int) : Int := zThe (zIsLst w n t k)
theorem zLst_un {w : Int → Int} {n t k r : Int} (h : zIsLst w n t k r) : zLst w n t k = r := zThe_un h fun x hx => by
  obtain ⟨a1, a2, a3, a4⟩ := h
  obtain ⟨b1, b2, b3, b4⟩ := hx
  rcases Int.lt_trichotomy x r with q | q | q
  · exact absurd a3 (b4 r q a2)
  · exact q
  · exact absurd b3 (a4 x q b2)
def zIsLC (w : Int → Int) (n t k r : Int) : Prop := k ≤ r ∧ (∃ q, 1 ≤ q ∧ q ≤ n ∧ zAA w t q = r) ∧ ∀ q, 1 ≤ q → q ≤ n → k ≤ zAA w t q → r ≤ zAA w t q
noncomputable def zLC (w : Int → Int) (n t k : Int) : Int := zThe (zIsLC w n t k)
theorem zLC_un {w : Int → Int} {n t k r : Int} (h : zIsLC w n t k r) : zLC w n t k = r := zThe_un h fun x hx => by
  obtain ⟨a1, ⟨q1, a2, a3, a4⟩, a5⟩ := h
  obtain ⟨b1, ⟨q2, b2, b3, b4⟩, b5⟩ := hx
  have h1 := a5 q2 b2 b3 (by omega)
  have h2 := b5 q1 a2 a3 (by omega)
  omega
/-- the longest end of the factor (k letters, ending at t) that stands at more ends -/
noncomputable def zLL (w : Int → Int) (n t k : Int) : Int := zM (fun q => @ite _ (zAA w t q < k) (Classical.propDecidable _) (zAA w t q) 0) 1 (n + 1)
theorem zLL_t {w : Int → Int} {t k q : Int} (h : 1 ≤ q) (h2 : zAA w t q < k) : zM (fun q => @ite _ (zAA w t q < k) (Classical.propDecidable _) (zAA w t q) 0) 1 (q + 1) = max (zM (fun q => @ite _ (zAA w t q < k) (Classical.propDecidable _) (zAA w t q) 0) 1 q) (zAA w t q) := by
  have e := zM_succ (fun q => @ite _ (zAA w t q < k) (Classical.propDecidable _) (zAA w t q) 0) h
  rw [e]
  show max _ (@ite _ (zAA w t q < k) (Classical.propDecidable _) (zAA w t q) 0) = _
  rw [if_pos h2]
theorem zLL_f {w : Int → Int} {t k q : Int} (h : 1 ≤ q) (h2 : ¬ zAA w t q < k) : zM (fun q => @ite _ (zAA w t q < k) (Classical.propDecidable _) (zAA w t q) 0) 1 (q + 1) = zM (fun q => @ite _ (zAA w t q < k) (Classical.propDecidable _) (zAA w t q) 0) 1 q := by
  have e := zM_succ (fun q => @ite _ (zAA w t q < k) (Classical.propDecidable _) (zAA w t q) 0) h
  rw [e]
  show max _ (@ite _ (zAA w t q < k) (Classical.propDecidable _) (zAA w t q) 0) = _
  rw [if_neg h2]
  have := (zM_spec (fun q => @ite _ (zAA w t q < k) (Classical.propDecidable _) (zAA w t q) 0) 1 q).1
  omega
/-- the longest factor that ends at t and at an earlier place -/
noncomputable def zKn (w : Int → Int) (t : Int) : Int := zM (zAA w t) 1 t
theorem zKn_bd (w : Int → Int) {t : Int} (h : 1 ≤ t) : 0 ≤ zKn w t ∧ zKn w t < t := by
  obtain ⟨a, b, d⟩ := zM_spec (zAA w t) 1 t
  refine ⟨a, ?_⟩
  show zM (zAA w t) 1 t < t
  rcases d with d | ⟨q, h1, h2, h3⟩
  · omega
  · have := zAA_bd (w := w) (i := t) (j := q) (by omega) (by omega)
    omega
noncomputable def zTw (w : Int → Int) (n : Int) : Int := zM (zKn w) 1 (n + 1)
noncomputable def zUf (w : Int → Int) (t : Int) : Int := t - zKn w t
noncomputable def zUn (w : Int → Int) (q : Int) : Int := zS (zUf w) 1 (q + 1)
theorem zUf_bd (w : Int → Int) {t : Int} (h : 1 ≤ t) : 1 ≤ zUf w t ∧ zUf w t ≤ t := by
  have := zKn_bd w h
  unfold zUf; omega
/-- the lengths of the longest factors of classes that end first at t -/
def zCP (w : Int → Int) (n t k : Int) : Prop := zKn w t < k ∧ (k = t ∨ ∃ q, t < q ∧ q ≤ n ∧ zAA w t q = k)
noncomputable def zCE (w : Int → Int) (n t : Int) : Int := zC (zCP w n t) 1 (t + 1)
noncomputable def zCl (w : Int → Int) (n : Int) : Int := zS (zCE w n) 1 (n + 1)

-- counting, suffixes by their longest known ends
theorem zC_below {a b x : Int} {P : Int → Prop} (hx : a ≤ x ∧ x ≤ b) (h : ∀ k, a ≤ k → k < b → (P k ↔ k < x)) : zC P a b = x - a := by
  have e := zS_split (fun k => zB (P k)) hx.1 hx.2
  have e1 : zS (fun k => zB (P k)) a x = x - a := by
    refine zS_ind (f := fun k => zB (P k)) (P := fun d z => d ≤ x → z = d - a) (fun _ => by omega) (fun d z hd ih hdx => ?_) x hx.1 (Int.le_refl x)
    rw [ih (by omega), zB_t ((h d hd (by omega)).mpr (by omega))]; omega
  have e2 : zS (fun k => zB (P k)) x b = 0 := zS_zero fun k h1 h2 => zB_f (fun q => by have := (h k (by omega) h2).mp q; omega)
  show zS (fun k => zB (P k)) a b = x - a
  omega
theorem zNew_iff {w : Int → Int} {i t : Int} (hi : 0 ≤ i) (ht : i < t) : zNew w i (t - i) ↔ i < t - zKn w t := by
  obtain ⟨a0, a1, a2⟩ := zM_spec (zAA w t) 1 t
  constructor
  · intro h
    rcases Int.lt_or_le i (t - zKn w t) with q | q
    · exact q
    · rcases a2 with a2 | ⟨k, k1, k2, k3⟩
      · exact absurd q (by show ¬ t - zM (zAA w t) 1 t ≤ i; omega)
      · have e : zKn w t = zAA w t k := k3
        have := (zAA_ge (w := w) (i := t) (j := k) (m := t - i) (by omega) (by omega) (by omega)).mp (by omega)
        refine absurd ?_ (h (k - (t - i)) (by omega) (by omega))
        rw [show t - (t - i) = i by omega] at this
        exact zSm_symm this.2.2
  · intro h k k1 k2 k3
    have := a1 (k + (t - i)) (by omega) (by omega)
    have e : zKn w t = zM (zAA w t) 1 t := rfl
    have h2 := (zAA_ge (w := w) (i := t) (j := k + (t - i)) (m := t - i) (by omega) (by omega) (by omega)).mpr ⟨by omega, by omega, by
      rw [show t - (t - i) = i by omega, show k + (t - i) - (t - i) = k by omega]; exact zSm_symm k3⟩
    omega
noncomputable def zKr (w : Int → Int) (x i : Int) : Int := zC (fun t => zNew w i (t - i)) (i + 1) (x + 1)
noncomputable def zKd (w : Int → Int) (x i : Int) : Int := zS (zKr w x) 0 i
theorem zKd_un (w : Int → Int) {x : Int} (hx : 0 ≤ x) : zKd w x x = zUn w x := by
  have e1 : zKd w x x = zS (fun i => zS (fun t => zB (i < t ∧ zNew w i (t - i))) 1 (x + 1)) 0 x := by
    refine zS_congr fun i h1 h2 => ?_
    have e := zS_split (fun t => zB (i < t ∧ zNew w i (t - i))) (a := 1) (b := i + 1) (c := x + 1) (by omega) (by omega)
    have e2 : zS (fun t => zB (i < t ∧ zNew w i (t - i))) 1 (i + 1) = 0 := zS_zero fun t a b => zB_f (fun q => by omega)
    have e3 : zKr w x i = zS (fun t => zB (i < t ∧ zNew w i (t - i))) (i + 1) (x + 1) := zS_congr fun t a b => zB_eq ⟨fun q => ⟨by omega, q⟩, fun q => q.2⟩
    omega
  rw [e1, zS_swap]
  refine zS_congr fun t h1 h2 => ?_
  have hk := zKn_bd w (t := t) h1
  have e := zC_below (P := fun i => i < t ∧ zNew w i (t - i)) (a := 0) (b := x) (x := t - zKn w t) (by omega) (fun i a b => ⟨fun q => (zNew_iff a q.1).mp q.2, fun q => ⟨by omega, (zNew_iff a (by omega)).mpr q⟩⟩)
  show zC (fun i => i < t ∧ zNew w i (t - i)) 0 x = t - zKn w t
  omega
theorem zKr_bd (w : Int → Int) {x i : Int} (h : 0 ≤ i ∧ i ≤ x) : 0 ≤ zKr w x i ∧ zKr w x i ≤ x := by
  have := zC_bd (fun t => zNew w i (t - i)) (a := i + 1) (b := x + 1) (by omega)
  unfold zKr; omega
def zSsP (w : Int → Int) (x i d : Int) : Prop := (x < 0 ∨ i + 2 * d = x) ∧ zSqP w i d
theorem zSsP_all (w : Int → Int) {n x : Int} (h : x < 0) : zCC (zSsP w x) n n = zCC (zSqP w) n n :=
  zS_congr fun i _ _ => zC_congr fun d _ _ => ⟨fun q => q.2, fun q => ⟨Or.inl h, q⟩⟩
theorem zSsP_end (w : Int → Int) {n x : Int} (h : 0 ≤ x ∧ x ≤ n) : zCC (zSsP w x) n n = zSE w x := by
  rw [← zSE_pairs w h.1 h.2]
  exact zS_congr fun i _ _ => zC_congr fun d _ _ => ⟨fun q => ⟨q.1.resolve_left (by omega), q.2⟩, fun q => ⟨Or.inr q.1, q.2⟩⟩
theorem zch_zero {w : Int → Int} {i j b : Int} {k : Nat} (h : zch w i j k b = 0) : ∀ m, zch w i j (k + m) b = 0 := by
  intro m
  induction m with
  | zero => exact h
  | succ m ih => rw [show k + (m + 1) = (k + m) + 1 by omega, zch_end, ih, zEG_0 w i j (Int.le_refl 0)]
/-- the greatest number of letters alike, over two places -/
noncomputable def zTwR (w : Int → Int) (n : Int) : Int := zM (fun i => zM (zAF w n i) (i + 1) n) 0 n
theorem zM_le {f : Int → Int} {a b r : Int} (h0 : 0 ≤ r) (h : ∀ k, a ≤ k → k < b → f k ≤ r) : zM f a b ≤ r := by
  obtain ⟨-, -, c⟩ := zM_spec f a b
  rcases c with c | ⟨k, k1, k2, k3⟩
  · omega
  · have := h k k1 k2; omega
theorem zM_ge (f : Int → Int) {a b k : Int} (h1 : a ≤ k) (h2 : k < b) : f k ≤ zM f a b := (zM_spec f a b).2.1 k h1 h2
theorem zM_nn (f : Int → Int) (a b : Int) : 0 ≤ zM f a b := (zM_spec f a b).1
theorem zTw_A {w : Int → Int} {n i j : Int} (h : 0 ≤ i ∧ i < j ∧ j < n) : zAF w n i j ≤ zTw w n := by
  have bd := zAF_bd (w := w) (n := n) (i := i) (j := j) (by omega) (by omega)
  have nn : 0 ≤ zTw w n := zM_nn (zKn w) 1 (n + 1)
  by_cases q : zAF w n i j = 0
  · omega
  · have h3 := ((zAF_ge (w := w) (n := n) (i := i) (j := j) (m := zAF w n i j) (by omega) (by omega) bd.1).mp (Int.le_refl _)).2.2
    generalize zAF w n i j = x at *
    have h4 := (zAA_ge (w := w) (i := j + x) (j := i + x) (m := x) (by omega) (by omega) bd.1).mpr ⟨by omega, by omega, by
      rw [show j + x - x = j by omega, show i + x - x = i by omega]; exact zSm_symm h3⟩
    have h5 : zAA w (j + x) (i + x) ≤ zKn w (j + x) := zM_ge (zAA w (j + x)) (a := 1) (b := j + x) (k := i + x) (by omega) (by omega)
    have h6 : zKn w (j + x) ≤ zTw w n := zM_ge (zKn w) (a := 1) (b := n + 1) (k := j + x) (by omega) (by omega)
    omega
theorem zTw_B {w : Int → Int} {n t q : Int} (h : 1 ≤ q ∧ q < t ∧ t ≤ n) : zAA w t q ≤ zTwR w n := by
  have bd := zAA_bd (w := w) (i := t) (j := q) (by omega) (by omega)
  have nn : 0 ≤ zTwR w n := zM_nn (fun i => zM (zAF w n i) (i + 1) n) 0 n
  by_cases z : zAA w t q = 0
  · omega
  · have h3 := (zAA_ge (w := w) (i := t) (j := q) (m := zAA w t q) (by omega) (by omega) bd.1).mp (Int.le_refl _)
    generalize zAA w t q = x at *
    have h4 := (zAF_ge (w := w) (n := n) (i := q - x) (j := t - x) (m := x) (by omega) (by omega) bd.1).mpr ⟨by omega, by omega, zSm_symm h3.2.2⟩
    have h5 : zAF w n (q - x) (t - x) ≤ zM (zAF w n (q - x)) (q - x + 1) n := zM_ge (zAF w n (q - x)) (by omega) (by omega)
    have h6 : zM (zAF w n (q - x)) (q - x + 1) n ≤ zTwR w n := zM_ge (fun i => zM (zAF w n i) (i + 1) n) (a := 0) (b := n) (k := q - x) (by omega) (by omega)
    omega
theorem zTwR_eq (w : Int → Int) (n : Int) : zTwR w n = zTw w n := by
  have a : zTwR w n ≤ zTw w n := zM_le (zM_nn _ _ _) fun i h1 h2 => zM_le (zM_nn _ _ _) fun j h3 h4 => zTw_A ⟨h1, by omega, h4⟩
  have b : zTw w n ≤ zTwR w n := zM_le (zM_nn _ _ _) fun t h1 h2 => zM_le (zM_nn _ _ _) fun q h3 h4 => zTw_B ⟨h3, h4, by omega⟩
  omega

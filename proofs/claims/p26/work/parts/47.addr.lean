-- 22 addresses in the order in which they are made
def zRho (i : Nat) : Nat := [1, 2, 3, 4, 5, 6, 9, 10, 11, 12, 13, 14, 15, 16, 20, 21, 0, 7, 8, 17, 18, 19].getD i 0
def zV (L : List Nat) (k : Nat) : Nat := L.getD k 0
theorem zRho_lt : ∀ i, i < 22 → zRho i < 22 := by decide +kernel
theorem zRho_inj : ∀ i, i < 22 → ∀ j, j < 22 → zRho i = zRho j → i = j := by decide +kernel
theorem zMono {v : Nat → Nat} (hv : ∀ i, i < 21 → v i < v (i + 1)) : ∀ b a, a < b → b < 22 → v a < v b := by
  intro b
  induction b with
  | zero => intro a h; omega
  | succ b ih =>
    intro a h h2
    have h3 := hv b (by omega)
    rcases (show a = b ∨ a < b by omega) with q | q
    · rw [q]; exact h3
    · exact Nat.lt_trans (ih a q (by omega)) h3
theorem zAd_inj {v : Nat → Nat} (hv : ∀ i, i < 21 → v i < v (i + 1)) : zInj (fun i => v (zRho i)) := by
  intro i j hi hj e
  have e : v (zRho i) = v (zRho j) := e
  have a := zRho_lt i hi
  have b := zRho_lt j hj
  refine zRho_inj i hi j hj ?_
  rcases Nat.lt_trichotomy (zRho i) (zRho j) with q | q | q
  · have := zMono hv _ _ q b; omega
  · exact q
  · have := zMono hv _ _ q a; omega
theorem zAd_lo {v : Nat → Nat} (hv : ∀ i, i < 21 → v i < v (i + 1)) : ∀ i, i < 22 → v 0 ≤ v (zRho i) := by
  intro i hi
  have a := zRho_lt i hi
  rcases (show zRho i = 0 ∨ 0 < zRho i by omega) with q | q
  · rw [q]; exact Nat.le_refl _
  · exact Nat.le_of_lt (zMono hv _ _ q a)
theorem zAd_up {x0 x1 x2 x3 x4 x5 x6 x7 x8 x9 x10 x11 x12 x13 x14 x15 x16 x17 x18 x19 x20 x21 : Nat} (k : x0 < x1 ∧ x1 < x2 ∧ x2 < x3 ∧ x3 < x4 ∧ x4 < x5 ∧ x5 < x6 ∧ x6 < x7 ∧ x7 < x8 ∧ x8 < x9 ∧ x9 < x10 ∧ x10 < x11 ∧ x11 < x12 ∧ x12 < x13 ∧ x13 < x14 ∧ x14 < x15 ∧ x15 < x16 ∧ x16 < x17 ∧ x17 < x18 ∧ x18 < x19 ∧ x19 < x20 ∧ x20 < x21) : ∀ i, i < 21 → zV [x0, x1, x2, x3, x4, x5, x6, x7, x8, x9, x10, x11, x12, x13, x14, x15, x16, x17, x18, x19, x20, x21] i < zV [x0, x1, x2, x3, x4, x5, x6, x7, x8, x9, x10, x11, x12, x13, x14, x15, x16, x17, x18, x19, x20, x21] (i + 1) := fun i hi => match i, hi with
  | 0, _ => k.1
  | 1, _ => k.2.1
  | 2, _ => k.2.2.1
  | 3, _ => k.2.2.2.1
  | 4, _ => k.2.2.2.2.1
  | 5, _ => k.2.2.2.2.2.1
  | 6, _ => k.2.2.2.2.2.2.1
  | 7, _ => k.2.2.2.2.2.2.2.1
  | 8, _ => k.2.2.2.2.2.2.2.2.1
  | 9, _ => k.2.2.2.2.2.2.2.2.2.1
  | 10, _ => k.2.2.2.2.2.2.2.2.2.2.1
  | 11, _ => k.2.2.2.2.2.2.2.2.2.2.2.1
  | 12, _ => k.2.2.2.2.2.2.2.2.2.2.2.2.1
  | 13, _ => k.2.2.2.2.2.2.2.2.2.2.2.2.2.1
  | 14, _ => k.2.2.2.2.2.2.2.2.2.2.2.2.2.2.1
  | 15, _ => k.2.2.2.2.2.2.2.2.2.2.2.2.2.2.2.1
  | 16, _ => k.2.2.2.2.2.2.2.2.2.2.2.2.2.2.2.2.1
  | 17, _ => k.2.2.2.2.2.2.2.2.2.2.2.2.2.2.2.2.2.1
  | 18, _ => k.2.2.2.2.2.2.2.2.2.2.2.2.2.2.2.2.2.2.1
  | 19, _ => k.2.2.2.2.2.2.2.2.2.2.2.2.2.2.2.2.2.2.2.1
  | 20, _ => k.2.2.2.2.2.2.2.2.2.2.2.2.2.2.2.2.2.2.2.2
  | i + 21, hi => absurd hi (by omega)
theorem va_P.refs {D : va_G} {cl : List vw_C} {a N : Nat} {c : ClassId} {f f2 : Nat → Option Nat} {H : Heap} (h : ∀ k, k < N → f k = f2 k) (p : va_P D cl [(a, .inl (c, N, .inr (.inr (.inr (.inr f)))))] H) : va_P D cl [(a, .inl (c, N, .inr (.inr (.inr (.inr f2)))))] H := by
  refine va_P.one ?_
  have e : H[a]? = some (vp_cell c (N, .inr (.inr (.inr (.inr f))))) := p 0 _ rfl
  show H[a]? = some (vp_cell c (N, .inr (.inr (.inr (.inr f2)))))
  rw [e, vp_cell_q, vp_cell_q]
  have e2 : (fun j : Fin N => va_rf (f j.val)) = (fun j => va_rf (f2 j.val)) := funext fun j => by rw [h j.val j.isLt]
  unfold arrV
  rw [e2]

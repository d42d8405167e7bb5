-- the root of a run
section ZRT
variable {w : Int → Int} {d i t : Int}
theorem zLs_irr {a : Int} : ¬ zLs w d a a := by
  rintro ⟨x, h1, h2, h3, h4⟩; omega
theorem zLs_trans {a b c : Int} (h1 : zLs w d a b) (h2 : zLs w d b c) : zLs w d a c := by
  obtain ⟨x, x1, x2, x3, x4⟩ := h1
  obtain ⟨y, y1, y2, y3, y4⟩ := h2
  rcases Int.lt_trichotomy x y with q | q | q
  · exact ⟨x, x1, x2, fun k k1 k2 => (x3 k k1 k2).trans (y3 k k1 (by omega)), by rw [← y3 x x1 q]; exact x4⟩
  · subst q
    exact ⟨x, x1, x2, fun k k1 k2 => (x3 k k1 k2).trans (y3 k k1 k2), by omega⟩
  · exact ⟨y, y1, y2, fun k k1 k2 => (x3 k k1 (by omega)).trans (y3 k k1 k2), by rw [x3 y y1 q]; exact y4⟩
theorem zPer_at (hp : zPer w i t d) {q : Int} (h1 : i ≤ q) (h2 : q + d < t) : w q = w (q + d) := by
  have := hp (q - i) (by omega) (by omega)
  rw [show i + (q - i) = q by omega, show i + d + (q - i) = q + d by omega] at this
  exact this
theorem zPer_up (hp : zPer w i t d) (hd : 0 < d) : ∀ (m : Nat) {x : Int}, i ≤ x → x + d * m < t → w (x + d * m) = w x := by
  intro m
  induction m with
  | zero => intro x _ _; rw [show ((0 : Nat) : Int) = 0 from rfl, Int.mul_zero, Int.add_zero]
  | succ m ih =>
    intro x h1 h2
    have e : d * ((m + 1 : Nat) : Int) = d * (m : Int) + d := by rw [show ((m + 1 : Nat) : Int) = (m : Int) + 1 by omega, Int.mul_add, Int.mul_one]
    have nn : 0 ≤ d * (m : Int) := Int.mul_nonneg (by omega) (by omega)
    rw [e] at h2 ⊢
    rw [← ih h1 (by omega)]
    have := zPer_at hp (q := x + d * m) (by omega) (by omega)
    rw [show x + (d * (m : Int) + d) = x + d * m + d by omega]
    exact this.symm
theorem zPer_eq (hp : zPer w i t d) (hd : 0 < d) {x y c : Int} (hx : i ≤ x ∧ x < t) (hy : i ≤ y ∧ y < t) (h : x - y = d * c) : w x = w y := by
  rcases Int.lt_or_le c 0 with q | q
  · have e : d * (((-c).toNat : Nat) : Int) = - (d * c) := by rw [show (((-c).toNat : Nat) : Int) = -c by omega, Int.mul_neg]
    have := zPer_up hp hd (-c).toNat (x := x) hx.1 (by rw [e]; omega)
    rw [e, show x + -(d * c) = y by omega] at this
    exact this.symm
  · have e : d * ((c.toNat : Nat) : Int) = d * c := by rw [show ((c.toNat : Nat) : Int) = c by omega]
    have := zPer_up hp hd c.toNat (x := y) hy.1 (by rw [e]; omega)
    rw [e, show y + d * c = x by omega] at this
    exact this
theorem zRoot_sp1 (hp : zPer w i t d) (h : 0 < d ∧ i + 2 * d ≤ t) : ∀ m : Nat, i + 1 + (m : Int) ≤ t - d + 1 → i ≤ zRootTo w d i (i + 1 + m) ∧ zRootTo w d i (i + 1 + m) < i + 1 + m ∧ zRootTo w d i (i + 1 + m) < i + d ∧ ∀ z, i ≤ z → z < i + 1 + m → ¬ zLs w d z (zRootTo w d i (i + 1 + m)) := by
  intro m
  induction m with
  | zero =>
    intro _
    rw [show i + 1 + ((0 : Nat) : Int) = i + 1 by omega, zRootTo_0]
    exact ⟨Int.le_refl i, by omega, by omega, fun z z1 z2 => by rw [show z = i by omega]; exact zLs_irr⟩
  | succ m ih =>
    intro hm
    obtain ⟨a1, a2, a3, a4⟩ := ih (by omega)
    rw [show i + 1 + ((m + 1 : Nat) : Int) = (i + 1 + m) + 1 by omega]
    generalize hR : zRootTo w d i (i + 1 + m) = R at *
    rcases Classical.em (zLs w d (i + 1 + m) R) with q | q
    · rw [zRootTo_t (by omega) (by rw [hR]; exact q)]
      have hk : i + 1 + (m : Int) < i + d := by
        rcases Int.lt_or_le (i + 1 + (m : Int)) (i + d) with c | c
        · exact c
        · exfalso
          refine a4 (i + 1 + m - d) (by omega) (by omega) ?_
          obtain ⟨x, x1, x2, x3, x4⟩ := q
          have e : ∀ k, 0 ≤ k → k < d → w (i + 1 + m - d + k) = w (i + 1 + m + k) := fun k k1 k2 => by
            have := zPer_at hp (q := i + 1 + m - d + k) (by omega) (by omega)
            rw [this]; congr 1; omega
          exact ⟨x, x1, x2, fun k k1 k2 => (e k k1 (by omega)).trans (x3 k k1 k2), by rw [e x x1 x2]; exact x4⟩
      refine ⟨by omega, by omega, hk, fun z z1 z2 z3 => ?_⟩
      rcases (show z = i + 1 + m ∨ z < i + 1 + m by omega) with c | c
      · rw [c] at z3; exact zLs_irr z3
      · exact a4 z z1 c (zLs_trans z3 q)
    · rw [zRootTo_f (by omega) (by rw [hR]; exact q), hR]
      refine ⟨a1, by omega, a3, fun z z1 z2 z3 => ?_⟩
      rcases (show z = i + 1 + m ∨ z < i + 1 + m by omega) with c | c
      · rw [c] at z3; exact q z3
      · exact a4 z z1 c z3
theorem zRoot_sp (hp : zPer w i t d) (h : 0 < d ∧ i + 2 * d ≤ t) : i ≤ zRootTo w d i (t - d + 1) ∧ zRootTo w d i (t - d + 1) < i + d := by
  obtain ⟨a1, a2, a3, a4⟩ := zRoot_sp1 hp h (t - d - i).toNat (by omega)
  rw [show i + 1 + (((t - d - i).toNat : Nat) : Int) = t - d + 1 by omega] at a1 a3
  exact ⟨a1, a3⟩
theorem zRoot_prim {R : Int} (hi : 0 ≤ i) (h : 0 < d ∧ i + 2 * d ≤ t) (hd : zLP w i t = d) (h1 : i ≤ R) (h2 : R + d ≤ t) : zPrim w R (R + d) := by
  rintro ⟨c1, c2⟩
  have hp := zLP_per (w := w) (i := i) (j := t) (by omega)
  rw [hd] at hp
  have he := zLP_bd w (i := R) (j := R + d) (by omega)
  have hq := zLP_per (w := w) (i := R) (j := R + d) (by omega)
  generalize zLP w R (R + d) = e at *
  have hdv : d = e * (d / e) := by
    have := Int.emod_def (R + d - R) e
    rw [c2, show R + d - R = d by omega] at this
    omega
  refine zLP_no (w := w) (i := i) (j := t) (q := e) (by omega) he.1 (by omega) ?_
  refine zPer_of (k := t - e) (fun q q1 q2 => ?_) (by omega)
  have e1 := Int.emod_def (q - R) d
  have e2 := Int.emod_def (q + e - R) d
  have n1 := Int.emod_nonneg (q - R) (show d ≠ 0 by omega)
  have n2 := Int.emod_nonneg (q + e - R) (show d ≠ 0 by omega)
  have l1 := Int.emod_lt_of_pos (q - R) h.1
  have l2 := Int.emod_lt_of_pos (q + e - R) h.1
  have g1 : w q = w (R + (q - R) % d) := zPer_eq hp h.1 (c := (q - R) / d) (by omega) (by omega) (by omega)
  have g2 : w (q + e) = w (R + (q + e - R) % d) := zPer_eq hp h.1 (c := (q + e - R) / d) (by omega) (by omega) (by omega)
  have g3 : w (R + (q + e - R) % d) = w (R + (q - R) % d) := by
    refine zPer_eq hq (by omega) (c := 1 + (d / e) * ((q - R) / d) - (d / e) * ((q + e - R) / d)) (by omega) (by omega) ?_
    have m1 : e * ((d / e) * ((q - R) / d)) = d * ((q - R) / d) := by rw [← Int.mul_assoc, ← hdv]
    have m2 : e * ((d / e) * ((q + e - R) / d)) = d * ((q + e - R) / d) := by rw [← Int.mul_assoc, ← hdv]
    rw [Int.mul_sub, Int.mul_add, Int.mul_one, m1, m2]
    omega
  rw [g1, g2, g3]
end ZRT

-- squares and runs by their places: pairs (i, d) with i + 2 d ≤ n
noncomputable def zRow (P : Int → Int → Prop) (n i : Int) : Int := zC (P i) 1 ((n - i) / 2 + 1)
noncomputable def zCC (P : Int → Int → Prop) (n i : Int) : Int := zS (zRow P n) 0 i
theorem zRow_bd (P : Int → Int → Prop) {n i : Int} (h : 0 ≤ i ∧ i ≤ n) : 0 ≤ zRow P n i ∧ zRow P n i ≤ n := by
  have := zC_bd (P i) (a := 1) (b := (n - i) / 2 + 1) (by omega)
  unfold zRow; omega
theorem zCC_0 (P : Int → Int → Prop) (n : Int) : zCC P n 0 = 0 := zS_nil _ (Int.le_refl 0)
theorem zCC_succ (P : Int → Int → Prop) {n i : Int} (h : 0 ≤ i) : zCC P n (i + 1) = zCC P n i + zRow P n i := zS_succ _ h
theorem zCC_mono (P : Int → Int → Prop) {n i j : Int} (h0 : 0 ≤ i) (h1 : i ≤ j) (h2 : j ≤ n) : zCC P n i ≤ zCC P n j := by
  have := zS_split (zRow P n) h0 h1
  have := zS_bd (f := zRow P n) n h1 (fun k a b => zRow_bd P (by omega))
  unfold zCC; omega
theorem zC_mono (P : Int → Prop) {a b d : Int} (h0 : a ≤ b) (h1 : b ≤ d) : zC P a b ≤ zC P a d := by
  have e := zS_split (fun k => zB (P k)) h0 h1
  have := zS_bd (f := fun k => zB (P k)) 1 h1 (fun k _ _ => zB_r (P k))
  show zS (fun k => zB (P k)) a b ≤ zS (fun k => zB (P k)) a d
  omega
def zIsRk (P : Int → Int → Prop) (n r i d : Int) : Prop := (0 ≤ i ∧ i < n ∧ 1 ≤ d ∧ i + 2 * d ≤ n) ∧ P i d ∧ zCC P n i + zC (P i) 1 d = r
theorem zIsRk_lt {P : Int → Int → Prop} {n r i d : Int} (h : zIsRk P n r i d) : r < zCC P n (i + 1) := by
  obtain ⟨h1, h2, h3⟩ := h
  have e := zCC_succ P (n := n) (i := i) h1.1
  have e2 := zC_t (P := P i) (a := 1) (b := d) (by omega) h2
  have e3 := zC_mono (P i) (a := 1) (b := d + 1) (d := (n - i) / 2 + 1) (by omega) (by omega)
  have e4 : zRow P n i = zC (P i) 1 ((n - i) / 2 + 1) := rfl
  omega
theorem zIsRk_un {P : Int → Int → Prop} {n r i d i2 d2 : Int} (h : zIsRk P n r i d) (k : zIsRk P n r i2 d2) : i = i2 ∧ d = d2 := by
  have a1 := zIsRk_lt h
  have a2 := zIsRk_lt k
  obtain ⟨h1, h2, h3⟩ := h
  obtain ⟨k1, k2, k3⟩ := k
  have b1 := zC_bd (P i) (a := 1) (b := d) (by omega)
  have b2 := zC_bd (P i2) (a := 1) (b := d2) (by omega)
  have e : i = i2 := by
    rcases Int.lt_trichotomy i i2 with q | q | q
    · have := zCC_mono P (n := n) (i := i + 1) (j := i2) (by omega) (by omega) (by omega); omega
    · exact q
    · have := zCC_mono P (n := n) (i := i2 + 1) (j := i) (by omega) (by omega) (by omega); omega
  subst e
  refine ⟨rfl, ?_⟩
  rcases Int.lt_trichotomy d d2 with q | q | q
  · have c1 := zC_t (P := P i) (a := 1) (b := d) (by omega) h2
    have c2 := zC_mono (P i) (a := 1) (b := d + 1) (d := d2) (by omega) (by omega)
    omega
  · exact q
  · have c1 := zC_t (P := P i) (a := 1) (b := d2) (by omega) k2
    have c2 := zC_mono (P i) (a := 1) (b := d2 + 1) (d := d) (by omega) (by omega)
    omega
/-- the r-th pair, told by T; -4 if there are not so many -/
noncomputable def zRk (P : Int → Int → Prop) (n r : Int) (T : Int → Int → Int) : Int := zThe fun z => (∃ i d, zIsRk P n r i d ∧ z = T i d) ∨ (zCC P n n ≤ r ∧ z = -4)
theorem zRk_hit {P : Int → Int → Prop} {n r i d : Int} (T : Int → Int → Int) (h : zIsRk P n r i d) : zRk P n r T = T i d := zThe_un (Or.inl ⟨i, d, h, rfl⟩) fun x hx => by
  rcases hx with ⟨i2, d2, k, e⟩ | ⟨k, e⟩
  · obtain ⟨e1, e2⟩ := zIsRk_un h k
    rw [e, e1, e2]
  · have := zIsRk_lt h
    have := zCC_mono P (n := n) (i := i + 1) (j := n) (by have := h.1; omega) (by have := h.1; omega) (Int.le_refl n)
    omega
theorem zRk_none {P : Int → Int → Prop} {n r : Int} (T : Int → Int → Int) (h : zCC P n n ≤ r) : zRk P n r T = -4 := zThe_un (Or.inr ⟨h, rfl⟩) fun x hx => by
  rcases hx with ⟨i2, d2, k, e⟩ | ⟨k, e⟩
  · have := zIsRk_lt k
    have := zCC_mono P (n := n) (i := i2 + 1) (j := n) (by have := k.1; omega) (by have := k.1; omega) (Int.le_refl n)
    omega
  · exact e
def zSqP (w : Int → Int) (i d : Int) : Prop := zSm w i (i + d) d
/-- the factor of m letters at i stands at no earlier place -/
def zNew (w : Int → Int) (i m : Int) : Prop := ∀ k, 0 ≤ k → k < i → ¬ zSm w k i m
def zUsP (w : Int → Int) (i d : Int) : Prop := zSqP w i d ∧ zNew w i (2 * d)
/-- squares that end at t -/
noncomputable def zSE (w : Int → Int) (t : Int) : Int := zC (fun d => zSqP w (t - 2 * d) d) 1 (t / 2 + 1)
theorem zSE_bd (w : Int → Int) {t : Int} (h : 0 ≤ t) : 0 ≤ zSE w t ∧ zSE w t ≤ t := by
  have := zC_bd (fun d => zSqP w (t - 2 * d) d) (a := 1) (b := t / 2 + 1) (by omega)
  unfold zSE; omega
theorem zC_hit {b : Int} {P : Int → Prop} {a d : Int} (h1 : a ≤ d) (h2 : d < b) (hP : P d) : zC (fun k => k = d ∧ P k) a b = 1 := by
  have e := zS_split (fun k => zB (k = d ∧ P k)) (a := a) (b := d) (c := b) h1 (by omega)
  have e2 : zS (fun k => zB (k = d ∧ P k)) d b = zB (d = d ∧ P d) + zS (fun k => zB (k = d ∧ P k)) (d + 1) b := zS_head (fun k => zB (k = d ∧ P k)) (a := d) (b := b) h2
  have e3 : zS (fun k => zB (k = d ∧ P k)) a d = 0 := zS_zero fun k _ h => zB_f (fun q => by omega)
  have e4 : zS (fun k => zB (k = d ∧ P k)) (d + 1) b = 0 := zS_zero fun k h _ => zB_f (fun q => by omega)
  have e5 : zB (d = d ∧ P d) = 1 := zB_t ⟨rfl, hP⟩
  show zS (fun k => zB (k = d ∧ P k)) a b = 1
  omega
theorem zC_miss {P : Int → Prop} {a b : Int} (h : ∀ k, a ≤ k → k < b → ¬ P k) : zC P a b = 0 := zS_zero fun k h1 h2 => zB_f (h k h1 h2)
/-- pairs that end at t, by their first number or by their second one -/
theorem zSE_pairs (w : Int → Int) {n t : Int} (h0 : 0 ≤ t) (h : t ≤ n) : zCC (fun i d => i + 2 * d = t ∧ zSqP w i d) n n = zSE w t := by
  have e1 : zCC (fun i d => i + 2 * d = t ∧ zSqP w i d) n n = zS (fun i => zS (fun d => zB (i + 2 * d = t ∧ zSqP w i d)) 1 (n / 2 + 1)) 0 n := by
    refine zS_congr fun i h1 h2 => ?_
    have e := zS_split (fun d => zB (i + 2 * d = t ∧ zSqP w i d)) (a := 1) (b := (n - i) / 2 + 1) (c := n / 2 + 1) (by omega) (by omega)
    have e3 : zS (fun d => zB (i + 2 * d = t ∧ zSqP w i d)) ((n - i) / 2 + 1) (n / 2 + 1) = 0 := zS_zero fun d a b => zB_f (fun q => by omega)
    show zS (fun d => zB (i + 2 * d = t ∧ zSqP w i d)) 1 ((n - i) / 2 + 1) = _
    omega
  rw [e1, zS_swap]
  have e2 : zSE w t = zS (fun d => zB (0 ≤ t - 2 * d ∧ zSqP w (t - 2 * d) d)) 1 (n / 2 + 1) := by
    have e := zS_split (fun d => zB (0 ≤ t - 2 * d ∧ zSqP w (t - 2 * d) d)) (a := 1) (b := t / 2 + 1) (c := n / 2 + 1) (by omega) (by omega)
    have e3 : zS (fun d => zB (0 ≤ t - 2 * d ∧ zSqP w (t - 2 * d) d)) (t / 2 + 1) (n / 2 + 1) = 0 := zS_zero fun d a b => zB_f (fun q => by omega)
    have e4 : zSE w t = zS (fun d => zB (0 ≤ t - 2 * d ∧ zSqP w (t - 2 * d) d)) 1 (t / 2 + 1) := zS_congr fun d a b => zB_eq ⟨fun q => ⟨by omega, q⟩, fun q => q.2⟩
    omega
  rw [e2]
  refine zS_congr fun d a b => ?_
  rcases Int.lt_or_le (t - 2 * d) 0 with q | q
  · rw [zB_f (by omega)]
    exact zS_zero fun i h1 h2 => zB_f (by omega)
  · rcases Classical.em (zSqP w (t - 2 * d) d) with q2 | q2
    · rw [zB_t ⟨q, q2⟩]
      have := zC_hit (P := fun i => zSqP w i d) (a := 0) (b := n) (d := t - 2 * d) q (by omega) q2
      refine Eq.trans (zS_congr fun i h1 h2 => zB_eq ⟨fun z => ⟨by omega, ?_⟩, fun z => ⟨by omega, ?_⟩⟩) this
      · exact z.2
      · exact z.2
    · rw [zB_f (fun z => q2 z.2)]
      refine zS_zero fun i h1 h2 => zB_f (fun z => q2 ?_)
      rw [← show i = t - 2 * d by omega]; exact z.2
/-- all squares, by the places at which they end or from which they go -/
theorem zSE_all (w : Int → Int) {n : Int} (hn : 0 ≤ n) : zS (zSE w) 2 (n + 1) = zCC (zSqP w) n n := by
  have e1 : zS (zSE w) 2 (n + 1) = zS (fun t => zS (fun i => zRow (fun i d => i + 2 * d = t ∧ zSqP w i d) n i) 0 n) 2 (n + 1) := zS_congr fun t h1 h2 => (zSE_pairs w (by omega) (by omega)).symm
  rw [e1, zS_swap]
  refine zS_congr fun i h1 h2 => ?_
  show zS (fun t => zS (fun d => zB (i + 2 * d = t ∧ zSqP w i d)) 1 ((n - i) / 2 + 1)) 2 (n + 1) = zS (fun d => zB (zSqP w i d)) 1 ((n - i) / 2 + 1)
  rw [zS_swap]
  refine zS_congr fun d h3 h4 => ?_
  rcases Classical.em (zSqP w i d) with q | q
  · rw [zB_t q]
    have := zC_hit (P := fun _ => zSqP w i d) (a := 2) (b := n + 1) (d := i + 2 * d) (by omega) (by omega) q
    refine Eq.trans (zS_congr fun t a b => zB_eq ⟨fun z => ⟨z.1.symm, ?_⟩, fun z => ⟨z.1.symm, ?_⟩⟩) this
    · exact z.2
    · exact z.2
  · rw [zB_f q]
    exact zS_zero fun t a b => zB_f (fun z => q z.2)
/-- the factor of d letters at k is less than that at f -/
def zLs (w : Int → Int) (d k f : Int) : Prop := ∃ x, 0 ≤ x ∧ x < d ∧ zSm w k f x ∧ w (k + x) < w (f + x)
noncomputable def zrt (w : Int → Int) (d i : Int) : Nat → Int
  | 0 => i
  | m + 1 => @ite _ (zLs w d (i + m + 1) (zrt w d i m)) (Classical.propDecidable _) (i + m + 1) (zrt w d i m)
/-- the least of the factors of d letters at i .. k-1 -/
noncomputable def zRootTo (w : Int → Int) (d i k : Int) : Int := zrt w d i (k - 1 - i).toNat
theorem zRootTo_0 (w : Int → Int) (d i : Int) : zRootTo w d i (i + 1) = i := by
  unfold zRootTo
  rw [show (i + 1 - 1 - i).toNat = 0 by omega]; rfl
theorem zRootTo_t {w : Int → Int} {d i k : Int} (h : i < k) (q : zLs w d k (zRootTo w d i k)) : zRootTo w d i (k + 1) = k := by
  have e : (k + 1 - 1 - i).toNat = (k - 1 - i).toNat + 1 := by omega
  have e2 : i + ((k - 1 - i).toNat : Int) + 1 = k := by omega
  show zrt w d i (k + 1 - 1 - i).toNat = k
  rw [e, zrt, e2]
  exact if_pos q
theorem zRootTo_f {w : Int → Int} {d i k : Int} (h : i < k) (q : ¬ zLs w d k (zRootTo w d i k)) : zRootTo w d i (k + 1) = zRootTo w d i k := by
  have e : (k + 1 - 1 - i).toNat = (k - 1 - i).toNat + 1 := by omega
  have e2 : i + ((k - 1 - i).toNat : Int) + 1 = k := by omega
  show zrt w d i (k + 1 - 1 - i).toNat = zrt w d i (k - 1 - i).toNat
  rw [e, zrt, e2]
  exact if_neg q
theorem zLs_at {w : Int → Int} {d k f x : Int} (h0 : 0 ≤ x) (h1 : zSm w k f x) (h2 : x < d → w (k + x) ≠ w (f + x)) : zLs w d k f ↔ x < d ∧ w (k + x) < w (f + x) := by
  constructor
  · rintro ⟨y, a, b, c, e⟩
    rcases Int.lt_trichotomy x y with q | q | q
    · exact absurd (c x h0 q) (h2 (by omega))
    · subst q; exact ⟨b, e⟩
    · have := h1 y a q; omega
  · rintro ⟨a, b⟩
    exact ⟨x, h0, a, h1, b⟩
/-- the suffix at i comes ahead of that at j -/
def zAh (w : Int → Int) (n i j : Int) : Prop := (i + zAF w n i j = n ∧ j + zAF w n i j < n) ∨ (i + zAF w n i j < n ∧ j + zAF w n i j < n ∧ w (i + zAF w n i j) < w (j + zAF w n i j))
theorem zAh_irr (w : Int → Int) (n i : Int) : ¬ zAh w n i i := by
  rintro (h | h) <;> omega
noncomputable def zRank (w : Int → Int) (n i : Int) : Int := zC (fun q => zAh w n q i) 0 n
theorem zRank_bd (w : Int → Int) {n : Int} (i : Int) (h : 0 ≤ n) : 0 ≤ zRank w n i ∧ zRank w n i ≤ n := by
  have := zC_bd (fun q => zAh w n q i) (a := 0) (b := n) h
  unfold zRank; omega
theorem zAh_tri {w : Int → Int} {n i j : Int} (hi : i ≤ n) (hj : j ≤ n) (h : i ≠ j) : zAh w n i j ∨ zAh w n j i := by
  have b := zAF_bd (w := w) hi hj
  have e := zAF_symm w n i j
  unfold zAh
  rw [← e]
  rcases Int.lt_or_le (i + zAF w n i j) n with q | q
  · rcases Int.lt_or_le (j + zAF w n i j) n with q2 | q2
    · have := zAF_ne (w := w) hi hj (by omega) (by omega)
      rcases Int.lt_or_gt_of_ne this with q3 | q3
      · exact Or.inl (Or.inr ⟨q, q2, q3⟩)
      · exact Or.inr (Or.inr ⟨q2, q, q3⟩)
    · exact Or.inr (Or.inl ⟨by omega, q⟩)
  · exact Or.inl (Or.inl ⟨by omega, by omega⟩)
theorem zAh_iff {w : Int → Int} {n i j : Int} (hi : i ≤ n) (hj : j ≤ n) : zAh w n i j ↔ ∃ x, 0 ≤ x ∧ zSm w i j x ∧ i + x ≤ n ∧ j + x < n ∧ (i + x < n → w (i + x) < w (j + x)) := by
  have b := zAF_bd (w := w) hi hj
  have sm := ((zAF_ge (w := w) hi hj b.1).mp (Int.le_refl _)).2.2
  constructor
  · rintro (h | h)
    · exact ⟨_, b.1, sm, by omega, h.2, fun q => absurd q (by omega)⟩
    · exact ⟨_, b.1, sm, by omega, h.2.1, fun _ => h.2.2⟩
  · rintro ⟨x, h1, h2, h3, h4, h5⟩
    have e : zAF w n i j = x := zAF_un h1 h3 (by omega) h2 (fun q _ => by have := h5 q; omega)
    unfold zAh
    rw [e]
    rcases Int.lt_or_le (i + x) n with q | q
    · exact Or.inr ⟨q, h4, h5 q⟩
    · exact Or.inl ⟨by omega, h4⟩
theorem zAh_trans {w : Int → Int} {n i j k : Int} (hi : i ≤ n) (hj : j ≤ n) (hk : k ≤ n) (h1 : zAh w n i j) (h2 : zAh w n j k) : zAh w n i k := by
  obtain ⟨x, a1, a2, a3, a4, a5⟩ := (zAh_iff hi hj).mp h1
  obtain ⟨y, b1, b2, b3, b4, b5⟩ := (zAh_iff hj hk).mp h2
  refine (zAh_iff hi hk).mpr ?_
  rcases Int.lt_trichotomy x y with q | q | q
  · have e := b2 x a1 q
    exact ⟨x, a1, fun z c1 c2 => (a2 z c1 c2).trans (b2 z c1 (by omega)), a3, by omega, fun c => by have := a5 c; omega⟩
  · subst q
    exact ⟨x, a1, fun z c1 c2 => (a2 z c1 c2).trans (b2 z c1 c2), a3, b4, fun c => by have := a5 c; have := b5 a4; omega⟩
  · have e := a2 y b1 q
    exact ⟨y, b1, fun z c1 c2 => (a2 z c1 (by omega)).trans (b2 z c1 c2), by omega, b4, fun c => by have := b5 (by omega); omega⟩
theorem zAh_asym {w : Int → Int} {n i j : Int} (hi : i ≤ n) (hj : j ≤ n) (h1 : zAh w n i j) (h2 : zAh w n j i) : False := zAh_irr w n i (zAh_trans hi hj hi h1 h2)
theorem zC_lt {P Q : Int → Prop} {a b k : Int} (h1 : a ≤ k) (h2 : k < b) (hQ : Q k) (hP : ¬ P k) (h : ∀ q, a ≤ q → q < b → P q → Q q) : zC P a b < zC Q a b := by
  have e : zC Q a b = zC P a b + zS (fun q => zB (Q q) - zB (P q)) a b := by
    show _ = zS (fun q => zB (P q)) a b + _
    rw [← zS_add]
    exact zS_congr fun q _ _ => by omega
  have e2 := zS_split (fun q => zB (Q q) - zB (P q)) (a := a) (b := k) (c := b) h1 (by omega)
  have e3 : zS (fun q => zB (Q q) - zB (P q)) k b = (zB (Q k) - zB (P k)) + zS (fun q => zB (Q q) - zB (P q)) (k + 1) b := zS_head (fun q => zB (Q q) - zB (P q)) (a := k) (b := b) h2
  have nn : ∀ q, a ≤ q → q < b → 0 ≤ zB (Q q) - zB (P q) ∧ zB (Q q) - zB (P q) ≤ 1 := fun q q1 q2 => by
    have := zB_r (P q); have := zB_r (Q q)
    rcases zB_c (P q) with ⟨c, d⟩ | ⟨c, d⟩
    · have := zB_t (h q q1 q2 c); omega
    · omega
  have e4 := zS_bd (f := fun q => zB (Q q) - zB (P q)) (a := a) (b := k) 1 h1 (fun q q1 q2 => nn q q1 (by omega))
  have e5 := zS_bd (f := fun q => zB (Q q) - zB (P q)) (a := k + 1) (b := b) 1 (by omega) (fun q q1 q2 => nn q (by omega) q2)
  have e6 : zB (Q k) - zB (P k) = 1 := by rw [zB_t hQ, zB_f hP]; rfl
  omega
theorem zRank_lt {w : Int → Int} {n i j : Int} (hi : 0 ≤ i ∧ i < n) (hj : 0 ≤ j ∧ j < n) (h : zAh w n i j) : zRank w n i < zRank w n j :=
  zC_lt (k := i) hi.1 hi.2 h (zAh_irr w n i) (fun q q1 q2 q3 => zAh_trans (by omega) (by omega) (by omega) q3 h)
theorem zRank_inj {w : Int → Int} {n i j : Int} (hi : 0 ≤ i ∧ i < n) (hj : 0 ≤ j ∧ j < n) (h : zRank w n i = zRank w n j) : i = j := by
  rcases Classical.em (i = j) with q | q
  · exact q
  · rcases zAh_tri (w := w) (n := n) (i := i) (j := j) (by omega) (by omega) q with k | k
    · have := zRank_lt hi hj k; omega
    · have := zRank_lt hj hi k; omega
theorem zRank_top {w : Int → Int} {n i : Int} (hi : 0 ≤ i ∧ i < n) : zRank w n i < n := by
  have := zC_lt (P := fun q => zAh w n q i) (Q := fun _ => True) (k := i) hi.1 hi.2 trivial (zAh_irr w n i) (fun _ _ _ _ => trivial)
  have := zC_bd (fun _ : Int => True) (a := 0) (b := n) (by omega)
  unfold zRank; omega
/-- the place from which the suffix at the rank r goes; -4 if there is none -/
noncomputable def zPl (w : Int → Int) (n r : Int) : Int := zThe fun z => (0 ≤ z ∧ z < n ∧ zRank w n z = r) ∨ (z = -4 ∧ ∀ q, 0 ≤ q → q < n → zRank w n q ≠ r)
theorem zPl_hit {w : Int → Int} {n r z : Int} (h : 0 ≤ z ∧ z < n ∧ zRank w n z = r) : zPl w n r = z := zThe_un (Or.inl h) fun x hx => by
  rcases hx with q | ⟨q1, q2⟩
  · exact zRank_inj (w := w) (n := n) ⟨q.1, q.2.1⟩ ⟨h.1, h.2.1⟩ (by omega)
  · exact absurd h.2.2 (q2 z h.1 h.2.1)
theorem zPl_none {w : Int → Int} {n r : Int} (h : ∀ q, 0 ≤ q → q < n → zRank w n q ≠ r) : zPl w n r = -4 := zThe_un (Or.inr ⟨rfl, h⟩) fun x hx => by
  rcases hx with q | ⟨q1, q2⟩
  · exact absurd q.2.2 (h x q.1 q.2.1)
  · exact q1

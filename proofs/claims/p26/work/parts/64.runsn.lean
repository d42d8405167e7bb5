-- there are at most as many runs as letters: a word's rows of suffixes in both orders
def zLt (a : Int → Int) (x y : Int) : Prop := ∃ m, 0 ≤ m ∧ zSm a x y m ∧ a (x + m) < a (y + m)
section ZRN
variable {a : Int → Int}
theorem zLt_irr {x : Int} : ¬ zLt a x x := by
  rintro ⟨m, h1, h2, h3⟩; omega
theorem zLt_trans {x y z : Int} (h1 : zLt a x y) (h2 : zLt a y z) : zLt a x z := by
  obtain ⟨m, m1, m2, m3⟩ := h1
  obtain ⟨q, q1, q2, q3⟩ := h2
  rcases Int.lt_trichotomy m q with c | c | c
  · exact ⟨m, m1, fun k k1 k2 => (m2 k k1 k2).trans (q2 k k1 (by omega)), by rw [← q2 m m1 c]; exact m3⟩
  · subst c
    exact ⟨m, m1, fun k k1 k2 => (m2 k k1 k2).trans (q2 k k1 k2), by omega⟩
  · exact ⟨q, q1, fun k k1 k2 => (m2 k k1 (by omega)).trans (q2 k k1 k2), by rw [m2 q q1 c]; exact q3⟩
theorem zLt_cut {x y : Int} (h : zLt a x y) (e : a x = a y) : zLt a (x + 1) (y + 1) := by
  obtain ⟨m, m1, m2, m3⟩ := h
  rcases (show m = 0 ∨ 1 ≤ m by omega) with c | c
  · subst c; rw [Int.add_zero, Int.add_zero] at m3; omega
  · refine ⟨m - 1, by omega, fun k k1 k2 => ?_, ?_⟩
    · have := m2 (k + 1) (by omega) (by omega)
      rw [show x + 1 + k = x + (k + 1) by omega, show y + 1 + k = y + (k + 1) by omega]; exact this
    · rw [show x + 1 + (m - 1) = x + m by omega, show y + 1 + (m - 1) = y + m by omega]; exact m3
/-- from i on: the next place from which less goes is i + p -/
def zNs (a : Int → Int) (i p : Int) : Prop := (∀ j, i < j → j < i + p → zLt a i j) ∧ zLt a (i + p) i
theorem zNs_un {i p q : Int} (hp : 1 ≤ p) (hq : 1 ≤ q) (h1 : zNs a i p) (h2 : zNs a i q) : p = q := by
  rcases Int.lt_trichotomy p q with c | c | c
  · exact absurd (zLt_trans h1.2 (h2.1 (i + p) (by omega) (by omega))) zLt_irr
  · exact c
  · exact absurd (zLt_trans h2.2 (h1.1 (i + q) (by omega) (by omega))) zLt_irr
theorem zMinLt (U : Int → Int) (f : Int) : ∀ m : Nat, ∃ i, f < i ∧ i ≤ f + 1 + m ∧ ∀ j, f < j → j ≤ f + 1 + m → ¬ zLt U j i := by
  intro m
  induction m with
  | zero => exact ⟨f + 1, by omega, by omega, fun j j1 j2 => by rw [show j = f + 1 by omega]; exact zLt_irr⟩
  | succ m ih =>
    obtain ⟨i, i1, i2, i3⟩ := ih
    rcases Classical.em (zLt U (f + 1 + (m + 1 : Nat)) i) with q | q
    · refine ⟨f + 1 + (m + 1 : Nat), by omega, Int.le_refl _, fun j j1 j2 j3 => ?_⟩
      rcases (show j = f + 1 + (m + 1 : Nat) ∨ j ≤ f + 1 + m by omega) with c | c
      · rw [c] at j3; exact zLt_irr j3
      · exact i3 j j1 c (zLt_trans j3 q)
    · refine ⟨i, i1, by omega, fun j j1 j2 j3 => ?_⟩
      rcases (show j = f + 1 + (m + 1 : Nat) ∨ j ≤ f + 1 + m by omega) with c | c
      · rw [c] at j3; exact q j3
      · exact i3 j j1 c j3
theorem zNs_run {f p t : Int} (hp : 1 ≤ p) (ht : f + 2 * p ≤ t) (hper : zPer a f t p) (hno : ∀ e, 1 ≤ e → e < p → ¬ zPer a f t e) (hlt : a t < a (t - p)) : ∃ i, f < i ∧ i ≤ f + p ∧ zNs a i p := by
  obtain ⟨U, eU⟩ : ∃ U : Int → Int, U = fun k => a (f + (k - f) % p) := ⟨_, rfl⟩
  have nn := fun k : Int => Int.emod_nonneg (k - f) (show p ≠ 0 by omega)
  have ll := fun k : Int => Int.emod_lt_of_pos (k - f) (show 0 < p by omega)
  have dd := fun k : Int => Int.emod_def (k - f) p
  have hU : ∀ k, f ≤ k → k < t → U k = a k := fun k k1 k2 => by
    rw [eU]
    have := nn k; have := ll k; have := dd k
    exact (zPer_eq hper (by omega) (c := (k - f) / p) ⟨k1, k2⟩ ⟨by omega, by omega⟩ (by omega)).symm
  have hc : ∀ k c, U (k + p * c) = U k := fun k c => by
    rw [eU]
    show a (f + (k + p * c - f) % p) = a (f + (k - f) % p)
    rw [show k + p * c - f = (k - f) + p * c by omega, Int.add_mul_emod_self_left]
  have h1 : ∀ k, U (k + p) = U k := fun k => by
    have := hc k 1
    rw [Int.mul_one] at this; exact this
  obtain ⟨i, i1, i2, i3⟩ := zMinLt U f (p - 1).toNat
  have i4 : ∀ j, ¬ zLt U j i := fun j hj => by
    have := Int.emod_nonneg (j - f - 1) (show p ≠ 0 by omega)
    have := Int.emod_lt_of_pos (j - f - 1) (show 0 < p by omega)
    have de := Int.emod_def (j - f - 1) p
    refine i3 (f + 1 + (j - f - 1) % p) (by omega) (by omega) ?_
    obtain ⟨m, m1, m2, m3⟩ := hj
    have sh : ∀ k, U (f + 1 + (j - f - 1) % p + k) = U (j + k) := fun k => by
      have := hc (f + 1 + (j - f - 1) % p + k) ((j - f - 1) / p)
      rw [← this]
      congr 1; omega
    exact ⟨m, m1, fun k k1 k2 => (sh k).trans (m2 k k1 k2), by rw [sh m]; exact m3⟩
  have hi : f < i ∧ i ≤ f + p := ⟨i1, by omega⟩
  refine ⟨i, hi.1, hi.2, fun j j1 j2 => ?_, ?_⟩
  · have hlt2 : zLt U i j := by
      rcases Classical.em (∃ m, 0 ≤ m ∧ U (i + m) ≠ U (j + m)) with ⟨m, m1, m2⟩ | q
      · obtain ⟨y, y1, y2, y3, y4⟩ := zLeast (P := fun m => U (i + m) ≠ U (j + m)) (a := 0) (m.toNat + 1) (x := m) m1 (by omega) m2
        have sm : zSm U i j y := fun k k1 k2 => Classical.not_not.mp (y4 k k1 k2)
        rcases Int.lt_or_gt_of_ne y3 with c | c
        · exact ⟨y, y1, sm, c⟩
        · exact absurd ⟨y, y1, zSm_symm sm, c⟩ (i4 j)
      · exfalso
        have q : ∀ m, 0 ≤ m → U (i + m) = U (j + m) := fun m hm => Classical.not_not.mp (fun v => q ⟨m, hm, v⟩)
        refine hno (j - i) (by omega) (by omega) (zPer_of (k := t - (j - i)) (fun x x1 x2 => ?_) (by omega))
        have e1 := q (x + p - i) (by omega)
        rw [show i + (x + p - i) = x + p by omega, show j + (x + p - i) = x + (j - i) + p by omega, h1, h1, hU x x1 (by omega), hU (x + (j - i)) (by omega) (by omega)] at e1
        exact e1
    obtain ⟨m, m1, m2, m3⟩ := hlt2
    have hm : j + m < i + p := by
      rcases Int.lt_or_le (j + m) (i + p) with c | c
      · exact c
      · exfalso
        refine i4 (i + (i + p - j)) ⟨m - (i + p - j), by omega, fun k k1 k2 => ?_, ?_⟩
        · have := m2 (i + p - j + k) (by omega) (by omega)
          rw [show i + (i + p - j + k) = i + (i + p - j) + k by omega, show j + (i + p - j + k) = i + k + p by omega, h1] at this
          exact this
        · rw [show i + (i + p - j) + (m - (i + p - j)) = i + m by omega]
          have := h1 (i + (m - (i + p - j)))
          rw [show i + (m - (i + p - j)) + p = j + m by omega] at this
          rw [← this]; exact m3
    exact ⟨m, m1, fun k k1 k2 => by rw [← hU (i + k) (by omega) (by omega), ← hU (j + k) (by omega) (by omega)]; exact m2 k k1 k2, by rw [← hU (i + m) (by omega) (by omega), ← hU (j + m) (by omega) (by omega)]; exact m3⟩
  · refine ⟨t - p - i, by omega, fun k k1 k2 => ?_, ?_⟩
    · have := zPer_at hper (q := i + k) (by omega) (by omega)
      rw [show i + p + k = i + k + p by omega]; exact this.symm
    · rw [show i + p + (t - p - i) = t by omega, show i + (t - p - i) = t - p by omega]; exact hlt
end ZRN
def zc1 (w : Int → Int) (n : Int) : Int → Int := fun k => if k < n then w k + 1 else 0
def zc2 (w : Int → Int) (n : Int) : Int → Int := fun k => if k < n then 26 - w k else 0
theorem zc1_t {w : Int → Int} {n k : Int} (h : k < n) : zc1 w n k = w k + 1 := if_pos h
theorem zc1_f {w : Int → Int} {n k : Int} (h : ¬ k < n) : zc1 w n k = 0 := if_neg h
theorem zc2_t {w : Int → Int} {n k : Int} (h : k < n) : zc2 w n k = 26 - w k := if_pos h
theorem zc2_f {w : Int → Int} {n k : Int} (h : ¬ k < n) : zc2 w n k = 0 := if_neg h
section ZRM
variable {w : Int → Int} {n : Int}
theorem zPer_c1 {f t e : Int} (he : 0 ≤ e) (ht : t ≤ n) : zPer (zc1 w n) f t e ↔ zPer w f t e := by
  constructor
  · intro h k k1 k2
    have := h k k1 k2
    rw [zc1_t (by omega), zc1_t (by omega)] at this
    omega
  · intro h k k1 k2
    have := h k k1 k2
    rw [zc1_t (by omega), zc1_t (by omega)]
    omega
theorem zPer_c2 {f t e : Int} (he : 0 ≤ e) (ht : t ≤ n) : zPer (zc2 w n) f t e ↔ zPer w f t e := by
  constructor
  · intro h k k1 k2
    have := h k k1 k2
    rw [zc2_t (by omega), zc2_t (by omega)] at this
    omega
  · intro h k k1 k2
    have := h k k1 k2
    rw [zc2_t (by omega), zc2_t (by omega)]
    omega
/-- what is said of a run's numbers -/
theorem zRun_sp {f p : Int} (hr : 0 ≤ f ∧ 1 ≤ p ∧ f + 2 * p ≤ n) (h : zRun w n f p) : (f + 2 * p ≤ zRT w n f p ∧ zRT w n f p ≤ n) ∧ zPer w f (zRT w n f p) p ∧ zLP w f (zRT w n f p) = p ∧ (zRT w n f p = n ∨ w (zRT w n f p) ≠ w (zRT w n f p - p)) ∧ (f = 0 ∨ w (f - 1) ≠ w (f - 1 + p)) := by
  obtain ⟨h1, h2, h3⟩ := h
  have bd := zRT_bd (w := w) (n := n) (i := f) (p := p) (by omega) (by omega)
  have hp := zLP_per (w := w) (i := f) (j := zRT w n f p) (by omega)
  rw [h3] at hp
  refine ⟨⟨by omega, bd.2⟩, hp, h3, ?_, ?_⟩
  · rcases (show zRT w n f p = n ∨ zRT w n f p < n by omega) with c | c
    · exact Or.inl c
    · right
      have e : zRT w n f p = f + p + zAF w n f (f + p) := rfl
      have := zAF_ne (w := w) (n := n) (i := f) (j := f + p) (by omega) (by omega) (by omega) (by omega)
      rw [e, show f + p + zAF w n f (f + p) - p = f + zAF w n f (f + p) by omega]
      exact fun v => this v.symm
  · rcases (show f = 0 ∨ 0 < f by omega) with c | c
    · exact Or.inl c
    · exact Or.inr (fun v => h1 ⟨c, v⟩)
theorem zRun_ns (hw : ∀ k, 0 ≤ k → k < n → 0 ≤ w k ∧ w k ≤ 25) {f p : Int} (hr : 0 ≤ f ∧ 1 ≤ p ∧ f + 2 * p ≤ n) (h : zRun w n f p) : ∃ i, f < i ∧ i ≤ f + p ∧ (zNs (zc1 w n) i p ∨ zNs (zc2 w n) i p) := by
  obtain ⟨⟨a1, a2⟩, a3, a4, a5, a6⟩ := zRun_sp hr h
  generalize zRT w n f p = t at *
  have no : ∀ e, 1 ≤ e → e < p → ¬ zPer w f t e := fun e e1 e2 => zLP_no (by omega) e1 (by omega)
  have w1 := hw (t - p) (by omega) (by omega)
  have go1 : zc1 w n t < zc1 w n (t - p) → ∃ i, f < i ∧ i ≤ f + p ∧ (zNs (zc1 w n) i p ∨ zNs (zc2 w n) i p) := fun q => by
    obtain ⟨i, i1, i2, i3⟩ := zNs_run hr.2.1 a1 ((zPer_c1 (by omega) a2).mpr a3) (fun e e1 e2 v => no e e1 e2 ((zPer_c1 (by omega) a2).mp v)) q
    exact ⟨i, i1, i2, Or.inl i3⟩
  rcases (show t = n ∨ t < n by omega) with c | c
  · exact go1 (by rw [zc1_f (by omega), zc1_t (by omega)]; omega)
  · rcases a5 with v | v
    · omega
    · rcases Int.lt_or_gt_of_ne v with g | g
      · exact go1 (by rw [zc1_t c, zc1_t (by omega)]; omega)
      · have w2 := hw t (by omega) c
        obtain ⟨i, i1, i2, i3⟩ := zNs_run hr.2.1 a1 ((zPer_c2 (by omega) a2).mpr a3) (fun e e1 e2 v => no e e1 e2 ((zPer_c2 (by omega) a2).mp v)) (show zc2 w n t < zc2 w n (t - p) by rw [zc2_t c, zc2_t (by omega)]; omega)
        exact ⟨i, i1, i2, Or.inr i3⟩
theorem zLt_both (hw : ∀ k, 0 ≤ k → k < n → 0 ≤ w k ∧ w k ≤ 25) {i : Int} (hi : 0 ≤ i) (h1 : zLt (zc1 w n) i (i + 1)) (h2 : zLt (zc2 w n) i (i + 1)) : False := by
  have e12 : ∀ x y, 0 ≤ x → 0 ≤ y → (zc1 w n x = zc1 w n y ↔ zc2 w n x = zc2 w n y) := fun x y x0 y0 => by
    rcases Int.lt_or_le x n with c | c
    · have := hw x x0 c
      rw [zc1_t c, zc2_t c]
      rcases Int.lt_or_le y n with d | d
      · have := hw y y0 d
        rw [zc1_t d, zc2_t d]; omega
      · rw [zc1_f (by omega), zc2_f (by omega)]; omega
    · rw [zc1_f (by omega), zc2_f (by omega)]
      rcases Int.lt_or_le y n with d | d
      · have := hw y y0 d
        rw [zc1_t d, zc2_t d]; omega
      · rw [zc1_f (by omega), zc2_f (by omega)]
  obtain ⟨m, m1, m2, m3⟩ := h1
  obtain ⟨q, q1, q2, q3⟩ := h2
  rcases Int.lt_trichotomy m q with c | c | c
  · have := (e12 (i + m) (i + 1 + m) (by omega) (by omega)).mpr (q2 m m1 c); omega
  · subst c
    rcases Int.lt_or_le (i + 1 + m) n with d | d
    · rw [zc1_t (by omega), zc1_t d] at m3
      rw [zc2_t (by omega), zc2_t d] at q3
      omega
    · rw [zc2_f (k := i + 1 + m) (by omega)] at q3
      rcases Int.lt_or_le (i + m) n with g | g
      · have := hw (i + m) (by omega) g
        rw [zc2_t g] at q3; omega
      · rw [zc2_f (by omega)] at q3; omega
  · have := (e12 (i + q) (i + 1 + q) (by omega) (by omega)).mp (m2 q q1 c); omega
/-- a run of one letter does not meet one with a longer period -/
theorem zRun_one {a : Int → Int} (ha : ∀ x y, 0 ≤ x → x < n → 0 ≤ y → y < n → w x = w y → a x = a y) {f p f2 i : Int} (hr : 0 ≤ f ∧ 1 < p ∧ f + 2 * p ≤ n) (h : zRun w n f p) (hr2 : 0 ≤ f2 ∧ f2 + 2 * 1 ≤ n) (h2 : zRun w n f2 1) (hi : f < i ∧ i ≤ f + p) (hi2 : f2 < i ∧ i ≤ f2 + 1) (hn : zNs a i p) : False := by
  obtain ⟨⟨a1, a2⟩, a3, -⟩ := zRun_sp (by omega) h
  obtain ⟨⟨b1, b2⟩, b3, -⟩ := zRun_sp (by omega) h2
  have e1 := zPer_at b3 (q := i - 1) (by omega) (by omega)
  rw [show i - 1 + 1 = i by omega] at e1
  have e2 := zPer_at a3 (q := i - 1) (by omega) (by omega)
  have e3 : a i = a (i + p - 1) := ha _ _ (by omega) (by omega) (by omega) (by omega) (by rw [← e1, e2]; congr 1; omega)
  have g1 := zLt_cut (hn.1 (i + p - 1) (by omega) (by omega)) e3
  rw [show i + p - 1 + 1 = i + p by omega] at g1
  have g2 := hn.1 (i + 1) (by omega) (by omega)
  exact zLt_irr (zLt_trans (zLt_trans g1 hn.2) g2)
theorem zRun_same {f f2 p i : Int} (hr : 0 ≤ f ∧ 1 ≤ p ∧ f + 2 * p ≤ n) (h : zRun w n f p) (hr2 : 0 ≤ f2 ∧ 1 ≤ p ∧ f2 + 2 * p ≤ n) (h2 : zRun w n f2 p) (hi : f < i ∧ i ≤ f + p) (hi2 : f2 < i ∧ i ≤ f2 + p) : ¬ f < f2 := by
  intro c
  obtain ⟨⟨a1, a2⟩, a3, -⟩ := zRun_sp hr h
  obtain ⟨-, -, -, -, b6⟩ := zRun_sp hr2 h2
  have := zPer_at a3 (q := f2 - 1) (by omega) (by omega)
  rcases b6 with b | b
  · omega
  · exact b this
theorem zRun_un (hw : ∀ k, 0 ≤ k → k < n → 0 ≤ w k ∧ w k ≤ 25) {f p f2 p2 i : Int} (hr : 0 ≤ f ∧ 1 ≤ p ∧ f + 2 * p ≤ n) (h : zRun w n f p) (hr2 : 0 ≤ f2 ∧ 1 ≤ p2 ∧ f2 + 2 * p2 ≤ n) (h2 : zRun w n f2 p2) (hi : f < i ∧ i ≤ f + p) (hi2 : f2 < i ∧ i ≤ f2 + p2) (hn : zNs (zc1 w n) i p ∨ zNs (zc2 w n) i p) (hn2 : zNs (zc1 w n) i p2 ∨ zNs (zc2 w n) i p2) : f = f2 ∧ p = p2 := by
  have c1 : ∀ x y, 0 ≤ x → x < n → 0 ≤ y → y < n → w x = w y → zc1 w n x = zc1 w n y := fun x y _ x1 _ y1 e => by rw [zc1_t x1, zc1_t y1, e]
  have c2 : ∀ x y, 0 ≤ x → x < n → 0 ≤ y → y < n → w x = w y → zc2 w n x = zc2 w n y := fun x y _ x1 _ y1 e => by rw [zc2_t x1, zc2_t y1, e]
  have hp : p = p2 := by
    rcases Classical.em (p = p2) with q | q
    · exact q
    · exfalso
      rcases (show p = 1 ∨ 1 < p by omega) with v | v
      · subst v
        rcases hn2 with g | g
        · exact zRun_one c1 (by omega) h2 (by omega) h hi2 hi g
        · exact zRun_one c2 (by omega) h2 (by omega) h hi2 hi g
      · rcases (show p2 = 1 ∨ 1 < p2 by omega) with v2 | v2
        · subst v2
          rcases hn with g | g
          · exact zRun_one c1 (by omega) h (by omega) h2 hi hi2 g
          · exact zRun_one c2 (by omega) h (by omega) h2 hi hi2 g
        · rcases hn with g | g <;> rcases hn2 with g2 | g2
          · exact q (zNs_un (by omega) (by omega) g g2)
          · exact zLt_both hw (by omega) (g.1 (i + 1) (by omega) (by omega)) (g2.1 (i + 1) (by omega) (by omega))
          · exact zLt_both hw (by omega) (g2.1 (i + 1) (by omega) (by omega)) (g.1 (i + 1) (by omega) (by omega))
          · exact q (zNs_un (by omega) (by omega) g g2)
  subst hp
  refine ⟨?_, rfl⟩
  have := zRun_same hr h hr2 h2 hi hi2
  have := zRun_same hr2 h2 hr h hi2 hi
  omega
noncomputable def zPhi (w : Int → Int) (n f p : Int) : Int := zThe fun i => f < i ∧ i ≤ f + p ∧ (zNs (zc1 w n) i p ∨ zNs (zc2 w n) i p)
theorem zPhi_sp (hw : ∀ k, 0 ≤ k → k < n → 0 ≤ w k ∧ w k ≤ 25) {f p : Int} (hr : 0 ≤ f ∧ 1 ≤ p ∧ f + 2 * p ≤ n) (h : zRun w n f p) : f < zPhi w n f p ∧ zPhi w n f p ≤ f + p ∧ (zNs (zc1 w n) (zPhi w n f p) p ∨ zNs (zc2 w n) (zPhi w n f p) p) := Classical.epsilon_spec (zRun_ns hw hr h)
theorem zRuns_le (hn : 0 ≤ n) (hw : ∀ k, 0 ≤ k → k < n → 0 ≤ w k ∧ w k ≤ 25) : zCC (zRun w n) n n ≤ n := by
  have e1 : zCC (zRun w n) n n = zS (fun f => zS (fun x => zS (fun p => zB (zRun w n f p ∧ zPhi w n f p = x)) 1 ((n - f) / 2 + 1)) 0 n) 0 n := zS_congr fun f f0 f1 => by
    rw [zS_swap]
    refine zS_congr fun p p0 p1 => ?_
    rcases zB_c (zRun w n f p) with ⟨c, d⟩ | ⟨c, d⟩
    · rw [d]
      have s := zPhi_sp hw (f := f) (p := p) (by omega) c
      exact (zC_is1 (P := fun x => zRun w n f p ∧ zPhi w n f p = x) (a := 0) (b := n) (x := zPhi w n f p) (by omega) (by omega) ⟨c, rfl⟩ (fun y _ _ q => q.2.symm)).symm
    · rw [d]
      exact (zC_miss (P := fun x => zRun w n f p ∧ zPhi w n f p = x) (fun x _ _ q => c q.1)).symm
  rw [e1, zS_swap]
  have e2 : zS (fun x => zS (fun f => zS (fun p => zB (zRun w n f p ∧ zPhi w n f p = x)) 1 ((n - f) / 2 + 1)) 0 n) 0 n ≤ zC (fun _ => True) 0 n := zS_le fun x x0 x1 => by
    rw [zB_t trivial]
    have key : ∀ f f2 p p2, 0 ≤ f → 0 ≤ f2 → 1 ≤ p → 1 ≤ p2 → p < (n - f) / 2 + 1 → p2 < (n - f2) / 2 + 1 → (zRun w n f p ∧ zPhi w n f p = x) → (zRun w n f2 p2 ∧ zPhi w n f2 p2 = x) → f = f2 ∧ p = p2 := fun f f2 p p2 g1 g2 g3 g4 g5 g6 g7 g8 => by
      have s := zPhi_sp hw (f := f) (p := p) (by omega) g7.1
      have s2 := zPhi_sp hw (f := f2) (p := p2) (by omega) g8.1
      rw [g7.2] at s
      rw [g8.2] at s2
      exact zRun_un hw (by omega) g7.1 (by omega) g8.1 ⟨s.1, s.2.1⟩ ⟨s2.1, s2.2.1⟩ s.2.2 s2.2.2
    have e3 : zS (fun f => zS (fun p => zB (zRun w n f p ∧ zPhi w n f p = x)) 1 ((n - f) / 2 + 1)) 0 n ≤ zC (fun f => ∃ p, 1 ≤ p ∧ p < (n - f) / 2 + 1 ∧ zRun w n f p ∧ zPhi w n f p = x) 0 n := zS_le fun f f0 f1 => by
      rcases zB_c (∃ p, 1 ≤ p ∧ p < (n - f) / 2 + 1 ∧ zRun w n f p ∧ zPhi w n f p = x) with ⟨c, d⟩ | ⟨c, d⟩
      · rw [d]
        exact zC_le1 (P := fun p => zRun w n f p ∧ zPhi w n f p = x) (fun p p2 h1 h2 h3 h4 h5 h6 => (key f f p p2 f0 f0 h1 h3 h2 h4 h5 h6).2)
      · rw [d]
        exact Int.le_of_eq (zC_miss (P := fun p => zRun w n f p ∧ zPhi w n f p = x) (fun p h1 h2 h3 => c ⟨p, h1, h2, h3⟩))
    refine Int.le_trans e3 (zC_le1 (fun f f2 h1 h2 h3 h4 h5 h6 => ?_))
    obtain ⟨p, p1, p2, p3⟩ := h5
    obtain ⟨q, q1, q2, q3⟩ := h6
    exact (key f f2 p q h1 h3 p1 q1 p2 q2 p3 q3).1
  rw [zC_all 0 hn] at e2
  omega
end ZRM

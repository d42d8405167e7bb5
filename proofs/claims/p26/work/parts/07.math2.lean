-- borders and periods of factors
def zPer (w : Int → Int) (i j p : Int) : Prop := zSm w i (i + p) (j - i - p)
/-- the least period; 0 of the empty factor -/
noncomputable def zLP (w : Int → Int) (i j : Int) : Int := @ite _ (j ≤ i) (Classical.propDecidable _) 0 (1 + zFF (fun k => ¬ zPer w i j (1 + k)) (j - i - 1))
/-- the longest border that is shorter than b; 0 without one -/
noncomputable def zEG (w : Int → Int) (i j b : Int) : Int := @ite _ (b ≤ 0) (Classical.propDecidable _) 0 (b - 1 - zFF (fun k => ¬ zSm w i (j - (b - 1 - k)) (b - 1 - k)) (b - 1))
theorem zLP_nil (w : Int → Int) {i j : Int} (h : j ≤ i) : zLP w i j = 0 := by unfold zLP; exact if_pos h
theorem zLP_eq (w : Int → Int) {i j : Int} (h : i < j) : zLP w i j = 1 + zFF (fun k => ¬ zPer w i j (1 + k)) (j - i - 1) := by unfold zLP; exact if_neg (by omega)
theorem zLP_bd (w : Int → Int) {i j : Int} (h : i < j) : 1 ≤ zLP w i j ∧ zLP w i j ≤ j - i := by
  rw [zLP_eq w h]
  obtain ⟨a, b, -, -⟩ := zFF_spec (fun k => ¬ zPer w i j (1 + k)) (m := j - i - 1) (by omega)
  omega
theorem zLP_un {w : Int → Int} {i j p : Int} (h : i < j) (h1 : 1 ≤ p) (h2 : p ≤ j - i) (h3 : ∀ q, 1 ≤ q → q < p → ¬ zPer w i j q) (h4 : p < j - i → zPer w i j p) : zLP w i j = p := by
  rw [zLP_eq w h, zFF_un (r := p - 1) (by omega) (by omega) (fun q a b => h3 (1 + q) (by omega) (by omega)) (fun a b => b (by rw [show 1 + (p - 1) = p by omega]; exact h4 (by omega)))]
  omega
theorem zLP_per {w : Int → Int} {i j : Int} (h : i < j) : zPer w i j (zLP w i j) := by
  obtain ⟨h1, h2⟩ := zLP_bd w h
  by_cases q : zLP w i j = j - i
  · rw [q]; exact zSm_0 w _ _ (by omega)
  · obtain ⟨a, b, c, d⟩ := zFF_spec (fun k => ¬ zPer w i j (1 + k)) (m := j - i - 1) (by omega)
    have e := zLP_eq w h
    have d' := d (by omega)
    rw [e]
    exact Classical.not_not.mp d'
theorem zLP_no {w : Int → Int} {i j q : Int} (h : i < j) (h1 : 1 ≤ q) (h2 : q < zLP w i j) : ¬ zPer w i j q := by
  obtain ⟨a, b, c, d⟩ := zFF_spec (fun k => ¬ zPer w i j (1 + k)) (m := j - i - 1) (by omega)
  have e := zLP_eq w h
  have := c (q - 1) (by omega) (by omega)
  rw [show 1 + (q - 1) = q by omega] at this
  exact this
theorem zEG_0 (w : Int → Int) (i j : Int) {b : Int} (h : b ≤ 0) : zEG w i j b = 0 := by unfold zEG; exact if_pos h
theorem zEG_eq (w : Int → Int) (i j : Int) {b : Int} (h : 0 < b) : zEG w i j b = b - 1 - zFF (fun k => ¬ zSm w i (j - (b - 1 - k)) (b - 1 - k)) (b - 1) := by unfold zEG; exact if_neg (by omega)
theorem zEG_spec (w : Int → Int) (i j : Int) {b : Int} (h : 0 < b) : 0 ≤ zEG w i j b ∧ zEG w i j b < b ∧ zSm w i (j - zEG w i j b) (zEG w i j b) ∧ ∀ k, zEG w i j b < k → k < b → ¬ zSm w i (j - k) k := by
  have e := zEG_eq w i j h
  obtain ⟨a, c, d, f⟩ := zFF_spec (fun k => ¬ zSm w i (j - (b - 1 - k)) (b - 1 - k)) (m := b - 1) (by omega)
  refine ⟨by omega, by omega, ?_, fun k h1 h2 => ?_⟩
  · by_cases q : zFF (fun k => ¬ zSm w i (j - (b - 1 - k)) (b - 1 - k)) (b - 1) = b - 1
    · rw [show zEG w i j b = 0 by omega]; exact zSm_0 w _ _ (Int.le_refl 0)
    · have f' := Classical.not_not.mp (f (by omega))
      rw [e]; exact f'
  · have := d (b - 1 - k) (by omega) (by omega)
    rw [show b - 1 - (b - 1 - k) = k by omega] at this
    exact this
theorem zEG_un {w : Int → Int} {i j b r : Int} (h0 : 0 ≤ r) (h1 : r < b) (h2 : zSm w i (j - r) r) (h3 : ∀ k, r < k → k < b → ¬ zSm w i (j - k) k) : zEG w i j b = r := by
  obtain ⟨a1, a2, a3, a4⟩ := zEG_spec w i j (b := b) (by omega)
  rcases Int.lt_trichotomy (zEG w i j b) r with h | h | h
  · exact absurd h2 (a4 r h h1)
  · exact h
  · exact absurd a3 (h3 _ h a2)
theorem zEG_bd (w : Int → Int) (i j : Int) (b : Int) : 0 ≤ zEG w i j b ∧ (0 < b → zEG w i j b < b) ∧ (b ≤ 0 → zEG w i j b = 0) := by
  rcases Int.lt_or_le 0 b with h | h
  · obtain ⟨a1, a2, a3, a4⟩ := zEG_spec w i j h
    exact ⟨a1, fun _ => a2, fun q => absurd q (by omega)⟩
  · rw [zEG_0 w i j h]
    exact ⟨Int.le_refl 0, fun q => absurd q (by omega), fun _ => rfl⟩
/-- what is left of a factor without its least period is its longest border -/
theorem zEG_LP (w : Int → Int) {i j : Int} (h : i ≤ j) : zEG w i j (j - i) = j - i - zLP w i j := by
  rcases Int.lt_or_le i j with q | q
  · obtain ⟨h1, h2⟩ := zLP_bd w q
    refine zEG_un (by omega) (by omega) ?_ (fun k h3 h4 => ?_)
    · have := zLP_per (w := w) q
      have e : j - (j - i - zLP w i j) = i + zLP w i j := by omega
      rw [e]; exact this
    · have := zLP_no (w := w) (q := j - i - k) q (by omega) (by omega)
      intro h5
      refine this ?_
      show zSm w i (i + (j - i - k)) (j - i - (j - i - k))
      rw [show i + (j - i - k) = j - k by omega, show j - i - (j - i - k) = k by omega]
      exact h5
  · rw [zLP_nil w q, zEG_0 w i j (by omega)]; omega
/-- the borders in their chain: the r-th one below b (0 once there is none) -/
noncomputable def zch (w : Int → Int) (i j : Int) : Nat → Int → Int
  | 0, b => b
  | r + 1, b => zch w i j r (zEG w i j b)
theorem zch_0 (w : Int → Int) (i j : Int) (r : Nat) : zch w i j r 0 = 0 := by
  induction r with
  | zero => rfl
  | succ r ih => show zch w i j r (zEG w i j 0) = 0; rw [zEG_0 w i j (Int.le_refl 0)]; exact ih
theorem zch_end (w : Int → Int) (i j : Int) : ∀ (r : Nat) (b : Int), zch w i j (r + 1) b = zEG w i j (zch w i j r b) := by
  intro r
  induction r with
  | zero => intro b; rfl
  | succ r ih => intro b; exact ih (zEG w i j b)
theorem zch_bd (w : Int → Int) (i j : Int) : ∀ (r : Nat) (b : Int), 0 ≤ b → 0 ≤ zch w i j r b ∧ zch w i j r b ≤ b := by
  intro r
  induction r with
  | zero => intro b h; exact ⟨h, Int.le_refl b⟩
  | succ r ih =>
    intro b h
    obtain ⟨h1, h2, h3⟩ := zEG_bd w i j b
    have := ih (zEG w i j b) h1
    show 0 ≤ zch w i j r (zEG w i j b) ∧ _
    have e : zEG w i j b ≤ b := by rcases Int.lt_or_le 0 b with q | q; · have := h2 q; omega
                                   · have := h3 q; omega
    exact ⟨this.1, Int.le_trans this.2 e⟩
/-- what border(letters, rank) tells -/
noncomputable def zBorder (w : Int → Int) (n r : Int) : Int := @ite _ (0 < zch w 0 n (r.toNat + 1) n) (Classical.propDecidable _) (zch w 0 n (r.toNat + 1) n) (-4)
-- runs
/-- the place behind the letters that repeat with the period p from i on -/
noncomputable def zRT (w : Int → Int) (n i p : Int) : Int := i + p + zAF w n i (i + p)
def zRun (w : Int → Int) (n i p : Int) : Prop := ¬ (0 < i ∧ w (i - 1) = w (i - 1 + p)) ∧ 2 * p ≤ zRT w n i p - i ∧ zLP w i (zRT w n i p) = p
theorem zRT_bd {w : Int → Int} {n i p : Int} (h1 : 0 ≤ p) (h3 : i + p ≤ n) : i + p ≤ zRT w n i p ∧ zRT w n i p ≤ n := by
  have := zAF_bd (w := w) (n := n) (i := i) (j := i + p) (by omega) (by omega)
  unfold zRT; omega
theorem zEG_hit {w : Int → Int} {i j b : Int} (h0 : 0 ≤ b) (h : zSm w i (j - b) b) : zEG w i j (b + 1) = b :=
  zEG_un h0 (by omega) h (fun k h1 h2 => absurd h2 (by omega))
theorem zEG_miss {w : Int → Int} {i j b : Int} (h0 : 0 < b) (h : ¬ zSm w i (j - b) b) : zEG w i j (b + 1) = zEG w i j b := by
  obtain ⟨a1, a2, a3, a4⟩ := zEG_spec w i j h0
  refine zEG_un a1 (by omega) a3 (fun k h1 h2 => ?_)
  by_cases q : k = b
  · rw [q]; exact h
  · exact a4 k h1 (by omega)
theorem zEG_1 (w : Int → Int) (i j : Int) : zEG w i j 1 = 0 := by
  obtain ⟨a1, a2, a3, a4⟩ := zEG_spec w i j (b := 1) (by omega)
  omega
theorem zPer_of {w : Int → Int} {i j d k : Int} (h : ∀ q, i ≤ q → q < k → w q = w (q + d)) (hk : j ≤ k + d) : zPer w i j d := by
  intro q h1 h2
  have := h (i + q) (by omega) (by omega)
  rw [show i + d + q = i + q + d by omega]; exact this
def zPrim (w : Int → Int) (i j : Int) : Prop := ¬ (zLP w i j < j - i ∧ (j - i) % zLP w i j = 0)
theorem zBorder_hit {w : Int → Int} {n r d o : Int} (h : zch w 0 n (r.toNat + 1) n = zch w 0 n ((r - o).toNat + 1) (n - d + 1)) (hp : zPer w 0 n d) (h1 : d < n) (e : o = r) : zBorder w n r = n - d := by
  have e1 : zEG w 0 n (n - d + 1) = n - d := zEG_hit (by omega) (by
    have : zSm w 0 (0 + d) (n - 0 - d) := hp
    rw [show n - (n - d) = 0 + d by omega, show n - d = n - 0 - d by omega]; exact this)
  have e2 : zch w 0 n (r.toNat + 1) n = n - d := by
    rw [h, e, show (r - r).toNat = 0 by omega]
    show zEG w 0 n (n - d + 1) = n - d
    exact e1
  unfold zBorder
  rw [e2]
  exact if_pos (by omega)
theorem zBorder_on {w : Int → Int} {n r d o : Int} (h : zch w 0 n (r.toNat + 1) n = zch w 0 n ((r - o).toNat + 1) (n - d + 1)) (hp : zPer w 0 n d) (h1 : d < n) (e : o < r) : zch w 0 n (r.toNat + 1) n = zch w 0 n ((r - (o + 1)).toNat + 1) (n - (d + 1) + 1) := by
  have e1 : zEG w 0 n (n - d + 1) = n - d := zEG_hit (by omega) (by
    have : zSm w 0 (0 + d) (n - 0 - d) := hp
    rw [show n - (n - d) = 0 + d by omega, show n - d = n - 0 - d by omega]; exact this)
  rw [h]
  show zch w 0 n (r - o).toNat (zEG w 0 n (n - d + 1)) = _
  rw [e1, show (r - (o + 1)).toNat + 1 = (r - o).toNat by omega, show n - (d + 1) + 1 = n - d by omega]
theorem zBorder_skip {w : Int → Int} {n r d o : Int} (h : zch w 0 n (r.toNat + 1) n = zch w 0 n ((r - o).toNat + 1) (n - d + 1)) (hp : ¬ zPer w 0 n d) (h1 : d < n) : zch w 0 n (r.toNat + 1) n = zch w 0 n ((r - o).toNat + 1) (n - (d + 1) + 1) := by
  have e1 : zEG w 0 n (n - d + 1) = zEG w 0 n (n - d) := zEG_miss (by omega) (fun q => hp (by
    show zSm w 0 (0 + d) (n - 0 - d)
    rw [show 0 + d = n - (n - d) by omega, show n - 0 - d = n - d by omega]; exact q))
  rw [h]
  show zch w 0 n (r - o).toNat (zEG w 0 n (n - d + 1)) = zch w 0 n (r - o).toNat (zEG w 0 n (n - (d + 1) + 1))
  rw [e1, show n - (d + 1) + 1 = n - d by omega]
theorem zBorder_end {w : Int → Int} {n r d o : Int} (h : zch w 0 n (r.toNat + 1) n = zch w 0 n ((r - o).toNat + 1) (n - d + 1)) (e : d = n) : zBorder w n r = -4 := by
  have e2 : zch w 0 n (r.toNat + 1) n = 0 := by
    rw [h, e, show n - n + 1 = 1 by omega]
    show zch w 0 n (r - o).toNat (zEG w 0 n 1) = 0
    rw [zEG_1]
    exact zch_0 w 0 n _
  unfold zBorder
  rw [e2]
  exact if_neg (by omega)
theorem zBorder_bd (w : Int → Int) {n : Int} (r : Int) (h : 0 ≤ n) : -4 ≤ zBorder w n r ∧ zBorder w n r ≤ n := by
  have := zch_bd w 0 n (r.toNat + 1) n h
  unfold zBorder
  by_cases q : 0 < zch w 0 n (r.toNat + 1) n
  · rw [if_pos q]; omega
  · rw [if_neg q]; omega

-- sums, greatest values and first failures over ranges of whole numbers
noncomputable def zff (p : Int → Prop) : Nat → Int → Int
  | 0, k => k
  | m + 1, k => @ite _ (p k) (Classical.propDecidable _) (zff p m (k + 1)) k
/-- the first place of 0 .. m-1 at which p fails; m if there is none -/
noncomputable def zFF (p : Int → Prop) (m : Int) : Int := zff p m.toNat 0
theorem zff_spec (p : Int → Prop) : ∀ (m : Nat) (k : Int), k ≤ zff p m k ∧ zff p m k ≤ k + m ∧ (∀ j, k ≤ j → j < zff p m k → p j) ∧ (zff p m k < k + m → ¬ p (zff p m k)) := by
  intro m
  induction m with
  | zero => intro k; refine ⟨Int.le_refl _, by show k ≤ k + ((0 : Nat) : Int); omega, fun j h1 h2 => ?_, fun h => ?_⟩
            · exact absurd h2 (by show ¬ j < k; omega)
            · exact absurd h (by show ¬ k < k + ((0 : Nat) : Int); omega)
  | succ m ih =>
    intro k
    by_cases h : p k
    · have e : zff p (m + 1) k = zff p m (k + 1) := by rw [zff]; exact if_pos h
      rw [e]
      obtain ⟨a, b, c, d⟩ := ih (k + 1)
      refine ⟨by omega, by omega, fun j h1 h2 => ?_, fun q => d (by omega)⟩
      by_cases hj : j = k
      · rw [hj]; exact h
      · exact c j (by omega) h2
    · have e : zff p (m + 1) k = k := by rw [zff]; exact if_neg h
      rw [e]
      exact ⟨Int.le_refl _, by omega, fun j h1 h2 => absurd h2 (by omega), fun _ => h⟩
theorem zFF_spec (p : Int → Prop) {m : Int} (hm : 0 ≤ m) : 0 ≤ zFF p m ∧ zFF p m ≤ m ∧ (∀ j, 0 ≤ j → j < zFF p m → p j) ∧ (zFF p m < m → ¬ p (zFF p m)) := by
  obtain ⟨a, b, c, d⟩ := zff_spec p m.toNat 0
  refine ⟨a, ?_, c, fun h => d ?_⟩
  · show zff p m.toNat 0 ≤ m; omega
  · show zff p m.toNat 0 < 0 + (m.toNat : Int)
    have : zff p m.toNat 0 < m := h
    omega
theorem zFF_un {p : Int → Prop} {m r : Int} (h0 : 0 ≤ r) (hm : r ≤ m) (h1 : ∀ j, 0 ≤ j → j < r → p j) (h2 : r < m → ¬ p r) : zFF p m = r := by
  obtain ⟨a, b, c, d⟩ := zFF_spec p (m := m) (by omega)
  rcases Int.lt_trichotomy (zFF p m) r with h | h | h
  · exact absurd (h1 _ a h) (d (by omega))
  · exact h
  · exact absurd (c r h0 h) (h2 (by omega))
theorem zFF_neg (p : Int → Prop) {m : Int} (hm : m ≤ 0) : zFF p m = 0 := by
  have e : m.toNat = 0 := by omega
  show zff p m.toNat 0 = 0
  rw [e]; rfl
theorem zFF_congr {p q : Int → Prop} {m : Int} (h : ∀ j, 0 ≤ j → j < m → (p j ↔ q j)) : zFF p m = zFF q m := by
  rcases Int.lt_or_le m 0 with hm | hm
  · rw [zFF_neg p (by omega), zFF_neg q (by omega)]
  · obtain ⟨a, b, c, d⟩ := zFF_spec q hm
    exact zFF_un a b (fun j h1 h2 => (h j h1 (by omega)).mpr (c j h1 h2)) (fun h3 h4 => d h3 ((h _ a h3).mp h4))
def zs (f : Int → Int) (a : Int) : Nat → Int
  | 0 => 0
  | m + 1 => zs f a m + f (a + m)
/-- the sum of f over a .. b-1 -/
def zS (f : Int → Int) (a b : Int) : Int := zs f a (b - a).toNat
theorem zS_nil (f : Int → Int) {a b : Int} (h : b ≤ a) : zS f a b = 0 := by
  have e : (b - a).toNat = 0 := by omega
  show zs f a (b - a).toNat = 0
  rw [e]; rfl
theorem zS_succ (f : Int → Int) {a b : Int} (h : a ≤ b) : zS f a (b + 1) = zS f a b + f b := by
  have e : (b + 1 - a).toNat = (b - a).toNat + 1 := by omega
  show zs f a (b + 1 - a).toNat = zs f a (b - a).toNat + f b
  rw [e]
  show zs f a (b - a).toNat + f (a + ((b - a).toNat : Int)) = _
  rw [show a + ((b - a).toNat : Int) = b by omega]
theorem zS_ind {f : Int → Int} {P : Int → Int → Prop} {a : Int} (h0 : P a 0) (hs : ∀ b x, a ≤ b → P b x → P (b + 1) (x + f b)) : ∀ b, a ≤ b → P b (zS f a b) := by
  intro b hb
  obtain ⟨m, hm⟩ : ∃ m : Nat, b = a + m := ⟨(b - a).toNat, by omega⟩
  subst hm
  induction m with
  | zero => rw [zS_nil f (by omega)]; rw [show a + ((0 : Nat) : Int) = a by omega]; exact h0
  | succ m ih =>
    rw [show a + ((m + 1 : Nat) : Int) = (a + m) + 1 by omega, zS_succ f (by omega)]
    exact hs _ _ (by omega) (ih (by omega))
theorem zS_congr {f g : Int → Int} {a b : Int} (h : ∀ k, a ≤ k → k < b → f k = g k) : zS f a b = zS g a b := by
  rcases Int.lt_or_le b a with hb | hb
  · rw [zS_nil f (by omega), zS_nil g (by omega)]
  · have key : ∀ c, a ≤ c → (c ≤ b → zS f a c = zS g a c) := by
      refine zS_ind (P := fun c x => c ≤ b → x = zS g a c) (fun _ => (zS_nil g (by omega)).symm) ?_
      intro c x hc ih hcb
      rw [ih (by omega), zS_succ g hc, h c hc (by omega)]
    exact key b hb (by omega)
theorem zS_bd {f : Int → Int} {a b : Int} (c : Int) (hab : a ≤ b) (h : ∀ k, a ≤ k → k < b → 0 ≤ f k ∧ f k ≤ c) : 0 ≤ zS f a b ∧ zS f a b ≤ (b - a) * c := by
  have key : ∀ d, a ≤ d → (d ≤ b → 0 ≤ zS f a d ∧ zS f a d ≤ (d - a) * c) := by
    refine zS_ind (P := fun d x => d ≤ b → 0 ≤ x ∧ x ≤ (d - a) * c) (fun _ => ⟨Int.le_refl 0, by rw [Int.sub_self, Int.zero_mul]; exact Int.le_refl 0⟩) ?_
    intro d x hd ih hdb
    have h1 := ih (by omega)
    have h2 := h d hd (by omega)
    have e : (d + 1 - a) * c = (d - a) * c + c := by rw [show d + 1 - a = (d - a) + 1 by omega, Int.add_mul, Int.one_mul]
    rw [e]; omega
  exact key b hab (by omega)
theorem zS_split (f : Int → Int) {a b c : Int} (h1 : a ≤ b) (h2 : b ≤ c) : zS f a c = zS f a b + zS f b c := by
  refine zS_ind (f := f) (P := fun d x => zS f a d = zS f a b + x) (a := b) (by omega) ?_ c h2
  intro d x hd ih
  rw [zS_succ f (by omega), ih]; omega
theorem zS_zero {f : Int → Int} {a b : Int} (h : ∀ k, a ≤ k → k < b → f k = 0) : zS f a b = 0 := by
  rcases Int.lt_or_le b a with hb | hb
  · exact zS_nil f (by omega)
  · have := zS_bd (f := f) (a := a) (b := b) 0 hb (fun k h1 h2 => by rw [h k h1 h2]; omega)
    omega
theorem zS_add (f g : Int → Int) (a b : Int) : zS (fun k => f k + g k) a b = zS f a b + zS g a b := by
  rcases Int.lt_or_le b a with hb | hb
  · rw [zS_nil _ (by omega), zS_nil _ (by omega), zS_nil _ (by omega)]; rfl
  · refine zS_ind (f := fun k => f k + g k) (P := fun d x => x = zS f a d + zS g a d) (by rw [zS_nil _ (by omega), zS_nil _ (by omega)]; rfl) ?_ b hb
    intro d x hd ih
    rw [ih, zS_succ f hd, zS_succ g hd]; omega
theorem zS_one (f : Int → Int) (a : Int) : zS f a (a + 1) = f a := by
  rw [zS_succ f (by omega), zS_nil f (by omega)]; omega
theorem zS_head (f : Int → Int) {a b : Int} (h : a < b) : zS f a b = f a + zS f (a + 1) b := by
  rw [zS_split f (b := a + 1) (by omega) (by omega), zS_one]
/-- two sums in the other order -/
theorem zS_swap (f : Int → Int → Int) (a b c d : Int) : zS (fun i => zS (fun j => f i j) c d) a b = zS (fun j => zS (fun i => f i j) a b) c d := by
  rcases Int.lt_or_le b a with hb | hb
  · rw [zS_nil _ (by omega)]
    exact (zS_zero fun k _ _ => zS_nil _ (by omega)).symm
  · refine zS_ind (f := fun i => zS (fun j => f i j) c d) (P := fun e x => x = zS (fun j => zS (fun i => f i j) a e) c d) ?_ ?_ b hb
    · exact (zS_zero fun k _ _ => zS_nil _ (by omega)).symm
    · intro e x he ih
      rw [ih, ← zS_add]
      exact zS_congr fun k _ _ => (zS_succ _ he).symm
theorem zS_shift (f : Int → Int) (a b c : Int) : zS (fun k => f (k + c)) a b = zS f (a + c) (b + c) := by
  rcases Int.lt_or_le b a with hb | hb
  · rw [zS_nil _ (by omega), zS_nil _ (by omega)]
  · refine zS_ind (f := fun k => f (k + c)) (P := fun d x => x = zS f (a + c) (d + c)) (zS_nil _ (by omega)).symm ?_ b hb
    intro d x hd ih
    rw [ih, show d + 1 + c = (d + c) + 1 by omega, zS_succ f (by omega)]
def zm (f : Int → Int) (a : Int) : Nat → Int
  | 0 => 0
  | m + 1 => max (zm f a m) (f (a + m))
/-- the greatest f over a .. b-1, at least 0 -/
def zM (f : Int → Int) (a b : Int) : Int := zm f a (b - a).toNat
theorem zM_nil (f : Int → Int) {a b : Int} (h : b ≤ a) : zM f a b = 0 := by
  have e : (b - a).toNat = 0 := by omega
  show zm f a (b - a).toNat = 0
  rw [e]; rfl
theorem zM_succ (f : Int → Int) {a b : Int} (h : a ≤ b) : zM f a (b + 1) = max (zM f a b) (f b) := by
  have e : (b + 1 - a).toNat = (b - a).toNat + 1 := by omega
  show zm f a (b + 1 - a).toNat = max (zm f a (b - a).toNat) (f b)
  rw [e]
  show max (zm f a (b - a).toNat) (f (a + ((b - a).toNat : Int))) = _
  rw [show a + ((b - a).toNat : Int) = b by omega]
theorem zM_ind {f : Int → Int} {P : Int → Int → Prop} {a : Int} (h0 : P a 0) (hs : ∀ b x, a ≤ b → P b x → P (b + 1) (max x (f b))) : ∀ b, a ≤ b → P b (zM f a b) := by
  intro b hb
  obtain ⟨m, hm⟩ : ∃ m : Nat, b = a + m := ⟨(b - a).toNat, by omega⟩
  subst hm
  induction m with
  | zero => rw [zM_nil f (by omega)]; rw [show a + ((0 : Nat) : Int) = a by omega]; exact h0
  | succ m ih =>
    rw [show a + ((m + 1 : Nat) : Int) = (a + m) + 1 by omega, zM_succ f (by omega)]
    exact hs _ _ (by omega) (ih (by omega))
theorem zM_spec (f : Int → Int) (a b : Int) : 0 ≤ zM f a b ∧ (∀ k, a ≤ k → k < b → f k ≤ zM f a b) ∧ (zM f a b = 0 ∨ ∃ k, a ≤ k ∧ k < b ∧ zM f a b = f k) := by
  rcases Int.lt_or_le b a with hb | hb
  · rw [zM_nil f (by omega)]
    exact ⟨Int.le_refl 0, fun k h1 h2 => absurd h2 (by omega), Or.inl rfl⟩
  · refine zM_ind (f := f) (P := fun d x => 0 ≤ x ∧ (∀ k, a ≤ k → k < d → f k ≤ x) ∧ (x = 0 ∨ ∃ k, a ≤ k ∧ k < d ∧ x = f k)) ⟨Int.le_refl 0, fun k h1 h2 => absurd h2 (by omega), Or.inl rfl⟩ ?_ b hb
    intro d x hd ih
    obtain ⟨h1, h2, h3⟩ := ih
    refine ⟨by omega, fun k q1 q2 => ?_, ?_⟩
    · by_cases hk : k = d
      · rw [hk]; omega
      · have := h2 k q1 (by omega); omega
    · rcases Int.lt_or_le x (f d) with q | q
      · exact Or.inr ⟨d, hd, by omega, by omega⟩
      · rw [Int.max_eq_left q]
        rcases h3 with h3 | ⟨k, a1, a2, a3⟩
        · exact Or.inl h3
        · exact Or.inr ⟨k, a1, by omega, a3⟩
theorem zM_un {f : Int → Int} {a b r : Int} (h0 : 0 ≤ r) (h1 : ∀ k, a ≤ k → k < b → f k ≤ r) (h2 : r = 0 ∨ ∃ k, a ≤ k ∧ k < b ∧ r = f k) : zM f a b = r := by
  obtain ⟨g0, g1, g2⟩ := zM_spec f a b
  have ha : zM f a b ≤ r := by
    rcases g2 with g | ⟨k, a1, a2, a3⟩
    · omega
    · have := h1 k a1 a2; omega
  have hb : r ≤ zM f a b := by
    rcases h2 with g | ⟨k, a1, a2, a3⟩
    · omega
    · have := g1 k a1 a2; omega
  omega
/-- the same letters: m of them from i and from j on -/
def zSm (w : Int → Int) (i j m : Int) : Prop := ∀ k, 0 ≤ k → k < m → w (i + k) = w (j + k)
theorem zSm_symm {w : Int → Int} {i j m : Int} (h : zSm w i j m) : zSm w j i m := fun k a b => (h k a b).symm
theorem zSm_less {w : Int → Int} {i j m q : Int} (h : zSm w i j m) (hq : q ≤ m) : zSm w i j q := fun k a b => h k a (by omega)
theorem zSm_0 (w : Int → Int) (i j : Int) {m : Int} (h : m ≤ 0) : zSm w i j m := fun k a b => absurd b (by omega)
/-- how many letters are the same from i and from j on, in a word of n letters -/
noncomputable def zAF (w : Int → Int) (n i j : Int) : Int := zFF (fun k => w (i + k) = w (j + k)) (n - max i j)
/-- how many letters ahead of i and ahead of j are the same -/
noncomputable def zAA (w : Int → Int) (i j : Int) : Int := zFF (fun k => w (i - 1 - k) = w (j - 1 - k)) (min i j)
theorem zAF_ge {w : Int → Int} {n i j m : Int} (hi : i ≤ n) (hj : j ≤ n) (hm : 0 ≤ m) : m ≤ zAF w n i j ↔ i + m ≤ n ∧ j + m ≤ n ∧ zSm w i j m := by
  obtain ⟨a, b, c, d⟩ := zFF_spec (fun k => w (i + k) = w (j + k)) (m := n - max i j) (by omega)
  constructor
  · intro h
    have h' : m ≤ zFF (fun k => w (i + k) = w (j + k)) (n - max i j) := h
    exact ⟨by omega, by omega, fun k h1 h2 => c k h1 (by omega)⟩
  · rintro ⟨h1, h2, h3⟩
    show m ≤ zFF (fun k => w (i + k) = w (j + k)) (n - max i j)
    rcases Int.lt_or_le (zFF (fun k => w (i + k) = w (j + k)) (n - max i j)) m with q | q
    · exact absurd (h3 _ a q) (d (by omega))
    · exact q
theorem zAF_bd {w : Int → Int} {n i j : Int} (hi : i ≤ n) (hj : j ≤ n) : 0 ≤ zAF w n i j ∧ zAF w n i j ≤ n - i ∧ zAF w n i j ≤ n - j := by
  obtain ⟨a, b, c, d⟩ := zFF_spec (fun k => w (i + k) = w (j + k)) (m := n - max i j) (by omega)
  refine ⟨a, ?_, ?_⟩ <;> show zFF (fun k => w (i + k) = w (j + k)) (n - max i j) ≤ _ <;> omega
theorem zAF_ne {w : Int → Int} {n i j : Int} (hi : i ≤ n) (hj : j ≤ n) (h : zAF w n i j < n - i) (h2 : zAF w n i j < n - j) : w (i + zAF w n i j) ≠ w (j + zAF w n i j) := by
  obtain ⟨a, b, c, d⟩ := zFF_spec (fun k => w (i + k) = w (j + k)) (m := n - max i j) (by omega)
  exact d (by show zAF w n i j < _; omega)
theorem zAF_symm (w : Int → Int) (n i j : Int) : zAF w n i j = zAF w n j i := by
  show zFF _ _ = zFF _ _
  rw [show max i j = max j i by omega]
  exact zFF_congr fun k _ _ => eq_comm
theorem zAF_un {w : Int → Int} {n i j r : Int} (h0 : 0 ≤ r) (h1 : i + r ≤ n) (h2 : j + r ≤ n) (h3 : zSm w i j r) (h4 : i + r < n → j + r < n → w (i + r) ≠ w (j + r)) : zAF w n i j = r := by
  refine zFF_un h0 (by omega) h3 (fun h => h4 (by omega) (by omega))
theorem zAA_ge {w : Int → Int} {i j m : Int} (hi : 0 ≤ i) (hj : 0 ≤ j) (hm : 0 ≤ m) : m ≤ zAA w i j ↔ m ≤ i ∧ m ≤ j ∧ zSm w (i - m) (j - m) m := by
  obtain ⟨a, b, c, d⟩ := zFF_spec (fun k => w (i - 1 - k) = w (j - 1 - k)) (m := min i j) (by omega)
  constructor
  · intro h
    have h' : m ≤ zFF (fun k => w (i - 1 - k) = w (j - 1 - k)) (min i j) := h
    refine ⟨by omega, by omega, fun k h1 h2 => ?_⟩
    have := c (m - 1 - k) (by omega) (by omega)
    rw [show i - 1 - (m - 1 - k) = i - m + k by omega, show j - 1 - (m - 1 - k) = j - m + k by omega] at this
    exact this
  · rintro ⟨h1, h2, h3⟩
    show m ≤ zFF (fun k => w (i - 1 - k) = w (j - 1 - k)) (min i j)
    rcases Int.lt_or_le (zFF (fun k => w (i - 1 - k) = w (j - 1 - k)) (min i j)) m with q | q
    · have h5 := h3 (m - 1 - zFF (fun k => w (i - 1 - k) = w (j - 1 - k)) (min i j)) (by omega) (by omega)
      refine absurd ?_ (d (by omega))
      rw [show i - m + (m - 1 - zFF (fun k => w (i - 1 - k) = w (j - 1 - k)) (min i j)) = i - 1 - zFF (fun k => w (i - 1 - k) = w (j - 1 - k)) (min i j) by omega, show j - m + (m - 1 - zFF (fun k => w (i - 1 - k) = w (j - 1 - k)) (min i j)) = j - 1 - zFF (fun k => w (i - 1 - k) = w (j - 1 - k)) (min i j) by omega] at h5
      exact h5
    · exact q
theorem zAA_bd {w : Int → Int} {i j : Int} (hi : 0 ≤ i) (hj : 0 ≤ j) : 0 ≤ zAA w i j ∧ zAA w i j ≤ i ∧ zAA w i j ≤ j := by
  obtain ⟨a, b, c, d⟩ := zFF_spec (fun k => w (i - 1 - k) = w (j - 1 - k)) (m := min i j) (by omega)
  refine ⟨a, ?_, ?_⟩ <;> show zFF (fun k => w (i - 1 - k) = w (j - 1 - k)) (min i j) ≤ _ <;> omega
theorem zAA_symm (w : Int → Int) (i j : Int) : zAA w i j = zAA w j i := by
  show zFF _ _ = zFF _ _
  rw [show min i j = min j i by omega]
  exact zFF_congr fun k _ _ => eq_comm
theorem zAA_self (w : Int → Int) {i : Int} (hi : 0 ≤ i) : zAA w i i = i := by
  have h := zAA_bd (w := w) hi hi
  have h2 := (zAA_ge (w := w) hi hi hi).mpr ⟨by omega, by omega, fun _ _ _ => rfl⟩
  omega
theorem zAA_un {w : Int → Int} {i j r : Int} (h0 : 0 ≤ r) (h1 : r ≤ i) (h2 : r ≤ j) (h3 : ∀ k, 0 ≤ k → k < r → w (i - 1 - k) = w (j - 1 - k)) (h4 : r < i → r < j → w (i - 1 - r) ≠ w (j - 1 - r)) : zAA w i j = r :=
  zFF_un h0 (by omega) h3 (fun h => h4 (by omega) (by omega))

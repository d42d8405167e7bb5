-- at most one, just one; pairs by their ranks
theorem zC_is1 {P : Int → Prop} {a b x : Int} (h1 : a ≤ x) (h2 : x < b) (h3 : P x) (u : ∀ y, a ≤ y → y < b → P y → y = x) : zC P a b = 1 := by
  have e : zC P a b = zC (fun k => k = x ∧ P k) a b := zC_congr fun k k1 k2 => ⟨fun q => ⟨u k k1 k2 q, q⟩, fun q => q.2⟩
  rw [e]
  exact zC_hit h1 h2 h3
theorem zC_le1 {P : Int → Prop} {a b : Int} (u : ∀ x y, a ≤ x → x < b → a ≤ y → y < b → P x → P y → x = y) : zC P a b ≤ 1 := by
  rcases Classical.em (∃ x, a ≤ x ∧ x < b ∧ P x) with ⟨x, h1, h2, h3⟩ | h
  · rw [zC_is1 h1 h2 h3 (fun y y1 y2 y3 => u y x y1 y2 h1 h2 y3 h3)]
    exact Int.le_refl 1
  · rw [zC_miss (P := P) (a := a) (b := b) (fun k h1 h2 h3 => h ⟨k, h1, h2, h3⟩)]
    omega
theorem zS_le {f g : Int → Int} {a b : Int} (h : ∀ k, a ≤ k → k < b → f k ≤ g k) : zS f a b ≤ zS g a b := by
  rcases Int.lt_or_le b a with hb | hb
  · rw [zS_nil f (by omega), zS_nil g (by omega)]; exact Int.le_refl 0
  · have key : ∀ d, a ≤ d → (d ≤ b → zS f a d ≤ zS g a d) := by
      refine zS_ind (P := fun d x => d ≤ b → x ≤ zS g a d) (fun _ => by rw [zS_nil g (Int.le_refl a)]; exact Int.le_refl 0) ?_
      intro d x hd ih hdb
      have h1 := ih (by omega)
      have h2 := h d hd (by omega)
      rw [zS_succ g hd]; omega
    exact key b hb (Int.le_refl b)
theorem zC_sub {P Q : Int → Prop} {a b : Int} (h : ∀ k, a ≤ k → k < b → P k → Q k) : zC P a b ≤ zC Q a b := zS_le fun k h1 h2 => by
  rcases zB_c (P k) with ⟨c, d⟩ | ⟨c, d⟩
  · rw [d, zB_t (h k h1 h2 c)]; exact Int.le_refl 1
  · rw [d]; exact (zB_r _).1
theorem zC_all (a : Int) {b : Int} (h : a ≤ b) : zC (fun _ => True) a b = b - a := zC_below (x := b) ⟨h, Int.le_refl b⟩ (fun k _ h2 => ⟨fun _ => h2, fun _ => trivial⟩)
theorem zC_pos {P : Int → Prop} {a b x : Int} (h1 : a ≤ x) (h2 : x < b) (h3 : P x) : 0 < zC P a b := by
  have := zC_sub (P := fun k => k = x ∧ P k) (Q := P) (a := a) (b := b) (fun k _ _ q => q.2)
  have := zC_hit (P := P) h1 h2 h3
  omega
theorem zC_two {P : Int → Prop} {a b x y : Int} (h1 : a ≤ x) (h2 : x < b) (h3 : P x) (h4 : a ≤ y) (h5 : y < b) (h6 : P y) (hne : x ≠ y) : 1 < zC P a b := by
  have e := zC_hit (P := P) h1 h2 h3
  have := zC_lt (P := fun k => k = x ∧ P k) (Q := P) h4 h5 h6 (fun q => hne q.1.symm) (fun k _ _ q => q.2)
  omega
/-- who maps 0 .. n-1 into itself, one to one, reaches all -/
theorem zPig {f : Int → Int} {n : Int} (h : ∀ x, 0 ≤ x → x < n → 0 ≤ f x ∧ f x < n) (inj : ∀ x y, 0 ≤ x → x < n → 0 ≤ y → y < n → f x = f y → x = y) {k : Int} (h0 : 0 ≤ k) (hk : k < n) : ∃ x, 0 ≤ x ∧ x < n ∧ f x = k := by
  rcases Classical.em (∃ x, 0 ≤ x ∧ x < n ∧ f x = k) with q | q
  · exact q
  · exfalso
    have e1 : zS (fun x => zS (fun y => zB (f x = y)) 0 n) 0 n = n := by
      have : zS (fun x => zS (fun y => zB (f x = y)) 0 n) 0 n = zC (fun _ => True) 0 n := zS_congr fun x x0 x1 => by
        rw [zB_t trivial]
        exact zC_is1 (P := fun y => f x = y) (h x x0 x1).1 (h x x0 x1).2 rfl (fun y _ _ e => e.symm)
      rw [this, zC_all 0 (by omega)]; omega
    rw [zS_swap] at e1
    have e2 : zS (fun y => zS (fun x => zB (f x = y)) 0 n) 0 n ≤ zC (fun y => ∃ x, 0 ≤ x ∧ x < n ∧ f x = y) 0 n := zS_le fun y y0 y1 => by
      rcases zB_c (∃ x, 0 ≤ x ∧ x < n ∧ f x = y) with ⟨c, d⟩ | ⟨c, d⟩
      · rw [d]
        exact zC_le1 (P := fun x => f x = y) (fun x z x0 x1 z0 z1 a b => inj x z x0 x1 z0 z1 (a.trans b.symm))
      · rw [d]
        exact Int.le_of_eq (zC_miss (P := fun x => f x = y) (fun x x0 x1 e => c ⟨x, x0, x1, e⟩))
    have e3 := zC_lt (P := fun y => ∃ x, 0 ≤ x ∧ x < n ∧ f x = y) (Q := fun _ => True) h0 hk trivial q (fun _ _ _ _ => trivial)
    have e4 := zC_all 0 (b := n) (by omega)
    omega
theorem zLeast {P : Int → Prop} {a : Int} : ∀ (m : Nat) {x : Int}, a ≤ x → x < a + m → P x → ∃ y, a ≤ y ∧ y ≤ x ∧ P y ∧ ∀ z, a ≤ z → z < y → ¬ P z := by
  intro m
  induction m with
  | zero => intro x h1 h2; omega
  | succ m ih =>
    intro x h1 h2 h3
    rcases Classical.em (∃ z, a ≤ z ∧ z < x ∧ P z) with ⟨z, z1, z2, z3⟩ | q
    · obtain ⟨y, y1, y2, y3, y4⟩ := ih z1 (by omega) z3
      exact ⟨y, y1, by omega, y3, y4⟩
    · exact ⟨x, h1, Int.le_refl x, h3, fun z z1 z2 z3 => q ⟨z, z1, z2, z3⟩⟩
theorem zMost {P : Int → Prop} {b : Int} : ∀ (m : Nat) {x : Int}, b - m < x → x ≤ b → P x → ∃ y, x ≤ y ∧ y ≤ b ∧ P y ∧ ∀ z, y < z → z ≤ b → ¬ P z := by
  intro m
  induction m with
  | zero => intro x h1 h2; omega
  | succ m ih =>
    intro x h1 h2 h3
    rcases Classical.em (∃ z, x < z ∧ z ≤ b ∧ P z) with ⟨z, z1, z2, z3⟩ | q
    · obtain ⟨y, y1, y2, y3, y4⟩ := ih (by omega) z2 z3
      exact ⟨y, by omega, y2, y3, y4⟩
    · exact ⟨x, Int.le_refl x, h2, h3, fun z z1 z2 z3 => q ⟨z, z1, z2, z3⟩⟩
section ZPR
variable {P : Int → Int → Prop} {n r : Int}
theorem zCC_nn (h : 0 ≤ n) {i : Int} (hi : 0 ≤ i ∧ i ≤ n) : 0 ≤ zCC P n i := by
  have := zCC_mono P (n := n) (i := 0) (j := i) (Int.le_refl 0) hi.1 hi.2
  rw [zCC_0] at this; exact this
theorem zCC_bd (P : Int → Int → Prop) (h : 0 ≤ n ∧ n ≤ 40) : 0 ≤ zCC P n n ∧ zCC P n n ≤ 1600 := by
  have := zS_bd (f := zRow P n) 40 h.1 (fun k a b => by have := zRow_bd P (n := n) (i := k) (by omega); omega)
  unfold zCC; omega
theorem zCC_sub {P Q : Int → Int → Prop} (h : ∀ i d, P i d → Q i d) : zCC P n n ≤ zCC Q n n := zS_le fun i _ _ => zC_sub fun d _ _ q => h i d q
theorem zRk_ex1 {i : Int} (hi : 0 ≤ i ∧ i < n) : ∀ m : Nat, 1 + (m : Int) ≤ (n - i) / 2 + 1 → zCC P n i ≤ r → r < zCC P n i + zC (P i) 1 (1 + m) → ∃ d, zIsRk P n r i d := by
  intro m
  induction m with
  | zero => intro _ h1 h2; rw [zC_nil (P i) (by omega)] at h2; omega
  | succ m ih =>
    intro h0 h1 h2
    rcases Int.lt_or_le r (zCC P n i + zC (P i) 1 (1 + m)) with q | q
    · exact ih (by omega) h1 q
    · rw [show (1 : Int) + ((m + 1 : Nat) : Int) = (1 + m) + 1 by omega] at h2
      rcases Classical.em (P i (1 + m)) with c | c
      · rw [zC_t (by omega) c] at h2
        exact ⟨1 + m, ⟨by omega, by omega, by omega, by omega⟩, c, by omega⟩
      · rw [zC_f (by omega) c] at h2; omega
theorem zRk_ex2 : ∀ m : Nat, (m : Int) ≤ n → 0 ≤ r → r < zCC P n m → ∃ i d, zIsRk P n r i d := by
  intro m
  induction m with
  | zero => intro _ h1 h2; rw [show ((0 : Nat) : Int) = 0 from rfl, zCC_0] at h2; omega
  | succ m ih =>
    intro h0 h1 h2
    rcases Int.lt_or_le r (zCC P n m) with q | q
    · exact ih (by omega) h1 q
    · rw [show ((m + 1 : Nat) : Int) = (m : Int) + 1 by omega, zCC_succ P (by omega)] at h2
      have e : 1 + (((n - m) / 2).toNat : Int) = (n - m) / 2 + 1 := by omega
      obtain ⟨d, hd⟩ := zRk_ex1 (P := P) (n := n) (r := r) (i := m) (by omega) ((n - m) / 2).toNat (by omega) q (by rw [e]; exact h2)
      exact ⟨m, d, hd⟩
theorem zRk_ex (hn : 0 ≤ n) (h0 : 0 ≤ r) (h : r < zCC P n n) : ∃ i d, zIsRk P n r i d := by
  have e : ((n.toNat : Nat) : Int) = n := by omega
  exact zRk_ex2 n.toNat (by omega) h0 (by rw [e]; exact h)
theorem zIsRk_ord {r2 i d i2 d2 : Int} (h : zIsRk P n r i d) (k : zIsRk P n r2 i2 d2) (hr : r < r2) : i < i2 ∨ (i = i2 ∧ d < d2) := by
  have a1 := zIsRk_lt h
  have a2 := zIsRk_lt k
  obtain ⟨h1, h2, h3⟩ := h
  obtain ⟨k1, k2, k3⟩ := k
  rcases Int.lt_trichotomy i i2 with q | q | q
  · exact Or.inl q
  · subst q
    rcases Int.lt_or_le d d2 with v | v
    · exact Or.inr ⟨rfl, v⟩
    · have := zC_mono (P i) (a := 1) (b := d2) (d := d) (by omega) v; omega
  · have := zCC_mono P (n := n) (i := i2 + 1) (j := i) (by omega) (by omega) (by omega)
    have := zC_bd (P i) (a := 1) (b := d) (by omega); omega
theorem zRk_sum1 (T : Int → Int → Int) (hn : 0 ≤ n) {i : Int} (hi : 0 ≤ i ∧ i < n) : ∀ m : Nat, 1 + (m : Int) ≤ (n - i) / 2 + 1 → zS (fun x => zRk P n x T) 0 (zCC P n i + zC (P i) 1 (1 + m)) = zS (fun x => zRk P n x T) 0 (zCC P n i) + zS (fun d => zIf (P i d) (T i d) 0) 1 (1 + m) := by
  intro m
  induction m with
  | zero => intro _; rw [zC_nil (P i) (by omega), zS_nil (fun d => zIf (P i d) (T i d) 0) (by omega)]; rw [Int.add_zero, Int.add_zero]
  | succ m ih =>
    intro h0
    have ih := ih (by omega)
    have nn := zCC_nn (P := P) hn (i := i) (by omega)
    have nc := zC_bd (P i) (a := 1) (b := 1 + (m : Int)) (by omega)
    rw [show (1 : Int) + ((m + 1 : Nat) : Int) = (1 + m) + 1 by omega, zS_succ (fun d => zIf (P i d) (T i d) 0) (by omega)]
    rcases Classical.em (P i (1 + m)) with c | c
    · rw [zC_t (by omega) c, ← Int.add_assoc (zCC P n i), zS_succ _ (by omega), ih, zIf_t c, zRk_hit T (r := zCC P n i + zC (P i) 1 (1 + m)) (i := i) (d := 1 + m) ⟨⟨by omega, by omega, by omega, by omega⟩, c, rfl⟩]
      omega
    · rw [zC_f (by omega) c, ih, zIf_f c]; omega
theorem zRk_sum2 (T : Int → Int → Int) (hn : 0 ≤ n) : ∀ m : Nat, (m : Int) ≤ n → zS (fun x => zRk P n x T) 0 (zCC P n m) = zS (fun i => zS (fun d => zIf (P i d) (T i d) 0) 1 ((n - i) / 2 + 1)) 0 m := by
  intro m
  induction m with
  | zero => intro _; rw [show ((0 : Nat) : Int) = 0 from rfl, zCC_0, zS_nil _ (Int.le_refl 0), zS_nil _ (Int.le_refl 0)]
  | succ m ih =>
    intro h0
    rw [show ((m + 1 : Nat) : Int) = (m : Int) + 1 by omega, zCC_succ P (by omega), zS_succ (fun i => zS (fun d => zIf (P i d) (T i d) 0) 1 ((n - i) / 2 + 1)) (by omega), ← ih (by omega)]
    have e : 1 + (((n - m) / 2).toNat : Int) = (n - m) / 2 + 1 := by omega
    have := zRk_sum1 (P := P) T hn (i := m) (by omega) ((n - m) / 2).toNat (by omega)
    rw [e] at this
    exact this
theorem zRk_sum (T : Int → Int → Int) (hn : 0 ≤ n) : zS (fun x => zRk P n x T) 0 (zCC P n n) = zS (fun i => zS (fun d => zIf (P i d) (T i d) 0) 1 ((n - i) / 2 + 1)) 0 n := by
  have e : ((n.toNat : Nat) : Int) = n := by omega
  have := zRk_sum2 (P := P) T hn n.toNat (by omega)
  rw [e] at this; exact this
end ZPR

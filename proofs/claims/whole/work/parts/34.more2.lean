theorem SL.app {f f2 : Int → Int} {b : Int} {w : Int → Int} {n x : Int} (q : SL f b w n) (hn : n < 40) (hx : 0 ≤ x ∧ x ≤ 25) (h0 : f2 b = n + 1) (h1 : f2 (b + 1 + n) = x) (h2 : ∀ k, b < k → k < b + 1 + n → f2 k = f k) : SL f2 b (zApp w n x) (n + 1) := by
  obtain ⟨q1, q2, q3⟩ := q
  refine ⟨h0, by omega, fun k a1 b1 => ?_⟩
  rcases (show k = n ∨ k < n by omega) with v | v
  · rw [v, zApp_eq]; exact ⟨h1, hx⟩
  · rw [zApp_ne (by omega), h2 _ (by omega) (by omega)]; exact q3 k a1 v
theorem SL.word {f : Int → Int} {b : Int} {w w2 : Int → Int} {n n2 : Int} (q : SL f b w n) (e : n2 = n) (h : ∀ k, 0 ≤ k → k < n → w2 k = w k) : SL f b w2 n2 := by
  subst e
  exact ⟨q.1, q.2.1, fun k a1 b1 => by rw [h k a1 b1]; exact q.2.2 k a1 b1⟩
theorem zM_congr {f g : Int → Int} {a b : Int} (h : ∀ k, a ≤ k → k < b → f k = g k) : zM f a b = zM g a b := by
  have p := zM_spec g a b
  refine zM_un p.1 (fun k q1 q2 => by rw [h k q1 q2]; exact p.2.1 k q1 q2) ?_
  rcases p.2.2 with v | ⟨k, k1, k2, k3⟩
  · exact Or.inl v
  · exact Or.inr ⟨k, k1, k2, by rw [h k k1 k2]; exact k3⟩
theorem zKn_congr {w o : Int → Int} {t : Int} (h : ∀ k, 0 ≤ k → k < t → w k = o k) : zKn w t = zKn o t := by
  refine zM_congr fun q q1 q2 => ?_
  show zFF (fun k => w (t - 1 - k) = w (q - 1 - k)) (min t q) = zFF (fun k => o (t - 1 - k) = o (q - 1 - k)) (min t q)
  exact zFF_congr fun k a b => by rw [h (t - 1 - k) (by omega) (by omega), h (q - 1 - k) (by omega) (by omega)]
theorem zUn_more {w : Int → Int} {n x : Int} (hn : 0 ≤ n) : zUn (zApp w n x) (n + 1) - zUn w n = zUf (zApp w n x) (n + 1) := by
  have e : zUn (zApp w n x) (n + 1) = zS (zUf (zApp w n x)) 1 (n + 1) + zUf (zApp w n x) (n + 1) := zS_succ _ (by omega)
  have e2 : zS (zUf (zApp w n x)) 1 (n + 1) = zUn w n := zS_congr fun t a b => by
    show t - zKn (zApp w n x) t = t - zKn w t
    rw [zKn_congr (w := zApp w n x) (o := w) (fun k k1 k2 => zApp_ne (by omega))]
  omega
theorem zRank_of {w : Int → Int} {n : Int} {od : Int → Int} {r : Int} (h : zSrt w n od n) (a : 0 ≤ r) (b : r < n) : (0 ≤ od r ∧ od r < n) ∧ zRank w n (od r) = r := h r a b
theorem zBl_t {f : Int → Int} {k b o z : Int} (h0 : 0 ≤ k) (hz : z = f k) (h : o < z) (hp : 0 ≤ z) (h1 : (k = 0 ∧ o = -1) ∨ (1 ≤ k ∧ b = zBst f k ∧ o = f b)) : (k + 1 = 0 ∧ z = -1) ∨ (1 ≤ k + 1 ∧ k = zBst f (k + 1) ∧ z = f k) := by
  right
  refine ⟨by omega, ?_, hz⟩
  rcases h1 with ⟨a, -⟩ | ⟨a, e1, e2⟩
  · subst a; exact (zBst_1 f).symm
  · exact (zBst_t a (by rw [← e1, ← e2, ← hz]; exact h)).symm
theorem zBl_f {f : Int → Int} {k b o z : Int} (h0 : 0 ≤ k) (hz : z = f k) (h : ¬ o < z) (hp : 0 ≤ z) (h1 : (k = 0 ∧ o = -1) ∨ (1 ≤ k ∧ b = zBst f k ∧ o = f b)) : (k + 1 = 0 ∧ o = -1) ∨ (1 ≤ k + 1 ∧ b = zBst f (k + 1) ∧ o = f b) := by
  right
  rcases h1 with ⟨a, e⟩ | ⟨a, e1, e2⟩
  · omega
  · exact ⟨by omega, e1.trans (zBst_f a (by rw [← e1, ← e2, ← hz]; exact h)).symm, e2⟩
theorem SL.cut {f f2 : Int → Int} {b : Int} {w : Int → Int} {n m : Int} (q : SL f b w n) (hm : 0 ≤ m ∧ m ≤ n) (h0 : f2 b = m) (h : ∀ k, b < k → k ≤ b + n → f2 k = f k) : SL f2 b w m := by
  obtain ⟨q1, q2, q3⟩ := q
  exact ⟨h0, by omega, fun k a1 b1 => by rw [h _ (by omega) (by omega)]; exact q3 k a1 (by omega)⟩
theorem SL.chg {f f2 : Int → Int} {b : Int} {w : Int → Int} {n i x : Int} (q : SL f b w n) (hi : 0 ≤ i ∧ i < n) (hx : 0 ≤ x ∧ x ≤ 25) (h1 : f2 (b + 1 + i) = x) (h : ∀ k, k ≠ b + 1 + i → f2 k = f k) : SL f2 b (zApp w i x) n := by
  obtain ⟨q1, q2, q3⟩ := q
  refine ⟨by rw [h b (by omega)]; exact q1, q2, fun k a1 b1 => ?_⟩
  by_cases e : k = i
  · rw [e, zApp_eq]; exact ⟨h1, hx⟩
  · rw [zApp_ne e, h _ (by omega)]; exact q3 k a1 b1
/-- letters put in from b+1 on, one after the other -/
theorem SL.fill {f f2 : Int → Int} {b : Int} {w o : Int → Int} {n : Int} (q : SL f b w n) (h0 : f2 b = f b) (h : ∀ k, 0 ≤ k → k < n → f2 (b + 1 + k) = o k) (ho : ∀ k, 0 ≤ k → k < n → 0 ≤ o k ∧ o k ≤ 25) : SL f2 b o n :=
  ⟨by rw [h0]; exact q.1, q.2.1, fun k a1 b1 => ⟨h k a1 b1, ho k a1 b1⟩⟩
theorem zMod2 {a n : Int} (h0 : 0 ≤ a) (h1 : a < 2 * n) : a % n = if a < n then a else a - n := by
  split
  · rename_i h; exact Int.emod_eq_of_lt h0 h
  · rename_i h
    rw [show a = (a - n) + 1 * n by omega, Int.add_mul_emod_self_right, Int.emod_eq_of_lt (by omega) (by omega)]
    omega
theorem zTurn_mod {w : Int → Int} {n x k : Int} (hk : 0 ≤ k ∧ k < n) (hx : 0 ≤ x ∧ x < n) : w ((k + x) % n) = zTurn w n x k := by
  rw [zMod2 (by omega) (by omega)]
  unfold zTurn
  split <;> rfl
theorem zEqW_yes {f : Int → Int} {b : Int} {w o : Int → Int} {n : Int} (q : SL f 0 w n) (p : SL f b o n) (h : ∀ x, 0 ≤ x → x < n + 1 → f x = f (b + x)) : zEqW o n w n := by
  refine ⟨rfl, fun k a1 b1 => ?_⟩
  have h1 := q.2.2 k a1 b1
  have h2 := p.2.2 k a1 b1
  have h3 := h (1 + k) (by omega) (by omega)
  rw [show b + (1 + k) = b + 1 + k by omega, show 1 + k = 0 + 1 + k by omega] at h3
  omega
theorem zEqW_no {f : Int → Int} {b : Int} {w o : Int → Int} {n x : Int} (q : SL f 0 w n) (p : SL f b o n) (hx : 0 ≤ x ∧ x < n + 1) (h : f x ≠ f (b + x)) : ¬ zEqW o n w n := by
  rintro ⟨-, e⟩
  rcases (show x = 0 ∨ 1 ≤ x by omega) with v | v
  · subst v
    have h1 := q.1; have h2 := p.1
    rw [show b + 0 = b by omega] at h; omega
  · have h1 := q.2.2 (x - 1) (by omega) (by omega)
    have h2 := p.2.2 (x - 1) (by omega) (by omega)
    have h3 := e (x - 1) (by omega) (by omega)
    rw [show 0 + 1 + (x - 1) = x by omega] at h1
    rw [show b + 1 + (x - 1) = b + x by omega] at h2
    omega

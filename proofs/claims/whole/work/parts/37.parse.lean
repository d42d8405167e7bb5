theorem zTk_no {x vn pf ig bp : Int} {v : Int → Int} (h1 : 97 ≤ x ∧ x ≤ 122 → 40 ≤ vn) (h2 : 50 ≤ x ∧ x ≤ 57 → bp = 0 ∨ 40 < vn + (x - 48 - 1) * (vn - pf)) (h3 : x = 40 → ig = 1) (h4 : x = 41 → ig = 0 ∨ vn = pf) : zTk x (v, vn, pf, ig, bp) = none := by
  unfold zTk
  simp only
  by_cases a : 97 ≤ x ∧ x ≤ 122
  · rw [if_pos a, if_pos (h1 a)]
  · rw [if_neg a]
    by_cases b : 50 ≤ x ∧ x ≤ 57
    · rw [if_pos b, if_pos (h2 b)]
    · rw [if_neg b]
      by_cases d : x = 40
      · rw [if_pos d, if_pos (h3 d)]
      · rw [if_neg d]
        by_cases k : x = 41
        · rw [if_pos k, if_pos (h4 k)]
        · rw [if_neg k]
theorem zTk_open {x vn pf bp : Int} {v : Int → Int} (h : x = 40) : zTk x (v, vn, pf, 0, bp) = some (v, vn, vn, 1, 0) := by
  unfold zTk
  simp only
  rw [if_neg (by omega), if_neg (by omega), if_pos h, if_neg (by decide)]
theorem zTk_close {x vn pf bp : Int} {v : Int → Int} (h : x = 41) (h2 : vn ≠ pf) : zTk x (v, vn, pf, 1, bp) = some (v, vn, pf, 0, 1) := by
  unfold zTk
  simp only
  rw [if_neg (by omega), if_neg (by omega), if_neg (by omega), if_pos h, if_neg (by rintro (q | q) <;> omega)]
theorem zTk_dig {x vn pf ig bp : Int} {v : Int → Int} (h : 50 ≤ x ∧ x ≤ 57) (h1 : bp = 1) (h2 : vn + (x - 48 - 1) * (vn - pf) ≤ 40) : zTk x (v, vn, pf, ig, bp) = some (zRep v vn pf, vn + (x - 48 - 1) * (vn - pf), pf, ig, 0) := by
  unfold zTk
  simp only
  rw [if_neg (by omega), if_pos h, if_neg (by omega)]
theorem zTk_let1 {x vn pf bp : Int} {v : Int → Int} (h : 97 ≤ x ∧ x ≤ 122) (h2 : vn < 40) : zTk x (v, vn, pf, 1, bp) = some (zApp v vn (x - 97), vn + 1, pf, 1, bp) := by
  unfold zTk
  simp only
  rw [if_pos h, if_neg (by omega)]
  rfl
theorem zTk_let0 {x vn pf bp : Int} {v : Int → Int} (h : 97 ≤ x ∧ x ≤ 122) (h2 : vn < 40) : zTk x (v, vn, pf, 0, bp) = some (zApp v vn (x - 97), vn + 1, vn, 0, 1) := by
  unfold zTk
  simp only
  rw [if_pos h, if_neg (by omega)]
  rfl
theorem zFl_here {tc : Int → Int} {tn z vn pf ig bp : Int} {v : Int → Int} (h : zSt tc z.toNat = some (v, vn, pf, ig, bp)) (h0 : 0 ≤ z ∧ z ≤ tn) (h1 : z < tn → (97 ≤ tc z ∧ tc z ≤ 122 → 40 ≤ vn) ∧ (50 ≤ tc z ∧ tc z ≤ 57 → bp = 0 ∨ 40 < vn + (tc z - 48 - 1) * (vn - pf)) ∧ (tc z = 40 → ig = 1) ∧ (tc z = 41 → ig = 0 ∨ vn = pf)) (h2 : z = tn → ig = 1 ∨ vn = 0) : zFl tc tn = z := by
  refine zFl_un (by omega) ?_
  rcases (show z < tn ∨ z = tn by omega) with q | q
  · obtain ⟨a1, a2, a3, a4⟩ := h1 q
    exact Or.inl ⟨_, h, h0.1, q, zTk_no a1 a2 a3 a4⟩
  · subst q
    exact Or.inr (Or.inl ⟨_, rfl, h, fun k => k (h2 rfl)⟩)
theorem zFl_ok {tc : Int → Int} {tn vn pf bp : Int} {v : Int → Int} (h : zSt tc tn.toNat = some (v, vn, pf, 0, bp)) (h0 : 0 ≤ tn) (h2 : vn ≠ 0) : zFl tc tn = -1 :=
  zFl_un h0 (Or.inr (Or.inr ⟨_, rfl, h, fun k => k.elim (fun z => by have z2 : (0 : Int) = 1 := z; omega) (fun z => h2 z)⟩))
theorem zRep_per {v : Int → Int} {vn pf p : Int} (hpf : 0 ≤ pf ∧ pf < vn) (hp : vn ≤ p) : zRep v vn pf (p - (vn - pf)) = zRep v vn pf p := by
  rw [zRep_hi hp]
  rcases Int.lt_or_le (p - (vn - pf)) vn with q | q
  · rw [zRep_lo q, zMod2 (by omega) (by omega), if_neg (by omega)]
    congr 1; omega
  · rw [zRep_hi q]
    congr 1
    rw [show p - pf = (p - (vn - pf) - pf) + 1 * (vn - pf) by omega, Int.add_mul_emod_self_right]
theorem zMulBd9 {a b : Int} (ha : 0 ≤ a ∧ a ≤ 9) (hb : 0 ≤ b ∧ b ≤ 40) : 0 ≤ a * b ∧ a * b ≤ 360 := by
  refine ⟨Int.mul_nonneg ha.1 hb.1, ?_⟩
  have h1 : a * b ≤ 9 * b := Int.mul_le_mul_of_nonneg_right ha.2 hb.1
  omega
theorem zSub1_mul (a b : Int) : (a - 1) * b = a * b - b := by rw [Int.sub_mul, Int.one_mul]
theorem zApp_self {w : Int → Int} {n k : Int} : w k = zApp w n (w n) k := by
  by_cases q : k = n
  · rw [q, zApp_eq]
  · rw [zApp_ne q]

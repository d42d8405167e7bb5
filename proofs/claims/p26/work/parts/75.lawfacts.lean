-- what the law's own body asks
theorem AXt.bd {g : zG} {ad : Nat → Nat} {w : Int → Int} {n : Int} {ee : Nat → Int → Int} {en : Nat → Int} {hc : Int} {u : Int → Int} {un hs : Int} {tc : Int → Int} {tn : Int} {H : Heap} (q : AXt g ad (w, n, ee, en, hc, u, un, hs, tc, tn) H) : (0 ≤ n ∧ n ≤ 40) ∧ (∀ k, 0 ≤ k → k < n → 0 ≤ w k ∧ w k ≤ 25) ∧ 0 ≤ hc ∧ hc ≤ 4 := by
  have q : AX g ad w n ee en hc u un hs tc tn H := q
  obtain ⟨d, dn, u9, un9, hf, hn, v, vn, nx, pf, ig, bp, hX, hsn, hrg⟩ := q
  exact ⟨hX.gw.1, hX.gw.2.1, hX.grg.2.2.1⟩
theorem zFl_0 (tc : Int → Int) : zFl tc 0 = 0 := zFl_un (Int.le_refl 0) (Or.inr (Or.inl ⟨_, rfl, rfl, fun h => absurd h (by unfold zOk; decide)⟩))
section ZLF
variable {w : Int → Int} {n x : Int}
theorem aIf_full {q : Int} (hx : 0 ≤ x ∧ x ≤ 25) (hq : 0 ≤ q ∧ q ≤ 3) (h : 40 ≤ n) : aIf w n x q = -3 := by unfold aIf; rw [zIf_t ⟨hx, hq⟩]; exact zIf_t h
theorem aIf_in {q : Int} (hx : 0 ≤ x ∧ x ≤ 25) (hq : 0 ≤ q ∧ q ≤ 3) (h : n < 40) : aIf w n x q = zBr w n x q := by unfold aIf; rw [zIf_t ⟨hx, hq⟩]; exact zIf_f (by omega)
theorem zBr_0 : zBr w n x 0 = zEG (zApp w n x) 0 (n + 1) (n + 1) := by unfold zBr; exact zIf_t rfl
theorem zBr_1 : zBr w n x 1 = zUf (zApp w n x) (n + 1) := by unfold zBr; rw [zIf_f (by omega)]; exact zIf_t rfl
theorem zBr_2 : zBr w n x 2 = zSE (zApp w n x) (n + 1) := by unfold zBr; rw [zIf_f (by omega), zIf_f (by omega)]; exact zIf_t rfl
theorem zBr_3 : zBr w n x 3 = zCC (zRun (zApp w n x) (n + 1)) (n + 1) (n + 1) := by unfold zBr; rw [zIf_f (by omega), zIf_f (by omega), zIf_f (by omega)]
theorem zBr_bd {q : Int} (hn : 0 ≤ n ∧ n < 40) (hq : 0 ≤ q ∧ q ≤ 3) : 0 ≤ zBr w n x q ∧ zBr w n x q ≤ 1600 := by
  rcases (show q = 0 ∨ q = 1 ∨ q = 2 ∨ q = 3 by omega) with c | c | c | c <;> subst c
  · rw [zBr_0]
    have h := zEG_bd (zApp w n x) 0 (n + 1) (n + 1)
    have h2 := h.2.1 (by omega); omega
  · rw [zBr_1]
    have h := zUf_bd (zApp w n x) (t := n + 1) (by omega); omega
  · rw [zBr_2]
    have h := zSE_bd (zApp w n x) (t := n + 1) (by omega); omega
  · rw [zBr_3]; exact zCC_bd _ (by omega)
theorem aIf_bd {q : Int} (hn : 0 ≤ n ∧ n ≤ 40) (hx : 0 ≤ x ∧ x ≤ 25) (hq : 0 ≤ q ∧ q ≤ 3) : -3 ≤ aIf w n x q ∧ aIf w n x q ≤ 1600 := by
  rcases (show 40 ≤ n ∨ n < 40 by omega) with c | c
  · rw [aIf_full hx hq c]; omega
  · rw [aIf_in hx hq c]
    have := zBr_bd (w := w) (x := x) ⟨hn.1, c⟩ hq; omega
theorem zSqs_more (hn : 0 ≤ n) : zCC (zSqP (zApp w n x)) (n + 1) (n + 1) = zCC (zSqP w) n n + zSE (zApp w n x) (n + 1) := by
  rw [← zSE_all _ (show 0 ≤ n + 1 by omega), ← zSE_all w hn]
  have cg : ∀ t, 2 ≤ t → t < n + 1 → zSE (zApp w n x) t = zSE w t := fun t t1 t2 => zC_congr fun d d1 d2 => by
    constructor
    · intro h k k1 k2
      have := h k k1 k2
      rw [zApp_ne (by omega), zApp_ne (by omega)] at this
      exact this
    · intro h k k1 k2
      rw [zApp_ne (by omega), zApp_ne (by omega)]
      exact h k k1 k2
  rcases (show n = 0 ∨ 1 ≤ n by omega) with c | c
  · subst c
    rw [zS_nil _ (by omega), zS_nil _ (by omega)]
    have : zSE (zApp w 0 x) (0 + 1) = 0 := zC_nil _ (by omega)
    omega
  · rw [zS_succ (zSE (zApp w n x)) (show (2 : Int) ≤ n + 1 by omega), zS_congr cg]
/-- the best letter is the first of the best -/
theorem zBst_sp (f : Int → Int) : ∀ m : Nat, (0 ≤ zBst f (m + 1) ∧ zBst f (m + 1) ≤ m) ∧ (∀ k : Int, 0 ≤ k → k < zBst f (m + 1) → f k < f (zBst f (m + 1))) ∧ (∀ k : Int, 0 ≤ k → k ≤ (m : Int) → f k ≤ f (zBst f (m + 1))) := by
  intro m
  induction m with
  | zero =>
    rw [show ((0 : Nat) : Int) + 1 = 1 by omega, zBst_1]
    exact ⟨by omega, fun k h1 h2 => by omega, fun k h1 h2 => by rw [show k = 0 by omega]; exact Int.le_refl _⟩
  | succ m ih =>
    obtain ⟨i1, i2, i3⟩ := ih
    rcases Classical.em (f (zBst f (m + 1)) < f (m + 1)) with c | c
    · have e := zBst_t (f := f) (k := (m : Int) + 1) (by omega) c
      rw [show ((m + 1 : Nat) : Int) + 1 = ((m : Int) + 1) + 1 by omega, e]
      refine ⟨by omega, fun k h1 h2 => ?_, fun k h1 h2 => ?_⟩
      · have := i3 k h1 (by omega); omega
      · rcases (show k ≤ (m : Int) ∨ k = (m : Int) + 1 by omega) with v | v
        · have := i3 k h1 v; omega
        · rw [v]; exact Int.le_refl _
    · have e := zBst_f (f := f) (k := (m : Int) + 1) (by omega) c
      rw [show ((m + 1 : Nat) : Int) + 1 = ((m : Int) + 1) + 1 by omega, e]
      refine ⟨by omega, i2, fun k h1 h2 => ?_⟩
      rcases (show k ≤ (m : Int) ∨ k = (m : Int) + 1 by omega) with v | v
      · exact i3 k h1 v
      · rw [v]; omega
theorem zBest_at {q : Int} (hn : 0 ≤ n ∧ n < 40) (hq : 0 ≤ q ∧ q ≤ 3) : ∃ b : Int, aBest w n q = b ∧ (0 ≤ b ∧ b ≤ 25) ∧ (∀ k, 0 ≤ k → k < b → aIf w n k q < aIf w n b q) ∧ ∀ k, 0 ≤ k → k ≤ 25 → aIf w n k q ≤ aIf w n b q := by
  obtain ⟨i1, i2, i3⟩ := zBst_sp (fun x => zBr w n x q) 25
  rw [show ((25 : Nat) : Int) + 1 = 26 by omega] at i1 i2 i3
  refine ⟨zBst (fun x => zBr w n x q) 26, ?_, by omega, fun k h1 h2 => ?_, fun k h1 h2 => ?_⟩
  · unfold aBest; rw [zIf_t hq]; exact zIf_f (by omega)
  · rw [aIf_in (by omega) hq hn.2, aIf_in (by omega) hq hn.2]; exact i2 k h1 h2
  · rw [aIf_in (by omega) hq hn.2, aIf_in (by omega) hq hn.2]; exact i3 k h1 (by omega)
end ZLF
/-- what stays as it was when the act was refused -/
theorem zOK_neg {w : Int → Int} {n : Int} {ee : Nat → Int → Int} {en : Nat → Int} {hc : Int} {u : Int → Int} {un hs : Int} {tc : Int → Int} {tn : Int} {w2 : Int → Int} {n2 : Int} {ee2 : Nat → Int → Int} {en2 : Nat → Int} {hc2 : Int} {u2 : Int → Int} {un2 hs2 : Int} {tc2 : Int → Int} {tn2 : Int} (h : (w2, n2, ee2, en2, hc2, u2, un2, hs2, tc2, tn2) = (w, n, ee, en, hc, u, un, hs, tc, tn)) : w2 = w ∧ n2 = n ∧ hc2 = hc := by
  simp only [Prod.mk.injEq] at h
  exact ⟨h.1, h.2.1, h.2.2.2.2.1⟩

-- texts: letters, their number, where the piece goes from, whether in a group, whether behind a piece
abbrev zRS : Type := (Int → Int) × Int × Int × Int × Int
/-- the letters with the piece from pf on again and again behind them -/
def zRep (v : Int → Int) (vn pf : Int) : Int → Int := fun q => if q < vn then v q else v (pf + (q - pf) % (vn - pf))
def zTk (x : Int) : zRS → Option zRS
  | (v, vn, pf, ig, bp) =>
    if 97 ≤ x ∧ x ≤ 122 then (if 40 ≤ vn then none else some (zApp v vn (x - 97), vn + 1, if ig = 0 then vn else pf, ig, if ig = 0 then 1 else bp))
    else if 50 ≤ x ∧ x ≤ 57 then (if bp = 0 ∨ 40 < vn + (x - 48 - 1) * (vn - pf) then none else some (zRep v vn pf, vn + (x - 48 - 1) * (vn - pf), pf, ig, 0))
    else if x = 40 then (if ig = 1 then none else some (v, vn, vn, 1, 0))
    else if x = 41 then (if ig = 0 ∨ vn = pf then none else some (v, vn, pf, 0, 1))
    else none
theorem zRep_lo {v : Int → Int} {vn pf q : Int} (h : q < vn) : zRep v vn pf q = v q := by unfold zRep; exact if_pos h
theorem zRep_hi {v : Int → Int} {vn pf q : Int} (h : vn ≤ q) : zRep v vn pf q = v (pf + (q - pf) % (vn - pf)) := by unfold zRep; exact if_neg (by omega)
theorem zMulBd {a b : Int} (ha : 0 ≤ a ∧ a ≤ 8) (hb : 0 ≤ b ∧ b ≤ 40) : 0 ≤ a * b ∧ a * b ≤ 320 := by
  refine ⟨Int.mul_nonneg ha.1 hb.1, ?_⟩
  have h1 : a * b ≤ 8 * b := Int.mul_le_mul_of_nonneg_right ha.2 hb.1
  omega
theorem zRep_fit {k t z : Int} (h : k < t) (hz : 0 ≤ z) : (k - 1) * z + z ≤ (t - 1) * z := by
  have e : (k - 1) * z + z = k * z := by rw [Int.sub_mul]; omega
  rw [e]
  exact Int.mul_le_mul_of_nonneg_right (by omega) hz
theorem zRep_next {k z : Int} : (k + 1 - 1) * z = (k - 1) * z + z := by
  rw [show k + 1 - 1 = (k - 1) + 1 by omega, Int.add_mul, Int.one_mul]
theorem zRep_step {v : Int → Int} {vn pf k : Int} (hpf : 0 ≤ pf ∧ pf < vn) (hk : 1 ≤ k) : ∀ q, 0 ≤ q → q < vn + (k - 1) * (vn - pf) + (vn - pf) → zRep v vn pf q = zExt (zRep v vn pf) (vn + (k - 1) * (vn - pf)) (zRep v vn pf) pf q := by
  intro q h0 h1
  have hm : 0 ≤ (k - 1) * (vn - pf) := Int.mul_nonneg (by omega) (by omega)
  rcases Int.lt_or_le q (vn + (k - 1) * (vn - pf)) with h | h
  · rw [zExt_lo h]
  · rw [zExt_hi h, zRep_hi (by omega), zRep_lo (by omega)]
    congr 1
    have e : q - pf = (q - (vn + (k - 1) * (vn - pf))) + k * (vn - pf) := by
      have : k * (vn - pf) = (k - 1) * (vn - pf) + (vn - pf) := by rw [← zRep_next, show k + 1 - 1 = k by omega]
      omega
    rw [e, Int.add_mul_emod_self_right, Int.emod_eq_of_lt (by omega) (by omega)]
/-- the reader after k characters; none behind a fault -/
def zSt (tc : Int → Int) : Nat → Option zRS
  | 0 => some (fun _ => 0, 0, 0, 0, 0)
  | k + 1 => (zSt tc k).bind (zTk (tc k))
def zRI (r : zRS) : Prop := (0 ≤ r.2.2.1 ∧ r.2.2.1 ≤ r.2.1 ∧ r.2.1 ≤ 40) ∧ (r.2.2.2.1 = 0 ∨ r.2.2.2.1 = 1) ∧ (r.2.2.2.2 = 0 ∨ r.2.2.2.2 = 1) ∧ (r.2.2.2.2 = 1 → r.2.2.1 < r.2.1) ∧ (∀ k, 0 ≤ k → k < r.2.1 → 0 ≤ r.1 k ∧ r.1 k ≤ 25)
theorem zRep_bd {v : Int → Int} {vn pf : Int} (hpf : 0 ≤ pf ∧ pf < vn) (h : ∀ k, 0 ≤ k → k < vn → 0 ≤ v k ∧ v k ≤ 25) : ∀ k, 0 ≤ k → 0 ≤ zRep v vn pf k ∧ zRep v vn pf k ≤ 25 := by
  intro k hk
  rcases Int.lt_or_le k vn with q | q
  · rw [zRep_lo q]; exact h k hk q
  · rw [zRep_hi q]
    have h1 := Int.emod_nonneg (k - pf) (show vn - pf ≠ 0 by omega)
    have h2 := Int.emod_lt_of_pos (k - pf) (show 0 < vn - pf by omega)
    exact h _ (by omega) (by omega)
theorem zTk_inv {x : Int} {r r2 : zRS} (h : zRI r) (e : zTk x r = some r2) : zRI r2 := by
  obtain ⟨v, vn, pf, ig, bp⟩ := r
  obtain ⟨h1, h2, h3, h4, h5⟩ := h
  simp only at h1 h2 h3 h4 h5
  unfold zTk at e
  simp only at e
  split at e
  · split at e
    · cases e
    · cases e
      rename_i q1 q2
      refine ⟨?_, h2, ?_, ?_, ?_⟩
      · simp only; split <;> omega
      · simp only; split <;> omega
      · simp only; intro q; split at q <;> (first | (split <;> omega) | omega)
      · simp only
        intro k k1 k2
        by_cases e : k = vn
        · subst e; rw [zApp_eq]; omega
        · rw [zApp_ne e]; exact h5 k k1 (by omega)
  · split at e
    · split at e
      · cases e
      · cases e
        rename_i q1 q2 q3
        have hb : bp = 1 := by omega
        have h6 := h4 hb
        have hm : 0 ≤ (x - 48 - 1) * (vn - pf) := Int.mul_nonneg (by omega) (by omega)
        refine ⟨by simp only; omega, h2, Or.inl rfl, fun q => by simp at q, ?_⟩
        simp only
        intro k k1 k2
        exact zRep_bd ⟨h1.1, h6⟩ h5 k k1
    · split at e
      · split at e
        · cases e
        · cases e
          exact ⟨by simp only; omega, Or.inr rfl, Or.inl rfl, fun q => by simp at q, h5⟩
      · split at e
        · split at e
          · cases e
          · cases e
            rename_i q1
            exact ⟨by simp only; omega, Or.inl rfl, Or.inr rfl, fun _ => by simp only; omega, h5⟩
        · cases e
theorem zSt_inv {tc : Int → Int} : ∀ (k : Nat) {r : zRS}, zSt tc k = some r → zRI r := by
  intro k
  induction k with
  | zero =>
    intro r e
    cases e
    exact ⟨by simp, Or.inl rfl, Or.inl rfl, fun q => by simp at q, fun k h1 h2 => absurd h2 (by simp only; omega)⟩
  | succ k ih =>
    intro r e
    have e' : (zSt tc k).bind (zTk (tc k)) = some r := e
    cases hs : zSt tc k with
    | none => rw [hs] at e'; cases e'
    | some r0 => rw [hs] at e'; exact zTk_inv (ih hs) e'
theorem zSt_none {tc : Int → Int} {k : Nat} (h : zSt tc k = none) : ∀ j, zSt tc (k + j) = none := by
  intro j
  induction j with
  | zero => exact h
  | succ j ih =>
    show (zSt tc (k + j)).bind (zTk (tc (k + j : Nat))) = none
    rw [ih]; rfl
theorem zSt_next {tc : Int → Int} {k : Int} {r : zRS} (h0 : 0 ≤ k) (h : zSt tc k.toNat = some r) : zSt tc (k + 1).toNat = zTk (tc k) r := by
  rw [show (k + 1).toNat = k.toNat + 1 by omega]
  show (zSt tc k.toNat).bind (zTk (tc (k.toNat : Int))) = _
  rw [h, show ((k.toNat : Nat) : Int) = k by omega]; rfl
def zOk (r : zRS) : Prop := ¬ (r.2.2.2.1 = 1 ∨ r.2.1 = 0)
def zIsF (tc : Int → Int) (tn z : Int) : Prop := (∃ r, zSt tc z.toNat = some r ∧ 0 ≤ z ∧ z < tn ∧ zTk (tc z) r = none) ∨ (∃ r, z = tn ∧ zSt tc tn.toNat = some r ∧ ¬ zOk r) ∨ (∃ r, z = -1 ∧ zSt tc tn.toNat = some r ∧ zOk r)
/-- the fault of the text; -1 if it has none -/
noncomputable def zFl (tc : Int → Int) (tn : Int) : Int := zThe (zIsF tc tn)
theorem zIsF_cut {tc : Int → Int} {tn z : Int} {r : zRS} (h : zSt tc z.toNat = some r) (h0 : 0 ≤ z) (h2 : zTk (tc z) r = none) {j : Int} (hj : z < j) : zSt tc j.toNat = none := by
  have e := zSt_next h0 h
  rw [h2] at e
  have := zSt_none e (j.toNat - (z + 1).toNat)
  rw [show (z + 1).toNat + (j.toNat - (z + 1).toNat) = j.toNat by omega] at this
  exact this
theorem zFl_un {tc : Int → Int} {tn z : Int} (ht : 0 ≤ tn) (h : zIsF tc tn z) : zFl tc tn = z := zThe_un h fun x hx => by
  rcases h with ⟨r, a1, a2, a3, a4⟩ | ⟨r, a1, a2, a3⟩ | ⟨r, a1, a2, a3⟩ <;> rcases hx with ⟨y, b1, b2, b3, b4⟩ | ⟨y, b1, b2, b3⟩ | ⟨y, b1, b2, b3⟩
  · rcases Int.lt_trichotomy x z with q | q | q
    · have := zIsF_cut (tn := tn) b1 b2 b4 q; rw [a1] at this; cases this
    · exact q
    · have := zIsF_cut (tn := tn) a1 a2 a4 q; rw [b1] at this; cases this
  · have := zIsF_cut (tn := tn) a1 a2 a4 (j := tn) a3; rw [b2] at this; cases this
  · have := zIsF_cut (tn := tn) a1 a2 a4 (j := tn) a3; rw [b2] at this; cases this
  · have := zIsF_cut (tn := tn) b1 b2 b4 (j := tn) b3; rw [a2] at this; cases this
  · omega
  · rw [a2] at b2; cases b2; exact absurd b3 a3
  · have := zIsF_cut (tn := tn) b1 b2 b4 (j := tn) b3; rw [a2] at this; cases this
  · rw [a2] at b2; cases b2; exact absurd a3 b3
  · omega
theorem zTk_letter {x v vn pf ig bp} (h : 0 ≤ x ∧ x ≤ 25) : zTk (x + 97) (v, vn, pf, ig, bp) = if 40 ≤ vn then none else some (zApp v vn x, vn + 1, if ig = 0 then vn else pf, ig, if ig = 0 then 1 else bp) := by
  unfold zTk
  simp only
  rw [if_pos (by omega), show x + 97 - 97 = x by omega]
theorem PX.mvW {g : zG} {ad : Nat → Nat} {w : Int → Int} {n : Int} {d : Int → Int} {dn : Int} {u : Int → Int} {un : Int} {hf : Nat → Int → Int} {hn : Nat → Int} {v : Int → Int} {vn hs nx hd tn pf ig bp : Int} {tc : Int → Int} {H : Heap} (q : PX g ad w n d dn u un hf hn v vn hs nx hd tn pf ig bp tc H) {w2 : Int → Int} {n2 : Int} (e : n2 = n) (h : ∀ k, 0 ≤ k → k < n → w2 k = w k) : PX g ad w2 n2 d dn u un hf hn v vn hs nx hd tn pf ig bp tc H := by
  obtain ⟨j, c0, c1, c2, c3, c4, cx, ch, cs, ct, cr, cg⟩ := q
  subst e
  exact ⟨j, c0.congr h, c1, c2, c3, c4, cx, ch, cs, ct, cr, cg⟩
theorem PX.mvV {g : zG} {ad : Nat → Nat} {w : Int → Int} {n : Int} {d : Int → Int} {dn : Int} {u : Int → Int} {un : Int} {hf : Nat → Int → Int} {hn : Nat → Int} {v : Int → Int} {vn hs nx hd tn pf ig bp : Int} {tc : Int → Int} {H : Heap} (q : PX g ad w n d dn u un hf hn v vn hs nx hd tn pf ig bp tc H) {v2 : Int → Int} {n2 : Int} (e : n2 = vn) (h : ∀ k, 0 ≤ k → k < vn → v2 k = v k) : PX g ad w n d dn u un hf hn v2 n2 hs nx hd tn pf ig bp tc H := by
  obtain ⟨j, c0, c1, c2, c3, c4, cx, ch, cs, ct, cr, cg⟩ := q
  subst e
  exact ⟨j, c0, c1, c2, c3, c4.congr h, cx, ch, cs, ct, cr, cg⟩

-- factors: how often, first, last, the longest and the shortest of the class
section ZFA
variable {w : Int → Int} {n i j : Int}
theorem zHow_pos (h : 0 ≤ i ∧ i < j ∧ j ≤ n) : 0 < zHow w n j (j - i) := zC_pos (x := j) (by omega) (by omega) (by show j - i ≤ zAA w j j; rw [zAA_self w (by omega)]; omega)
theorem zHow_bd (k : Int) (h : 0 ≤ n ∧ n ≤ 40) : 0 ≤ zHow w n j k ∧ zHow w n j k ≤ 40 := by
  have := zC_bd (fun q => k ≤ zAA w j q) (a := 1) (b := n + 1) (by omega)
  unfold zHow; omega
theorem zFst_sp (h : 0 ≤ i ∧ i < j ∧ j ≤ n) : zIsFst w j (j - i) (zFst w j (j - i)) := by
  obtain ⟨y, y1, y2, y3, y4⟩ := zLeast (P := fun q => j - i ≤ zAA w j q) (a := j - i) (i.toNat + 1) (x := j) (by omega) (by omega) (by show j - i ≤ zAA w j j; rw [zAA_self w (by omega)]; omega)
  have e : zIsFst w j (j - i) y := ⟨y1, y2, y3, y4⟩
  rw [zFst_un e]; exact e
theorem zLst_sp (h : 0 ≤ i ∧ i < j ∧ j ≤ n) : zIsLst w n j (j - i) (zLst w n j (j - i)) := by
  obtain ⟨y, y1, y2, y3, y4⟩ := zMost (P := fun q => j - i ≤ zAA w j q) (b := n) (n.toNat + 1) (x := j) (by omega) (by omega) (by show j - i ≤ zAA w j j; rw [zAA_self w (by omega)]; omega)
  have e : zIsLst w n j (j - i) y := ⟨y1, y2, y3, y4⟩
  rw [zLst_un e]; exact e
theorem zLC_sp (h : 0 ≤ i ∧ i < j ∧ j ≤ n) : zIsLC w n j (j - i) (zLC w n j (j - i)) := by
  obtain ⟨r, hr⟩ := zIsLC_ex (w := w) (n := n) (t := j) (k := j - i) (by omega)
  rw [zLC_un hr]; exact hr
theorem zFL_one (h : 0 ≤ i ∧ i < j ∧ j ≤ n) : zHow w n j (j - i) = 1 ↔ zFst w j (j - i) = zLst w n j (j - i) := by
  obtain ⟨a1, a2, a3, a4⟩ := zFst_sp (w := w) h
  obtain ⟨b1, b2, b3, b4⟩ := zLst_sp (w := w) h
  constructor
  · intro e
    rcases Classical.em (zFst w j (j - i) = zLst w n j (j - i)) with q | q
    · exact q
    · have : 1 < zHow w n j (j - i) := zC_two (P := fun q => j - i ≤ zAA w j q) (a := 1) (b := n + 1) (by omega) (by omega) a3 (by omega) (by omega) b3 q
      omega
  · intro e
    refine zC_is1 (P := fun q => j - i ≤ zAA w j q) (x := j) (by omega) (by omega) (by show j - i ≤ zAA w j j; rw [zAA_self w (by omega)]; omega) (fun y y1 y2 y3 => ?_)
    have := zAA_bd (w := w) (i := j) (j := y) (by omega) (by omega)
    rcases Int.lt_trichotomy y j with q | q | q
    · exact absurd y3 (a4 y (by omega) (by omega))
    · exact q
    · exact absurd y3 (b4 y (by omega) (by omega))
theorem zSm_end {r k : Int} (hk : 0 ≤ k ∧ k = j - i) (h : 0 ≤ i ∧ i < j) (hr : 0 ≤ r) (e : k ≤ zAA w j r) : zSm w i (r - k) k := by
  have := ((zAA_ge (w := w) (i := j) (j := r) (by omega) hr hk.1).mp e).2.2
  rw [show j - k = i by omega] at this
  exact this
theorem zLL_sp (h : 0 ≤ i ∧ i < j ∧ j ≤ n) : (0 ≤ zLL w n j (j - i) ∧ zLL w n j (j - i) < j - i) ∧ (∀ q, 1 ≤ q → q ≤ n → zAA w j q < j - i → zAA w j q ≤ zLL w n j (j - i)) ∧ (0 < zLL w n j (j - i) → ∃ q, 1 ≤ q ∧ q ≤ n ∧ zAA w j q = zLL w n j (j - i)) := by
  obtain ⟨a, b, c⟩ := zM_spec (fun q => @ite _ (zAA w j q < j - i) (Classical.propDecidable _) (zAA w j q) 0) 1 (n + 1)
  refine ⟨⟨a, ?_⟩, fun q q1 q2 q3 => ?_, fun hp => ?_⟩
  · show zM (fun q => @ite _ (zAA w j q < j - i) (Classical.propDecidable _) (zAA w j q) 0) 1 (n + 1) < j - i
    rcases c with c | ⟨k, k1, k2, k3⟩
    · omega
    · rw [k3]
      show @ite _ (zAA w j k < j - i) (Classical.propDecidable _) (zAA w j k) 0 < j - i
      by_cases v : zAA w j k < j - i
      · rw [if_pos v]; exact v
      · rw [if_neg v]; omega
  · have := b q q1 (by omega)
    have e : (@ite _ (zAA w j q < j - i) (Classical.propDecidable _) (zAA w j q) 0) = zAA w j q := if_pos q3
    have this : (@ite _ (zAA w j q < j - i) (Classical.propDecidable _) (zAA w j q) 0) ≤ zLL w n j (j - i) := this
    rw [e] at this; exact this
  · have hp : 0 < zM (fun q => @ite _ (zAA w j q < j - i) (Classical.propDecidable _) (zAA w j q) 0) 1 (n + 1) := hp
    rcases c with c | ⟨k, k1, k2, k3⟩
    · omega
    · refine ⟨k, k1, by omega, ?_⟩
      show zAA w j k = zM (fun q => @ite _ (zAA w j q < j - i) (Classical.propDecidable _) (zAA w j q) 0) 1 (n + 1)
      have k3 : zM (fun q => @ite _ (zAA w j q < j - i) (Classical.propDecidable _) (zAA w j q) 0) 1 (n + 1) = @ite _ (zAA w j k < j - i) (Classical.propDecidable _) (zAA w j k) 0 := k3
      by_cases v : zAA w j k < j - i
      · rw [if_pos v] at k3; exact k3.symm
      · rw [if_neg v] at k3; omega
theorem zHow_long (h : 0 ≤ i ∧ i < j ∧ j ≤ n) : zHow w n j (zLC w n j (j - i)) = zHow w n j (j - i) := by
  obtain ⟨a1, ⟨q1, a2, a3, a4⟩, a5⟩ := zLC_sp (w := w) h
  exact zC_congr fun q h1 h2 => ⟨fun v => by omega, fun v => a5 q h1 (by omega) v⟩
theorem zHow_short (h : 0 ≤ i ∧ i < j ∧ j ≤ n) : zHow w n j (zLL w n j (j - i) + 1) = zHow w n j (j - i) := by
  obtain ⟨⟨a0, a1⟩, a2, a3⟩ := zLL_sp (w := w) h
  refine zC_congr fun q h1 h2 => ⟨fun v => ?_, fun v => by omega⟩
  rcases Int.lt_or_le (zAA w j q) (j - i) with c | c
  · have := a2 q h1 (by omega) c; omega
  · exact c
theorem zHow_less (h : 0 ≤ i ∧ i < j ∧ j ≤ n) (h2 : 0 < zLL w n j (j - i)) : zHow w n j (j - i) < zHow w n j (zLL w n j (j - i)) := by
  obtain ⟨⟨a0, a1⟩, a2, a3⟩ := zLL_sp (w := w) h
  obtain ⟨q, q1, q2, q3⟩ := a3 h2
  exact zC_lt (k := q) q1 (by omega) (by omega) (by omega) (fun x x1 x2 x3 => by omega)
theorem zHow_more (h : 0 ≤ i ∧ i < j ∧ j ≤ n) : zHow w n j (zLC w n j (j - i) + 1) < zHow w n j (j - i) := by
  obtain ⟨a1, ⟨q1, a2, a3, a4⟩, a5⟩ := zLC_sp (w := w) h
  exact zC_lt (k := q1) a2 (by omega) (by omega) (by omega) (fun x x1 x2 x3 => by omega)
theorem zLC_bd (h : 0 ≤ i ∧ i < j ∧ j ≤ n) : j - i ≤ zLC w n j (j - i) ∧ zLC w n j (j - i) ≤ j := by
  obtain ⟨a1, ⟨q1, a2, a3, a4⟩, a5⟩ := zLC_sp (w := w) h
  have := zAA_bd (w := w) (i := j) (j := q1) (by omega) (by omega)
  omega
theorem zBor_sm (h : 0 ≤ i ∧ i < j) : zSm w i (j - zEG w i j (j - i)) (zEG w i j (j - i)) := (zEG_spec w i j (b := j - i) (by omega)).2.2.1
end ZFA

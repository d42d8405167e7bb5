-- what the calls answer, word by word
theorem zCnt_0 (w : Int → Int) (n hc tn : Int) : zCnt w n hc tn 0 = n := by unfold zCnt; rw [zIf_t rfl]
theorem zCnt_1 (w : Int → Int) (n hc tn : Int) : zCnt w n hc tn 1 = zLet w n := by unfold zCnt; rw [zIf_f (by omega), zIf_t rfl]
theorem zCnt_2 (w : Int → Int) (n hc tn : Int) : zCnt w n hc tn 2 = zUn w n := by unfold zCnt; rw [zIf_f (by omega), zIf_f (by omega), zIf_t rfl]
theorem zCnt_3 (w : Int → Int) (n hc tn : Int) : zCnt w n hc tn 3 = zCl w n := by unfold zCnt; rw [zIf_f (by omega), zIf_f (by omega), zIf_f (by omega), zIf_t rfl]
theorem zCnt_4 (w : Int → Int) (n hc tn : Int) : zCnt w n hc tn 4 = zCC (zSqP w) n n := by unfold zCnt; rw [zIf_f (by omega), zIf_f (by omega), zIf_f (by omega), zIf_f (by omega), zIf_t rfl]
theorem zCnt_5 (w : Int → Int) (n hc tn : Int) : zCnt w n hc tn 5 = zCC (zRun w n) n n := by unfold zCnt; rw [zIf_f (by omega), zIf_f (by omega), zIf_f (by omega), zIf_f (by omega), zIf_f (by omega), zIf_t rfl]
theorem zCnt_6 (w : Int → Int) (n hc tn : Int) : zCnt w n hc tn 6 = zEG w 0 n n := by unfold zCnt; rw [zIf_f (by omega), zIf_f (by omega), zIf_f (by omega), zIf_f (by omega), zIf_f (by omega), zIf_f (by omega), zIf_t rfl]
theorem zCnt_7 (w : Int → Int) (n hc tn : Int) : zCnt w n hc tn 7 = zLP w 0 n := by unfold zCnt; rw [zIf_f (by omega), zIf_f (by omega), zIf_f (by omega), zIf_f (by omega), zIf_f (by omega), zIf_f (by omega), zIf_f (by omega), zIf_t rfl]
theorem zCnt_8 (w : Int → Int) (n hc tn : Int) : zCnt w n hc tn 8 = zTw w n := by unfold zCnt; rw [zIf_f (by omega), zIf_f (by omega), zIf_f (by omega), zIf_f (by omega), zIf_f (by omega), zIf_f (by omega), zIf_f (by omega), zIf_f (by omega), zIf_t rfl]
theorem zCnt_9 (w : Int → Int) (n hc tn : Int) : zCnt w n hc tn 9 = zCC (zUsP w) n n := by unfold zCnt; rw [zIf_f (by omega), zIf_f (by omega), zIf_f (by omega), zIf_f (by omega), zIf_f (by omega), zIf_f (by omega), zIf_f (by omega), zIf_f (by omega), zIf_f (by omega), zIf_t rfl]
theorem zCnt_10 (w : Int → Int) (n hc tn : Int) : zCnt w n hc tn 10 = hc := by unfold zCnt; rw [zIf_f (by omega), zIf_f (by omega), zIf_f (by omega), zIf_f (by omega), zIf_f (by omega), zIf_f (by omega), zIf_f (by omega), zIf_f (by omega), zIf_f (by omega), zIf_f (by omega), zIf_t rfl]
theorem zCnt_11 (w : Int → Int) (n hc tn : Int) : zCnt w n hc tn 11 = tn := by unfold zCnt; rw [zIf_f (by omega), zIf_f (by omega), zIf_f (by omega), zIf_f (by omega), zIf_f (by omega), zIf_f (by omega), zIf_f (by omega), zIf_f (by omega), zIf_f (by omega), zIf_f (by omega), zIf_f (by omega), zIf_t rfl]
theorem zAt_0 {w : Int → Int} {n i : Int} (h : 0 ≤ i ∧ i < n) : zAt w n i 0 = w i := by unfold zAt; rw [zIf_t h, zIf_t rfl]
theorem zAt_1 {w : Int → Int} {n i : Int} (h : 0 ≤ i ∧ i < n) : zAt w n i 1 = zRank w n i := by unfold zAt; rw [zIf_t h, zIf_f (by omega), zIf_t rfl]
theorem zAt_2 {w : Int → Int} {n i : Int} (h : 0 ≤ i ∧ i < n) : zAt w n i 2 = zCC (zOvP w n i) n (i + 1) := by unfold zAt; rw [zIf_t h, zIf_f (by omega), zIf_f (by omega), zIf_t rfl]
theorem zAt_3 {w : Int → Int} {n i : Int} (h : 0 ≤ i ∧ i < n) : zAt w n i 3 = zSE w (i + 1) := by unfold zAt; rw [zIf_t h, zIf_f (by omega), zIf_f (by omega), zIf_f (by omega), zIf_t rfl]
theorem zAt_out {w : Int → Int} {n i : Int} (h : ¬ (0 ≤ i ∧ i < n)) (q : Int) : zAt w n i q = -1 := by unfold zAt; exact zIf_f h
theorem aFac_0 {w : Int → Int} {n i j : Int} (h : 0 ≤ i ∧ i < j ∧ j ≤ n) : aFactor w n i j 0 = zHow w n j (j - i) := by unfold aFactor; rw [zIf_t h]; unfold zFac; rw [zIf_t rfl]
theorem aFac_1 {w : Int → Int} {n i j : Int} (h : 0 ≤ i ∧ i < j ∧ j ≤ n) : aFactor w n i j 1 = zFst w j (j - i) := by unfold aFactor; rw [zIf_t h]; unfold zFac; rw [zIf_f (by omega), zIf_t rfl]
theorem aFac_2 {w : Int → Int} {n i j : Int} (h : 0 ≤ i ∧ i < j ∧ j ≤ n) : aFactor w n i j 2 = zLst w n j (j - i) := by unfold aFactor; rw [zIf_t h]; unfold zFac; rw [zIf_f (by omega), zIf_f (by omega), zIf_t rfl]
theorem aFac_3 {w : Int → Int} {n i j : Int} (h : 0 ≤ i ∧ i < j ∧ j ≤ n) : aFactor w n i j 3 = zLC w n j (j - i) := by unfold aFactor; rw [zIf_t h]; unfold zFac; rw [zIf_f (by omega), zIf_f (by omega), zIf_f (by omega), zIf_t rfl]
theorem aFac_4 {w : Int → Int} {n i j : Int} (h : 0 ≤ i ∧ i < j ∧ j ≤ n) : aFactor w n i j 4 = zLL w n j (j - i) + 1 := by unfold aFactor; rw [zIf_t h]; unfold zFac; rw [zIf_f (by omega), zIf_f (by omega), zIf_f (by omega), zIf_f (by omega), zIf_t rfl]
theorem aFac_5 {w : Int → Int} {n i j : Int} (h : 0 ≤ i ∧ i < j ∧ j ≤ n) : aFactor w n i j 5 = zLL w n j (j - i) := by unfold aFactor; rw [zIf_t h]; unfold zFac; rw [zIf_f (by omega), zIf_f (by omega), zIf_f (by omega), zIf_f (by omega), zIf_f (by omega), zIf_t rfl]
theorem aFac_6 {w : Int → Int} {n i j : Int} (h : 0 ≤ i ∧ i < j ∧ j ≤ n) : aFactor w n i j 6 = zLP w i j := by unfold aFactor; rw [zIf_t h]; unfold zFac; rw [zIf_f (by omega), zIf_f (by omega), zIf_f (by omega), zIf_f (by omega), zIf_f (by omega), zIf_f (by omega), zIf_t rfl]
theorem aFac_7 {w : Int → Int} {n i j : Int} (h : 0 ≤ i ∧ i < j ∧ j ≤ n) : aFactor w n i j 7 = zEG w i j (j - i) := by unfold aFactor; rw [zIf_t h]; unfold zFac; rw [zIf_f (by omega), zIf_f (by omega), zIf_f (by omega), zIf_f (by omega), zIf_f (by omega), zIf_f (by omega), zIf_f (by omega), zIf_t rfl]
theorem aFac_8 {w : Int → Int} {n i j : Int} (h : 0 ≤ i ∧ i < j ∧ j ≤ n) : aFactor w n i j 8 = zB (zPrim w i j) := by unfold aFactor; rw [zIf_t h]; unfold zFac; rw [zIf_f (by omega), zIf_f (by omega), zIf_f (by omega), zIf_f (by omega), zIf_f (by omega), zIf_f (by omega), zIf_f (by omega), zIf_f (by omega), zIf_t rfl]
theorem aFac_9 {w : Int → Int} {n i j : Int} (h : 0 ≤ i ∧ i < j ∧ j ≤ n) : aFactor w n i j 9 = 100 * (j - i) / zLP w i j := by unfold aFactor; rw [zIf_t h]; unfold zFac; rw [zIf_f (by omega), zIf_f (by omega), zIf_f (by omega), zIf_f (by omega), zIf_f (by omega), zIf_f (by omega), zIf_f (by omega), zIf_f (by omega), zIf_f (by omega), zIf_t rfl]
theorem aFac_out {w : Int → Int} {n i j : Int} (h : ¬ (0 ≤ i ∧ i < j ∧ j ≤ n)) (q : Int) : aFactor w n i j q = -1 := by unfold aFactor; exact zIf_f h
theorem aAlike_in {w : Int → Int} {n i j : Int} (hi : 0 ≤ i ∧ i < n) (hj : 0 ≤ j ∧ j < n) : aAlike w n i j = zAF w n i j := by unfold aAlike; exact zIf_t ⟨hi, hj⟩
theorem aAlike_out {w : Int → Int} {n i j : Int} (h : ¬ ((0 ≤ i ∧ i < n) ∧ 0 ≤ j ∧ j < n)) : aAlike w n i j = -1 := by unfold aAlike; exact zIf_f h
theorem aSuffix_in {w : Int → Int} {n r : Int} (h : 0 ≤ r) : aSuffix w n r = zPl w n r := by unfold aSuffix; exact zIf_f (by omega)
theorem aSuffix_out {w : Int → Int} {n r : Int} (h : r < 0) : aSuffix w n r = -2 := by unfold aSuffix; exact zIf_t h
theorem aUnlike_in {w : Int → Int} {n r : Int} (h : 0 ≤ r ∧ r ≤ n) : aUnlike w n r = zUn w r := by unfold aUnlike; exact zIf_t h
theorem aUnlike_out {w : Int → Int} {n r : Int} (h : ¬ (0 ≤ r ∧ r ≤ n)) : aUnlike w n r = -1 := by unfold aUnlike; exact zIf_f h
theorem aBorder_in {w : Int → Int} {n i r : Int} (h : 1 ≤ i ∧ i ≤ n) (hr : 0 ≤ r) : aBorder w n i r = zBorder w i r := by unfold aBorder; rw [zIf_t h]; exact zIf_f (by omega)
theorem aBorder_out {w : Int → Int} {n i r : Int} (h : ¬ (1 ≤ i ∧ i ≤ n)) : aBorder w n i r = -1 := by unfold aBorder; exact zIf_f h
theorem zB_1 {P : Prop} (h : ¬ zB P = 0) : P := by
  rcases zB_c P with ⟨c, d⟩ | ⟨c, d⟩
  · exact c
  · exact absurd d h
theorem zB_0f {P : Prop} (h : zB P = 0) : ¬ P := fun q => by rw [zB_t q] at h; omega
theorem zAt0_bd {w : Int → Int} {n : Int} (hw : ∀ k, 0 ≤ k → k < n → 0 ≤ w k ∧ w k ≤ 25) (i : Int) : -1 ≤ zAt w n i 0 ∧ zAt w n i 0 ≤ 25 := by
  rcases Classical.em (0 ≤ i ∧ i < n) with q | q
  · rw [zAt_0 q]; have := hw i q.1 q.2; omega
  · rw [zAt_out q]; omega
/-- what same() finds out -/
def zSameP (w : Int → Int) (n a b m : Int) : Prop := ∀ q, 0 ≤ q → q < m → zAt w n (a + q) 0 = zAt w n (b + q) 0
theorem zSame_of {w : Int → Int} {n a b m : Int} (ha : 0 ≤ a ∧ a + m ≤ n) (hb : 0 ≤ b ∧ b + m ≤ n) (h : zSm w a b m) : zSameP w n a b m := fun q q1 q2 => by
  rw [zAt_0 (by omega), zAt_0 (by omega)]; exact h q q1 q2
theorem zSame_next {w : Int → Int} {n a b k : Int} (h : zSameP w n a b k) (e : zAt w n (a + k) 0 = zAt w n (b + k) 0) : zSameP w n a b (k + 1) := fun q q1 q2 => by
  rcases (show q < k ∨ q = k by omega) with c | c
  · exact h q q1 c
  · rw [c]; exact e
theorem zSame_less {w : Int → Int} {n a b k m : Int} (h : zSameP w n a b m) (hk : k ≤ m) : zSameP w n a b k := fun q q1 q2 => h q q1 (by omega)
theorem zAnd31 (x : Int32) : ∃ q : Int, x &&& zI 2147483647 = zI q ∧ 0 ≤ q ∧ q < 2147483648 := by
  obtain ⟨n, hn, rfl⟩ := zN_of x
  have h : (n &&& 2147483647) ≤ 2147483647 := Nat.and_le_right
  exact ⟨((n &&& 2147483647 : Nat) : Int), by rw [show zI 2147483647 = zN 2147483647 from rfl, zN_and hn (by omega), zN_I], by omega, by omega⟩
/-- all that factors() asks of a factor -/
theorem zFac_all {w : Int → Int} {n i j m : Int} (hm : m = j - i) (h : 0 ≤ i ∧ i < j ∧ j ≤ n) (hn : n ≤ 40) : ∃ ti fi la lo sh pe bo z8 : Int, (aFactor w n i j 0 = ti ∧ aFactor w n i j 1 = fi ∧ aFactor w n i j 2 = la ∧ aFactor w n i j 3 = lo ∧ aFactor w n i j 4 = sh ∧ aFactor w n i j 5 = sh - 1 ∧ aFactor w n i j 6 = pe ∧ aFactor w n i j 7 = bo ∧ aFactor w n i j 8 = z8 ∧ aFactor w n i j 9 = 100 * m / pe) ∧
    (0 < ti ∧ ti ≤ 40 ∧ m ≤ fi ∧ fi ≤ j ∧ j ≤ la ∧ la ≤ n ∧ 1 ≤ pe ∧ pe ≤ m ∧ bo = m - pe ∧ m ≤ lo ∧ lo ≤ j ∧ 1 ≤ sh ∧ sh ≤ m) ∧ (ti = 1 ↔ fi = la) ∧ (zSameP w n i (fi - m) m ∧ zSameP w n i (la - m) m ∧ zSameP w n i (j - bo) bo) ∧ ((m % pe = 0 ∧ pe < m → z8 = 0) ∧ (¬ (m % pe = 0 ∧ pe < m) → z8 = 1) ∧ 0 ≤ m % pe ∧ m % pe < pe ∧ 0 ≤ 100 * m / pe ∧ 100 * m / pe ≤ 4000) ∧
    aFactor w n (j - lo) j 0 = ti ∧ aFactor w n (j - sh) j 0 = ti ∧ (1 < sh → ti < aFactor w n (j - sh + 1) j 0 ∧ aFactor w n (j - sh + 1) j 0 ≤ 40) ∧ (lo < j → aFactor w n (j - lo - 1) j 0 < ti ∧ 0 ≤ aFactor w n (j - lo - 1) j 0) := by
  subst hm
  have h1 := zHow_pos (w := w) h
  have h2 := zHow_bd (w := w) (n := n) (j := j) (j - i) (by omega)
  obtain ⟨f1, f2, f3, f4⟩ := zFst_sp (w := w) h
  obtain ⟨l1, l2, l3, l4⟩ := zLst_sp (w := w) h
  have c1 := zLC_bd (w := w) h
  have s1 := (zLL_sp (w := w) h).1
  have p1 := zLP_bd w (i := i) (j := j) h.2.1
  have e1 := zEG_LP w (i := i) (j := j) (by omega)
  have sm := zBor_sm (w := w) (i := i) (j := j) ⟨h.1, h.2.1⟩
  have mn := Int.emod_nonneg (j - i) (show zLP w i j ≠ 0 by omega)
  have ml := Int.emod_lt_of_pos (j - i) (show 0 < zLP w i j by omega)
  have dn : 0 ≤ 100 * (j - i) / zLP w i j := Int.ediv_nonneg (by omega) (by omega)
  have dl : 100 * (j - i) / zLP w i j ≤ 100 * (j - i) := Int.ediv_le_self _ (by omega)
  have hl := zHow_long (w := w) h
  have hs := zHow_short (w := w) h
  have hL := zHow_less (w := w) h
  have hM := zHow_more (w := w) h
  refine ⟨zHow w n j (j - i), zFst w j (j - i), zLst w n j (j - i), zLC w n j (j - i), zLL w n j (j - i) + 1, zLP w i j, zEG w i j (j - i), zB (zPrim w i j), ⟨aFac_0 h, aFac_1 h, aFac_2 h, aFac_3 h, aFac_4 h, (aFac_5 h).trans (by omega), aFac_6 h, aFac_7 h, aFac_8 h, aFac_9 h⟩, ⟨h1, h2.2, f1, f2, l1, l2, p1.1, p1.2, e1, c1.1, c1.2, by omega, by omega⟩, zFL_one h, ⟨?_, ?_, ?_⟩, ⟨fun q => zB_f (fun v => v ⟨q.2, q.1⟩), fun q => zB_t (fun v => q ⟨v.2, v.1⟩), mn, ml, dn, by omega⟩, ?_, ?_, fun q => ?_, fun q => ?_⟩
  · exact zSame_of (by omega) (by omega) (zSm_end ⟨by omega, rfl⟩ ⟨h.1, h.2.1⟩ (by omega) f3)
  · exact zSame_of (by omega) (by omega) (zSm_end ⟨by omega, rfl⟩ ⟨h.1, h.2.1⟩ (by omega) l3)
  · exact zSame_of (by omega) (by omega) sm
  · rw [aFac_0 (by omega), show j - (j - zLC w n j (j - i)) = zLC w n j (j - i) by omega]; exact hl
  · rw [aFac_0 (by omega), show j - (j - (zLL w n j (j - i) + 1)) = zLL w n j (j - i) + 1 by omega]; exact hs
  · have e : aFactor w n (j - (zLL w n j (j - i) + 1) + 1) j 0 = zHow w n j (zLL w n j (j - i)) := by rw [aFac_0 (by omega), show j - (j - (zLL w n j (j - i) + 1) + 1) = zLL w n j (j - i) by omega]
    rw [e]; exact ⟨hL (by omega), (zHow_bd _ (by omega)).2⟩
  · have e : aFactor w n (j - zLC w n j (j - i) - 1) j 0 = zHow w n j (zLC w n j (j - i) + 1) := by rw [aFac_0 (by omega), show j - (j - zLC w n j (j - i) - 1) = zLC w n j (j - i) + 1 by omega]
    rw [e]; exact ⟨hM, (zHow_bd _ (by omega)).1⟩
/-- all that hangs() asks of a suffix and the next one -/
theorem zSuf_at {w : Int → Int} {n k : Int} (hn : n ≤ 40) (h0 : 0 ≤ k) (hk : k < n) : ∃ p al q : Int, aSuffix w n k = p ∧ (0 ≤ p ∧ p < n ∧ 0 ≤ al ∧ al ≤ n) ∧ zAt w n p 1 = k ∧ aAlike w n p p = n - p ∧ al = zAdj w n k ∧ (n ≤ k + 1 → al = 0) ∧ (k + 1 < n → aSuffix w n (k + 1) = q ∧ (0 ≤ q ∧ q < n) ∧ aAlike w n p q = al ∧ (p + al = n ∨ (q + al < n ∧ zAt w n (p + al) 0 < zAt w n (q + al) 0))) := by
  have e1 := zPl_sp (w := w) h0 hk
  have bd := zAdj_bd (w := w) h0 hk
  refine ⟨zPl w n k, zAdj w n k, zPl w n (k + 1), aSuffix_in h0, by omega, ?_, ?_, rfl, fun q => zIf_f (by omega), fun q => ?_⟩
  · rw [zAt_1 e1.1]; exact e1.2
  · rw [aAlike_in e1.1 e1.1]; exact zAF_self (by omega)
  · have e2 := zPl_sp (w := w) (n := n) (k := k + 1) (by omega) q
    refine ⟨aSuffix_in (by omega), e2.1, ?_, ?_⟩
    · rw [aAlike_in e1.1 e2.1]; exact (zIf_t q).symm
    · rcases zSuf_ord (w := w) h0 q with v | ⟨v1, v2, v3⟩
      · exact Or.inl v
      · exact Or.inr ⟨v1, by rw [zAt_0 (by omega), zAt_0 (by omega)]; exact v3⟩
theorem zAdj_step {w : Int → Int} {n k : Int} (h : 0 ≤ k) : zC (fun k => zAdj w n k = 0) 0 (k + 1) = zC (fun k => zAdj w n k = 0) 0 k + zB (zAdj w n k = 0) := zC_s (fun k => zAdj w n k = 0) h
/-- b is the last pair's number, or -1 ahead of the first -/
def zBfP (P : Int → Int → Prop) (n k b : Int) : Prop := b = -1 ∨ ∃ k2 i2 d2, k2 < k ∧ zIsRk P n k2 i2 d2 ∧ b = 50 * i2 + d2
theorem zBf_0 (P : Int → Int → Prop) (n k : Int) : zBfP P n k (-1) := Or.inl rfl
theorem zBf_up {P : Int → Int → Prop} {n k k2 i d : Int} (h : zIsRk P n k i d) (hk : k < k2) : zBfP P n k2 (50 * i + d) := Or.inr ⟨k, i, d, hk, h, rfl⟩
theorem zBf_ord {P : Int → Int → Prop} {n k b i d : Int} (hn : n ≤ 40) (hb : zBfP P n k b) (h : zIsRk P n k i d) : b < 50 * i + d := by
  have h0 := h.1
  rcases hb with hb | ⟨k2, i2, d2, h1, h2, h3⟩
  · omega
  · have h4 := h2.1
    rcases zIsRk_ord h2 h h1 with q | ⟨q1, q2⟩ <;> omega

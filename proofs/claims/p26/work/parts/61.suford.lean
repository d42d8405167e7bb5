-- suffixes in their order
section ZSO
variable {w : Int → Int} {n : Int}
theorem zPl_sp {k : Int} (h0 : 0 ≤ k) (hk : k < n) : (0 ≤ zPl w n k ∧ zPl w n k < n) ∧ zRank w n (zPl w n k) = k := by
  obtain ⟨x, x0, x1, e⟩ := zPig (f := zRank w n) (n := n) (fun x a b => ⟨(zRank_bd w x (by omega)).1, zRank_top ⟨a, b⟩⟩) (fun x y a b c d e => zRank_inj ⟨a, b⟩ ⟨c, d⟩ e) h0 hk
  rw [zPl_hit ⟨x0, x1, e⟩]; exact ⟨⟨x0, x1⟩, e⟩
theorem zPl_end : zPl w n n = -4 := zPl_none fun q h1 h2 => by have := zRank_top (w := w) (n := n) (i := q) ⟨h1, h2⟩; omega
theorem zRank_ah {i j : Int} (hi : 0 ≤ i ∧ i < n) (hj : 0 ≤ j ∧ j < n) (h : zRank w n i < zRank w n j) : zAh w n i j := by
  rcases Classical.em (i = j) with q | q
  · subst q; omega
  · rcases zAh_tri (w := w) (n := n) (i := i) (j := j) (by omega) (by omega) q with k | k
    · exact k
    · have := zRank_lt hj hi k; omega
theorem zAF_mid {p q r : Int} (hp : 0 ≤ p ∧ p < n) (hq : 0 ≤ q ∧ q < n) (hr : 0 ≤ r ∧ r < n) (h1 : zAh w n p q) (h2 : zAh w n q r) : zAF w n p r ≤ zAF w n p q := by
  have bm := zAF_bd (w := w) (n := n) (i := p) (j := r) (by omega) (by omega)
  have sm := ((zAF_ge (w := w) (n := n) (i := p) (j := r) (by omega) (by omega) bm.1).mp (Int.le_refl _)).2.2
  have bx := zAF_bd (w := w) (n := n) (i := p) (j := q) (by omega) (by omega)
  have sx := ((zAF_ge (w := w) (n := n) (i := p) (j := q) (by omega) (by omega) bx.1).mp (Int.le_refl _)).2.2
  rcases Int.lt_or_le (zAF w n p q) (zAF w n p r) with c | c
  · exfalso
    rcases h1 with v | ⟨v1, v2, v3⟩
    · omega
    · refine zAh_asym (w := w) (n := n) (i := q) (j := r) (by omega) (by omega) h2 ((zAh_iff (by omega) (by omega)).mpr ⟨zAF w n p q, bx.1, fun k k1 k2 => ?_, by omega, v2, fun _ => ?_⟩)
      · rw [← sm k k1 (by omega)]; exact sx k k1 k2
      · rw [← sm _ bx.1 c]; exact v3
  · exact c
/-- how many letters the suffix at a rank begins with as the next one does -/
noncomputable def zAdj (w : Int → Int) (n k : Int) : Int := zIf (k + 1 < n) (zAF w n (zPl w n k) (zPl w n (k + 1))) 0
theorem zAdj_bd {k : Int} (h0 : 0 ≤ k) (hk : k < n) : 0 ≤ zAdj w n k ∧ zAdj w n k ≤ n := by
  rcases Classical.em (k + 1 < n) with q | q
  · have h1 := zPl_sp (w := w) h0 hk
    have h2 := zPl_sp (w := w) (n := n) (k := k + 1) (by omega) q
    have := zAF_bd (w := w) (n := n) (i := zPl w n k) (j := zPl w n (k + 1)) (by omega) (by omega)
    unfold zAdj; rw [zIf_t q]; omega
  · unfold zAdj; rw [zIf_f q]; omega
theorem zAdj_ge {i j : Int} (hi : 0 ≤ i ∧ i < n) (hj : 0 ≤ j ∧ j < n) (h : zRank w n i < zRank w n j) : zAF w n i j ≤ zAdj w n (zRank w n i) := by
  have a0 := (zRank_bd w i (show 0 ≤ n by omega)).1
  have b1 := zRank_top (w := w) hj
  have e : zPl w n (zRank w n i) = i := zPl_hit ⟨hi.1, hi.2, rfl⟩
  have hq := zPl_sp (w := w) (n := n) (k := zRank w n i + 1) (by omega) (by omega)
  unfold zAdj
  rw [zIf_t (by omega), e]
  generalize zPl w n (zRank w n i + 1) = q at *
  rcases (show zRank w n i + 1 = zRank w n j ∨ zRank w n i + 1 < zRank w n j by omega) with c | c
  · have : q = j := zRank_inj (w := w) hq.1 hj (by omega)
    rw [this]; exact Int.le_refl _
  · exact zAF_mid hi hq.1 hj (zRank_ah hi hq.1 (by omega)) (zRank_ah hq.1 hj (by omega))
theorem zAdj_tw (hn : 0 ≤ n) : zM (zAdj w n) 0 n = zTw w n := by
  have a : zM (zAdj w n) 0 n ≤ zTw w n := zM_le (zM_nn _ _ _) fun k h1 h2 => by
    rcases Classical.em (k + 1 < n) with q | q
    · have e1 := zPl_sp (w := w) h1 h2
      have e2 := zPl_sp (w := w) (n := n) (k := k + 1) (by omega) q
      unfold zAdj; rw [zIf_t q]
      rcases Int.lt_trichotomy (zPl w n k) (zPl w n (k + 1)) with c | c | c
      · exact zTw_A ⟨e1.1.1, c, e2.1.2⟩
      · rw [c] at e1; omega
      · rw [zAF_symm]; exact zTw_A ⟨e2.1.1, c, e1.1.2⟩
    · unfold zAdj; rw [zIf_f q]; exact zM_nn _ _ _
  have b : zTwR w n ≤ zM (zAdj w n) 0 n := zM_le (zM_nn _ _ _) fun i h1 h2 => zM_le (zM_nn _ _ _) fun j h3 h4 => by
    have ri := zRank_top (w := w) (n := n) (i := i) ⟨h1, h2⟩
    have rj := zRank_top (w := w) (n := n) (i := j) ⟨by omega, h4⟩
    have ri0 := zRank_bd w i hn
    have rj0 := zRank_bd w j hn
    rcases Int.lt_trichotomy (zRank w n i) (zRank w n j) with c | c | c
    · have := zAdj_ge (w := w) (n := n) (i := i) (j := j) ⟨h1, h2⟩ ⟨by omega, h4⟩ c
      exact Int.le_trans this (zM_ge _ ri0.1 ri)
    · have := zRank_inj (w := w) (n := n) (i := i) (j := j) ⟨h1, h2⟩ ⟨by omega, h4⟩ c
      omega
    · have := zAdj_ge (w := w) (n := n) (i := j) (j := i) ⟨by omega, h4⟩ ⟨h1, h2⟩ c
      rw [zAF_symm] at this
      exact Int.le_trans this (zM_ge _ rj0.1 rj)
  rw [zTwR_eq] at b
  omega
theorem zAdj_un {k k2 : Int} (h0 : 0 ≤ k) (h : k < k2) (h2 : k2 < n) (e : w (zPl w n k) = w (zPl w n k2)) : 0 < zAdj w n k := by
  have e1 := zPl_sp (w := w) (n := n) h0 (by omega)
  have e2 := zPl_sp (w := w) (n := n) (k := k2) (by omega) h2
  have g : 1 ≤ zAF w n (zPl w n k) (zPl w n k2) := (zAF_ge (by omega) (by omega) (by omega)).mpr ⟨by omega, by omega, fun x x1 x2 => by
    rw [show x = 0 by omega, Int.add_zero, Int.add_zero]; exact e⟩
  have := zAdj_ge (w := w) (n := n) e1.1 e2.1 (by omega)
  rw [e1.2] at this
  omega
theorem zAdj_ex {x : Int} (hx : ∃ k, 0 ≤ k ∧ k < n ∧ w k = x) : ∃ k, 0 ≤ k ∧ k < n ∧ zAdj w n k = 0 ∧ w (zPl w n k) = x := by
  obtain ⟨k, k0, k1, k2⟩ := hx
  have r0 := (zRank_bd w k (show 0 ≤ n by omega)).1
  have r1 := zRank_top (w := w) (n := n) (i := k) ⟨k0, k1⟩
  obtain ⟨y, y1, y2, y3, y4⟩ := zMost (P := fun r => w (zPl w n r) = x) (b := n - 1) n.toNat (x := zRank w n k) (by omega) (by omega) (by show w (zPl w n (zRank w n k)) = x; rw [zPl_hit ⟨k0, k1, rfl⟩]; exact k2)
  refine ⟨y, by omega, by omega, ?_, y3⟩
  rcases Classical.em (y + 1 < n) with q | q
  · have e1 := zPl_sp (w := w) (n := n) (k := y) (by omega) (by omega)
    have e2 := zPl_sp (w := w) (n := n) (k := y + 1) (by omega) q
    have bd := zAF_bd (w := w) (n := n) (i := zPl w n y) (j := zPl w n (y + 1)) (by omega) (by omega)
    unfold zAdj; rw [zIf_t q]
    rcases (show zAF w n (zPl w n y) (zPl w n (y + 1)) = 0 ∨ 1 ≤ zAF w n (zPl w n y) (zPl w n (y + 1)) by omega) with c | c
    · exact c
    · have := ((zAF_ge (w := w) (n := n) (i := zPl w n y) (j := zPl w n (y + 1)) (m := 1) (by omega) (by omega) (by omega)).mp c).2.2 0 (by omega) (by omega)
      rw [Int.add_zero, Int.add_zero] at this
      exact absurd (this.symm.trans y3) (y4 (y + 1) (by omega) (by omega))
  · unfold zAdj; exact zIf_f q
theorem zAdj_let (hw : ∀ k, 0 ≤ k → k < n → 0 ≤ w k ∧ w k ≤ 25) : zC (fun k => zAdj w n k = 0) 0 n = zLet w n := by
  have e1 : zC (fun k => zAdj w n k = 0) 0 n = zS (fun k => zS (fun x => zB (zAdj w n k = 0 ∧ w (zPl w n k) = x)) 0 26) 0 n := zS_congr fun k k0 k1 => by
    have s := (zPl_sp (w := w) k0 k1).1
    have b := hw _ s.1 s.2
    rcases zB_c (zAdj w n k = 0) with ⟨c, d⟩ | ⟨c, d⟩
    · rw [d]; exact (zC_is1 (P := fun x => zAdj w n k = 0 ∧ w (zPl w n k) = x) (a := 0) (b := 26) (x := w (zPl w n k)) b.1 (by omega) ⟨c, rfl⟩ (fun y _ _ q => q.2.symm)).symm
    · rw [d]; exact (zC_miss (P := fun x => zAdj w n k = 0 ∧ w (zPl w n k) = x) (fun x _ _ q => c q.1)).symm
  rw [e1, zS_swap]
  refine zS_congr fun x x0 x1 => ?_
  rcases zB_c (∃ k, 0 ≤ k ∧ k < n ∧ w k = x) with ⟨c, d⟩ | ⟨c, d⟩
  · rw [d]
    obtain ⟨k, k0, k1, k2, k3⟩ := zAdj_ex c
    refine zC_is1 (P := fun k => zAdj w n k = 0 ∧ w (zPl w n k) = x) k0 k1 ⟨k2, k3⟩ (fun y y0 y1 y2 => ?_)
    rcases Int.lt_trichotomy y k with v | v | v
    · have := zAdj_un (w := w) y0 v k1 (y2.2.trans k3.symm); omega
    · exact v
    · have := zAdj_un (w := w) k0 v y1 (k3.trans y2.2.symm); omega
  · rw [d]
    exact zC_miss (P := fun k => zAdj w n k = 0 ∧ w (zPl w n k) = x) (fun k k0 k1 q => c ⟨zPl w n k, (zPl_sp k0 k1).1.1, (zPl_sp k0 k1).1.2, q.2⟩)
theorem zSuf_ord {k : Int} (h0 : 0 ≤ k) (h : k + 1 < n) : zPl w n k + zAdj w n k = n ∨ (zPl w n (k + 1) + zAdj w n k < n ∧ zPl w n k + zAdj w n k < n ∧ w (zPl w n k + zAdj w n k) < w (zPl w n (k + 1) + zAdj w n k)) := by
  have e1 := zPl_sp (w := w) (n := n) h0 (by omega)
  have e2 := zPl_sp (w := w) (n := n) (k := k + 1) (by omega) h
  have := zRank_ah (w := w) e1.1 e2.1 (by omega)
  unfold zAdj; rw [zIf_t h]
  rcases this with q | q
  · exact Or.inl q.1
  · exact Or.inr ⟨q.2.1, q.1, q.2.2⟩
theorem zAF_self {i : Int} (h : i ≤ n) : zAF w n i i = n - i := zAF_un (by omega) (by omega) (by omega) (fun _ _ _ => rfl) (fun q => absurd q (by omega))
end ZSO

-- sums that hangs() compares, and what square() and run() tell at a rank
section ZSM
variable {w : Int → Int} {n : Int}
theorem zSE_sum (hn : 0 ≤ n) : zS (fun k => zSE w (k + 1)) 0 n = zCC (zSqP w) n n := by
  rw [zS_shift (zSE w) 0 n 1, show (0 : Int) + 1 = 1 by omega, ← zSE_all w hn]
  have e0 : zSE w 1 = 0 := zC_nil _ (by omega)
  rcases (show n = 0 ∨ 1 < n + 1 by omega) with c | c
  · subst c; rw [zS_nil _ (by omega), zS_nil _ (by omega)]
  · rw [zS_head (zSE w) c, e0]
    rw [show (1 : Int) + 1 = 2 by omega]; omega
theorem zOver_sum (hn : 0 ≤ n) : zS (fun r => zRk (zRun w n) n r (fun i d => zRT w n i d - i)) 0 (zCC (zRun w n) n n) = zS (fun x => zCC (zOvP w n x) n (x + 1)) 0 n := by
  rw [zRk_sum _ hn]
  have e1 : zS (fun x => zCC (zOvP w n x) n (x + 1)) 0 n = zS (fun x => zS (fun i => zS (fun d => zB (i ≤ x ∧ zOvP w n x i d)) 1 ((n - i) / 2 + 1)) 0 n) 0 n := zS_congr fun x x0 x1 => by
    have e := zS_split (fun i => zS (fun d => zB (i ≤ x ∧ zOvP w n x i d)) 1 ((n - i) / 2 + 1)) (a := 0) (b := x + 1) (c := n) (by omega) (by omega)
    have e2 : zS (fun i => zS (fun d => zB (i ≤ x ∧ zOvP w n x i d)) 1 ((n - i) / 2 + 1)) (x + 1) n = 0 := zS_zero fun i h1 h2 => zS_zero fun d h3 h4 => zB_f (fun q => by omega)
    have e3 : zCC (zOvP w n x) n (x + 1) = zS (fun i => zS (fun d => zB (i ≤ x ∧ zOvP w n x i d)) 1 ((n - i) / 2 + 1)) 0 (x + 1) := zS_congr fun i h1 h2 => zS_congr fun d h3 h4 => zB_eq ⟨fun q => ⟨by omega, q⟩, fun q => q.2⟩
    omega
  rw [e1, zS_swap]
  refine zS_congr fun i i0 i1 => ?_
  rw [zS_swap]
  refine zS_congr fun d d0 d1 => ?_
  rcases Classical.em (zRun w n i d) with c | c
  · rw [zIf_t c]
    obtain ⟨⟨a1, a2⟩, -⟩ := zRun_sp (w := w) (n := n) (f := i) (p := d) (by omega) c
    have e := zS_split (fun x => zB (i ≤ x ∧ zOvP w n x i d)) (a := 0) (b := i) (c := n) i0 (by omega)
    have e2 : zS (fun x => zB (i ≤ x ∧ zOvP w n x i d)) 0 i = 0 := zS_zero fun x h1 h2 => zB_f (fun q => by omega)
    have e3 : zC (fun x => i ≤ x ∧ zOvP w n x i d) i n = zRT w n i d - i := zC_below (x := zRT w n i d) (by omega) (fun x h1 h2 => ⟨fun q => q.2.2, fun q => ⟨h1, c, q⟩⟩)
    have e4 : zS (fun x => zB (i ≤ x ∧ zOvP w n x i d)) i n = zRT w n i d - i := e3
    omega
  · rw [zIf_f c]
    exact (zS_zero fun x h1 h2 => zB_f (fun q => c q.2.1)).symm
theorem zOver_bd (hn : 0 ≤ n) {x : Int} (hx : 0 ≤ x ∧ x < n) : 0 ≤ zCC (zOvP w n x) n (x + 1) := zCC_nn hn (by omega)
theorem zCl_le (hn : 0 ≤ n) : zCl w n ≤ zUn w n := zS_le fun t t1 t2 => by
  have hk := zKn_bd w (t := t) t1
  have e := zS_split (fun k => zB (zCP w n t k)) (a := 1) (b := zKn w t + 1) (c := t + 1) (by omega) (by omega)
  have e2 : zS (fun k => zB (zCP w n t k)) 1 (zKn w t + 1) = 0 := zS_zero fun k h1 h2 => zB_f (fun q => by have := q.1; omega)
  have e3 := zC_bd (zCP w n t) (a := zKn w t + 1) (b := t + 1) (by omega)
  have e4 : zC (zCP w n t) (zKn w t + 1) (t + 1) = zS (fun k => zB (zCP w n t k)) (zKn w t + 1) (t + 1) := rfl
  show zS (fun k => zB (zCP w n t k)) 1 (t + 1) ≤ t - zKn w t
  omega
theorem zS_nn {f : Int → Int} {a b : Int} (h : ∀ k, a ≤ k → k < b → 0 ≤ f k) : 0 ≤ zS f a b := by
  have e : zS (fun _ => 0) a b = 0 := zS_zero fun _ _ _ => rfl
  rw [← e]
  exact zS_le h
theorem zCl_bd0 (hn : 0 ≤ n) : 0 ≤ zCl w n := zS_nn fun t t1 t2 => (zCE_bd w (n := n) (t := t) t1).1
theorem zCC_bd2 (P : Int → Int → Prop) {i : Int} (h : 0 ≤ n ∧ n ≤ 40) (hi : 0 ≤ i ∧ i ≤ n) : 0 ≤ zCC P n i ∧ zCC P n i ≤ 1600 := by
  have := zCC_nn (P := P) h.1 hi
  have := zCC_mono P (n := n) (i := i) (j := n) hi.1 hi.2 (Int.le_refl n)
  have := zCC_bd P h
  omega
theorem zUs_le : zCC (zUsP w) n n ≤ zCC (zSqP w) n n := zCC_sub fun _ _ q => q.1
theorem zUn_up {k : Int} (h : 0 ≤ k) : zUn w k < zUn w (k + 1) := by
  have e : zUn w (k + 1) = zUn w k + zUf w (k + 1) := zS_succ _ (by omega)
  have := zUf_bd w (t := k + 1) (by omega)
  omega
theorem zUn_0 : zUn w 0 = 0 := zS_nil _ (by omega)
theorem zUn_bd {k : Int} (h : 0 ≤ k ∧ k ≤ 40) : 0 ≤ zUn w k ∧ zUn w k ≤ 1600 := by
  have := zS_bd (f := zUf w) 40 (a := 1) (b := k + 1) (by omega) (fun t t1 t2 => by have := zUf_bd w (t := t) t1; omega)
  unfold zUn; omega
theorem zBd_bd (r : Int) (h : 0 ≤ n ∧ n ≤ 40) : -4 ≤ zBorder w n r ∧ zBorder w n r ≤ 40 := by
  have := zBorder_bd w r h.1; omega
theorem zBd_step {b r : Int} (h0 : 0 ≤ r) (hb : b = zch w 0 n r.toNat n) (hpos : 0 < b) : zBorder w n r = -4 ∨ (0 < zBorder w n r ∧ zBorder w n r < b ∧ zSm w 0 (n - zBorder w n r) (zBorder w n r) ∧ zBorder w n r = zch w 0 n (r + 1).toNat n) := by
  have e := zch_end w 0 n r.toNat n
  have e1 : (r + 1).toNat = r.toNat + 1 := by omega
  obtain ⟨a1, a2, a3, a4⟩ := zEG_spec w 0 n hpos
  by_cases q : 0 < zch w 0 n (r.toNat + 1) n
  · have e2 : zBorder w n r = zch w 0 n (r.toNat + 1) n := if_pos q
    rw [e2, e1]
    rw [e, ← hb] at q ⊢
    exact Or.inr ⟨q, a2, a3, rfl⟩
  · exact Or.inl (if_neg q)
theorem zSq_at {k : Int} (hn : 0 ≤ n) (h0 : 0 ≤ k) (h : k < zCC (zSqP w) n n) : ∃ i d, zIsRk (zSqP w) n k i d ∧ aSquare w n k 0 = i ∧ aSquare w n k 1 = d ∧ (0 ≤ i ∧ i < n ∧ 1 ≤ d ∧ i + 2 * d ≤ n) ∧ zSm w i (i + d) d := by
  obtain ⟨i, d, hd⟩ := zRk_ex hn h0 h
  refine ⟨i, d, hd, ?_, ?_, hd.1, hd.2.1⟩
  · unfold aSquare; rw [zIf_t (by omega), zRk_hit _ hd]; exact if_pos rfl
  · unfold aSquare; rw [zIf_t (by omega), zRk_hit _ hd]; exact if_neg (by omega)
theorem zSq_end (hn : 0 ≤ n) : aSquare w n (zCC (zSqP w) n n) 0 = -4 := by
  unfold aSquare; rw [zIf_t ⟨zCC_nn hn ⟨hn, Int.le_refl n⟩, by omega⟩]; exact zRk_none _ (Int.le_refl _)
theorem zRun_end (hn : 0 ≤ n) : aRun w n (zCC (zRun w n) n n) 0 = -4 := by
  unfold aRun; rw [zIf_t ⟨zCC_nn hn ⟨hn, Int.le_refl n⟩, by omega⟩]; exact zRk_none _ (Int.le_refl _)
theorem zRun_at {k : Int} (hn : 0 ≤ n) (h0 : 0 ≤ k) (h : k < zCC (zRun w n) n n) : ∃ i d t R, zIsRk (zRun w n) n k i d ∧ aRun w n k 0 = i ∧ aRun w n k 1 = t ∧ aRun w n k 2 = d ∧ aRun w n k 3 = R ∧ aRun w n k 4 = t - i - 2 * d + 1 ∧ (0 ≤ i ∧ i < n ∧ 1 ≤ d ∧ i + 2 * d ≤ t ∧ t ≤ n ∧ i ≤ R ∧ R < i + d) ∧ zLP w i t = d ∧ (i = 0 ∨ w (i - 1) ≠ w (i - 1 + d)) ∧ (t = n ∨ w t ≠ w (t - d)) ∧ zPrim w R (R + d) ∧ zRk (zRun w n) n k (fun i d => zRT w n i d - i) = t - i := by
  obtain ⟨i, d, hd⟩ := zRk_ex hn h0 h
  have hb := hd.1
  obtain ⟨⟨a1, a2⟩, a3, a4, a5, a6⟩ := zRun_sp (w := w) (n := n) (f := i) (p := d) (by omega) hd.2.1
  have g := zRoot_sp a3 (by omega)
  have ar : ∀ u, 0 ≤ u → u ≤ 4 → aRun w n k u = zTold w i (zRT w n i d) d u := fun u u0 u1 => by
    unfold aRun; rw [zIf_t (by omega), zRk_hit _ hd]
  refine ⟨i, d, zRT w n i d, zRootTo w d i (zRT w n i d - d + 1), hd, ?_, ?_, ?_, ?_, ?_, by omega, a4, a6, a5, ?_, ?_⟩
  · rw [ar 0 (by omega) (by omega), zTold_0]
  · rw [ar 1 (by omega) (by omega), zTold_1]
  · rw [ar 2 (by omega) (by omega), zTold_2]
  · rw [ar 3 (by omega) (by omega), zTold_3]
  · rw [ar 4 (by omega) (by omega), zTold_4 w i _ d (by omega)]
  · exact zRoot_prim hb.1 (by omega) a4 g.1 (by omega)
  · exact zRk_hit _ hd
theorem zTw_bd (h : 0 ≤ n ∧ n ≤ 40) : 0 ≤ zTw w n ∧ zTw w n ≤ 40 := by
  refine ⟨zM_nn _ _ _, zM_le (by omega) fun t t1 t2 => ?_⟩
  have := zKn_bd w (t := t) t1
  omega
theorem zEG_LP0 (hn : 0 ≤ n) : zEG w 0 n n + zLP w 0 n = n := by
  have := zEG_LP w (i := 0) (j := n) hn
  rw [show n - 0 = n by omega] at this
  omega
end ZSM

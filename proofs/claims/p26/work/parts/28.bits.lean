-- sets of small numbers as the bits of a long, of an int
def zBt (X : Int64) (P : Int → Prop) : Prop := ∀ k : Nat, k < 64 → (X.toBitVec.getLsbD k = true ↔ P k)
theorem zBt_0 : zBt 0 (fun _ => False) := by
  intro k hk
  rw [Int64.toBitVec_zero, BitVec.getLsbD_zero]
  exact ⟨fun h => Bool.noConfusion h, fun h => h.elim⟩
theorem zBt_congr {X : Int64} {P Q : Int → Prop} (h : zBt X P) (e : ∀ k, 0 ≤ k → k < 64 → (P k ↔ Q k)) : zBt X Q := fun k hk => (h k hk).trans (e k (by omega) (by omega))
theorem zBt_sh1 : ∀ e, e < 64 → ∀ k, k < 64 → ((1 : Int64) <<< ((nI e).toInt64 &&& 63)).toBitVec.getLsbD k = decide (k = e) := by decide +kernel
theorem zBt_one {z : Int} (h : 0 ≤ z ∧ z < 64) : zBt ((1 : Int64) <<< ((zI z).toInt64 &&& 63)) (fun k => k = z) := by
  intro k hk
  rw [zI_nI h.1, zBt_sh1 z.toNat (by omega) k hk, decide_eq_true_eq]
  omega
theorem zBt_or {X Y : Int64} {P Q : Int → Prop} (h1 : zBt X P) (h2 : zBt Y Q) : zBt (X ||| Y) (fun k => P k ∨ Q k) := by
  intro k hk
  have e : (X ||| Y).toBitVec = X.toBitVec ||| Y.toBitVec := rfl
  rw [e, BitVec.getLsbD_or, Bool.or_eq_true, h1 k hk, h2 k hk]
theorem zBt_ext {X Y : Int64} {P Q : Int → Prop} (h1 : zBt X P) (h2 : zBt Y Q) : X = Y ↔ ∀ k : Int, 0 ≤ k → k < 64 → (P k ↔ Q k) := by
  constructor
  · intro e k a b
    subst e
    have e1 := h1 k.toNat (by omega)
    have e2 := h2 k.toNat (by omega)
    rw [show ((k.toNat : Nat) : Int) = k by omega] at e1 e2
    exact e1.symm.trans e2
  · intro e
    apply Int64.toBitVec_inj.mp
    apply BitVec.eq_of_getLsbD_eq
    intro k hk
    have e3 := ((h1 k hk).trans (e k (by omega) (by omega))).trans (h2 k hk).symm
    cases ha : X.toBitVec.getLsbD k <;> cases hb : Y.toBitVec.getLsbD k <;> simp [ha, hb] at e3 ⊢
theorem zBt_sm : ∀ k, k < 64 → (((nI k).toInt64 &&& 63).toBitVec.smod 64).toNat = k := by decide +kernel
theorem zBt_bit {X : Int64} {P : Int → Prop} (h : zBt X P) {k : Int} (hk : 0 ≤ k ∧ k < 64) : (X >>> ((zI k).toInt64 &&& 63)) &&& 1 = if X.toBitVec.getLsbD k.toNat then 1 else 0 := by
  apply Int64.toBitVec_inj.mp
  have e : ((X >>> ((zI k).toInt64 &&& 63)) &&& 1).toBitVec = (X.toBitVec.sshiftRight' (((zI k).toInt64 &&& 63).toBitVec.smod 64)) &&& 1#64 := rfl
  rw [e]
  have e2 : (if X.toBitVec.getLsbD k.toNat = true then (1 : Int64) else 0).toBitVec = if X.toBitVec.getLsbD k.toNat then 1#64 else 0#64 := by split <;> rfl
  rw [e2]
  apply BitVec.eq_of_getLsbD_eq
  intro i hi
  rw [BitVec.getLsbD_and, BitVec.getLsbD_sshiftRight', zI_nI hk.1, zBt_sm k.toNat (by omega), BitVec.getLsbD_one]
  by_cases h0 : i = 0
  · subst h0
    have : k.toNat + 0 < 64 := by omega
    have h64 : k < 64 := hk.2
    have h65 : ¬ 64 ≤ k := by omega
    cases hx : X.toBitVec.getLsbD k.toNat <;> simp [this, hx, h64, h65]
  · cases hx : X.toBitVec.getLsbD k.toNat <;> simp [h0]
theorem zBt_val {X : Int64} {P : Int → Prop} (h : zBt X P) {k : Int} (hk : 0 ≤ k ∧ k < 64) : ((X >>> ((zI k).toInt64 &&& 63)) &&& 1).toInt32 = zI (zB (P k)) := by
  rw [zBt_bit h hk]
  have e := h k.toNat (by omega)
  rw [show ((k.toNat : Nat) : Int) = k by omega] at e
  cases hx : X.toBitVec.getLsbD k.toNat
  · rw [zB_f (fun q => by rw [hx] at e; exact absurd (e.mpr q) (by simp))]; rfl
  · rw [zB_t (e.mp hx)]; rfl
theorem zBt_one1 {X : Int64} {P : Int → Prop} (h : zBt X P) {k : Int} (hk : 0 ≤ k ∧ k < 64) : (X >>> ((zI k).toInt64 &&& 63)) &&& 1 = 1 ↔ P k := by
  rw [zBt_bit h hk]
  have e := h k.toNat (by omega)
  rw [show ((k.toNat : Nat) : Int) = k by omega] at e
  rw [← e]
  cases hx : X.toBitVec.getLsbD k.toNat
  · simp
  · simp
section ZL
variable {p : Program} {l : Launch} {e : Env} {R : Room} {s : State} {m : MethodId} {args : Array Value} {below : List Frame} {meth : Method} {c : Code} {H : Heap} {locs : List Loc} {cells slots : Nat} {Q : State → Prop}
variable {cc : ByteArray} {pc : Nat} {ls : Array Slot} {rest : List Value}
theorem zv_lcmp (hexec : p.tables.exec = Jvm.exec) (hb : c.code = cc) {x y : Int64} (hdg : decode cc pc = .ok (.lcmp, 1))
    (k : ∀ z : Int, (-1 ≤ z ∧ z ≤ 1) → (z = 0 ↔ x = y) → W p l e R s m args below meth c H locs cells slots Q (F0 m (pc + 1) ls (.int (zI z) :: rest))) : W p l e R s m args below meth c H locs cells slots Q (F0 m pc ls (.long y :: .long x :: rest)) := by
  refine W.lcmp hexec hb hdg ?_
  rcases Classical.em (x = y) with h | h
  · have e : lg_cmp x y = zI 0 := by subst h; unfold lg_cmp; rw [if_neg (by rw [gt_iff_lt, Int64.lt_iff_toInt_lt]; omega), if_pos rfl]; rfl
    rw [e]; exact k 0 (by omega) ⟨fun _ => h, fun _ => rfl⟩
  · rcases Classical.em (x > y) with q | q
    · have e : lg_cmp x y = zI 1 := by unfold lg_cmp; rw [if_pos q]; rfl
      rw [e]; exact k 1 (by omega) ⟨fun z => by omega, fun z => absurd z h⟩
    · have e : lg_cmp x y = zI (-1) := by unfold lg_cmp; rw [if_neg q, if_neg h]; rfl
      rw [e]; exact k (-1) (by omega) ⟨fun z => by omega, fun z => absurd z h⟩
end ZL
/-- the factor of t letters at i ends at k, too -/
def zEn (w : Int → Int) (n i t k : Int) : Prop := t ≤ k ∧ k ≤ n ∧ zSm w i (k - t) t
theorem zEn_AA {w : Int → Int} {n i j k : Int} (h : 0 ≤ i ∧ i < j ∧ j ≤ n) (hk : 0 ≤ k) : zEn w n i (j - i) k ↔ k ≤ n ∧ j - i ≤ zAA w j k := by
  rw [zAA_ge (by omega) hk (by omega), show j - (j - i) = i by omega]
  unfold zEn
  constructor
  · rintro ⟨a, b, d⟩; exact ⟨b, by omega, a, d⟩
  · rintro ⟨a, b, d, f⟩; exact ⟨d, a, f⟩
theorem zEn_how {w : Int → Int} {n i j : Int} (h : 0 ≤ i ∧ i < j ∧ j ≤ n) (hn : n ≤ 40) : zC (zEn w n i (j - i)) 0 41 = zHow w n j (j - i) := by
  have e1 := zS_split (fun k => zB (zEn w n i (j - i) k)) (a := 0) (b := 1) (c := 41) (by omega) (by omega)
  have e2 := zS_split (fun k => zB (zEn w n i (j - i) k)) (a := 1) (b := n + 1) (c := 41) (by omega) (by omega)
  have e3 : zS (fun k => zB (zEn w n i (j - i) k)) 0 1 = 0 := zS_zero fun k a b => zB_f (fun q => by have := q.1; omega)
  have e4 : zS (fun k => zB (zEn w n i (j - i) k)) (n + 1) 41 = 0 := zS_zero fun k a b => zB_f (fun q => by have := q.2.1; omega)
  have e5 : zS (fun k => zB (zEn w n i (j - i) k)) 1 (n + 1) = zHow w n j (j - i) := zS_congr fun k a b => zB_eq ((zEn_AA h (by omega)).trans ⟨fun q => q.2, fun q => ⟨by omega, q⟩⟩)
  show zS (fun k => zB (zEn w n i (j - i) k)) 0 41 = _
  omega
theorem zEn_self {w : Int → Int} {n i j : Int} (h : 0 ≤ i ∧ i < j ∧ j ≤ n) : zEn w n i (j - i) j := ⟨by omega, h.2.2, by rw [show j - (j - i) = i by omega]; exact fun _ _ _ => rfl⟩
theorem zEn_fst {w : Int → Int} {n i j z : Int} (h : 0 ≤ i ∧ i < j ∧ j ≤ n) (h1 : zEn w n i (j - i) z) (h2 : ∀ q, 0 ≤ q → q < z → ¬ zEn w n i (j - i) q) : zFst w j (j - i) = z := by
  have h0 := h1.1
  have a := (zEn_AA h (by omega)).mp h1
  refine zFst_un ⟨h1.1, ?_, a.2, fun q q1 q2 q3 => h2 q (by omega) q2 ((zEn_AA h (by omega)).mpr ⟨by omega, q3⟩)⟩
  rcases Int.lt_or_le j z with q | q
  · exact absurd (zEn_self h) (h2 j (by omega) q)
  · exact q
theorem zEn_lst {w : Int → Int} {n i j z : Int} (h : 0 ≤ i ∧ i < j ∧ j ≤ n) (hn : n ≤ 40) (h1 : zEn w n i (j - i) z) (h2 : ∀ q, z < q → q ≤ 40 → ¬ zEn w n i (j - i) q) : zLst w n j (j - i) = z := by
  have h0 := h1.1
  have a := (zEn_AA h (by omega)).mp h1
  refine zLst_un ⟨?_, h1.2.1, a.2, fun q q1 q2 q3 => h2 q q1 (by omega) ((zEn_AA h (by omega)).mpr ⟨q2, q3⟩)⟩
  rcases Int.lt_or_le z j with q | q
  · exact absurd (zEn_self h) (h2 j q (by omega))
  · exact q
theorem zEn_less {w : Int → Int} {n i x j k : Int} (h : 0 ≤ x ∧ x ≤ i ∧ i < j ∧ j ≤ n) (hk : 0 ≤ k) (q : zEn w n x (j - x) k) : zEn w n i (j - i) k := by
  have a := (zEn_AA (by omega) hk).mp q
  exact (zEn_AA (by omega) hk).mpr ⟨a.1, by omega⟩
theorem zEn_LC {w : Int → Int} {n i x j : Int} (h : 0 ≤ x ∧ x ≤ i ∧ i < j ∧ j ≤ n) (h1 : ∀ k, 0 ≤ k → k < 64 → (zEn w n x (j - x) k ↔ zEn w n i (j - i) k)) (hn : n ≤ 40) (h2 : x = 0 ∨ ¬ ∀ k, 0 ≤ k → k < 64 → (zEn w n (x - 1) (j - (x - 1)) k ↔ zEn w n i (j - i) k)) (h3 : 0 < x ∨ x = 0) : zLC w n j (j - i) = j - x := by
  refine zLC_un ⟨by omega, ?_, fun q q1 q2 q3 => ?_⟩
  · rcases h2 with h2 | h2
    · exact ⟨j, by omega, by omega, by rw [zAA_self w (by omega)]; omega⟩
    · rcases h3 with h3 | h3
      · obtain ⟨k, hk⟩ := Classical.not_forall.mp h2
        have hk0 : 0 ≤ k := Classical.byContradiction fun q => hk (fun z => absurd z q)
        have hk1 : k < 64 := Classical.byContradiction fun q => hk (fun _ z => absurd z q)
        have hk2 : ¬ (zEn w n (x - 1) (j - (x - 1)) k ↔ zEn w n i (j - i) k) := fun q => hk (fun _ _ => q)
        have hx : zEn w n i (j - i) k := Classical.byContradiction fun q => hk2 ⟨fun z => absurd (zEn_less (by omega) hk0 z) q, fun z => absurd z q⟩
        have hy : ¬ zEn w n (x - 1) (j - (x - 1)) k := fun q => hk2 ⟨fun _ => hx, fun _ => q⟩
        have a := (zEn_AA (by omega) hk0).mp ((h1 k hk0 hk1).mpr hx)
        have b : ¬ (k ≤ n ∧ j - (x - 1) ≤ zAA w j k) := fun q => hy ((zEn_AA (by omega) hk0).mpr q)
        have bd := zAA_bd (w := w) (i := j) (j := k) (by omega) hk0
        exact ⟨k, by omega, a.1, by omega⟩
      · exact ⟨j, by omega, by omega, by rw [zAA_self w (by omega)]; omega⟩
  · have := (h1 q (by omega) (by omega)).mpr ((zEn_AA (by omega) (by omega)).mpr ⟨q2, q3⟩)
    exact ((zEn_AA (by omega) (by omega)).mp this).2
theorem zEn_LL {w : Int → Int} {n i x j : Int} (h : 0 ≤ i ∧ i ≤ x ∧ x < j ∧ j ≤ n) (h1 : ∀ k, 0 ≤ k → k < 64 → (zEn w n x (j - x) k ↔ zEn w n i (j - i) k)) (hn : n ≤ 40) (h2 : x + 1 = j ∨ ¬ ∀ k, 0 ≤ k → k < 64 → (zEn w n (x + 1) (j - (x + 1)) k ↔ zEn w n i (j - i) k)) : zLL w n j (j - i) = j - x - 1 := by
  refine zM_un (by omega) (fun q q1 q2 => ?_) ?_
  · rcases Classical.em (zAA w j q < j - i) with a | a
    · simp only [if_pos a]
      rcases Int.lt_or_le (zAA w j q) (j - x) with b | b
      · omega
      · have := (h1 q (by omega) (by omega)).mp ((zEn_AA (by omega) (by omega)).mpr ⟨by omega, b⟩)
        have := ((zEn_AA (by omega) (by omega)).mp this).2
        omega
    · simp only [if_neg a]; omega
  · rcases h2 with h2 | h2
    · exact Or.inl (by omega)
    · by_cases e0 : x + 1 = j
      · exact Or.inl (by omega)
      · right
        obtain ⟨k, hk⟩ := Classical.not_forall.mp h2
        have hk0 : 0 ≤ k := Classical.byContradiction fun q => hk (fun z => absurd z q)
        have hk1 : k < 64 := Classical.byContradiction fun q => hk (fun _ z => absurd z q)
        have hk2 : ¬ (zEn w n (x + 1) (j - (x + 1)) k ↔ zEn w n i (j - i) k) := fun q => hk (fun _ _ => q)
        have hx : zEn w n (x + 1) (j - (x + 1)) k := Classical.byContradiction fun q => hk2 ⟨fun z => absurd z q, fun z => absurd (zEn_less (by omega) hk0 z) q⟩
        have hy : ¬ zEn w n i (j - i) k := fun q => hk2 ⟨fun _ => q, fun _ => hx⟩
        have a := (zEn_AA (by omega) hk0).mp hx
        have b : ¬ (k ≤ n ∧ j - x ≤ zAA w j k) := fun q => hy ((h1 k hk0 hk1).mp ((zEn_AA (by omega) hk0).mpr q))
        have bd := zAA_bd (w := w) (i := j) (j := k) (by omega) hk0
        refine ⟨k, by omega, by omega, ?_⟩
        simp only [if_pos (show zAA w j k < j - i by omega)]
        omega

theorem zC_s (P : Int → Prop) {a b : Int} (h : a ≤ b) : zC P a (b + 1) = zC P a b + zB (P b) := zS_succ (fun k => zB (P k)) h
theorem zS_rev (f : Int → Int) : ∀ (m : Nat), zS (fun i => f ((m : Int) - i)) 0 (m : Int) = zS f 1 ((m : Int) + 1) := by
  intro m
  induction m with
  | zero => rw [zS_nil _ (by omega), zS_nil _ (by omega)]
  | succ m ih =>
    rw [zS_head _ (by omega), show (((m + 1 : Nat) : Int) + 1) = ((m : Int) + 1) + 1 by omega, zS_succ f (by omega), ← ih]
    have e := zS_shift (fun i => f (((m + 1 : Nat) : Int) - i)) 0 (m : Int) 1
    rw [show (0 : Int) + 1 = 1 by omega, show ((m : Int) + 1) = ((m + 1 : Nat) : Int) by omega] at e
    rw [show (0 : Int) + 1 = 1 by omega, ← e]
    have e2 : zS (fun k => f (((m + 1 : Nat) : Int) - (k + 1))) 0 (m : Int) = zS (fun i => f ((m : Int) - i)) 0 (m : Int) := zS_congr fun k _ _ => by rw [show ((m + 1 : Nat) : Int) - (k + 1) = (m : Int) - k by omega]
    have e3 : f (((m + 1 : Nat) : Int) - 0) = f ((m : Int) + 1) := by rw [show ((m + 1 : Nat) : Int) - 0 = (m : Int) + 1 by omega]
    have e4 : (fun i => f (((m + 1 : Nat) : Int) - i)) 0 = f (((m + 1 : Nat) : Int) - 0) := rfl
    omega
theorem zIsLC_ex {w : Int → Int} {n t k : Int} (h : 1 ≤ k ∧ k ≤ t ∧ t ≤ n) : ∃ r, zIsLC w n t k r := by
  obtain ⟨r, ⟨r1, q, q1, q2, q3⟩, r2⟩ := pk_least (fun r : Nat => k ≤ (r : Int) ∧ ∃ q, 1 ≤ q ∧ q ≤ n ∧ zAA w t q = (r : Int)) ⟨t.toNat, by omega, t, by omega, by omega, by rw [zAA_self w (by omega)]; omega⟩
  refine ⟨r, r1, ⟨q, q1, q2, q3⟩, fun x x1 x2 x3 => ?_⟩
  rcases Int.lt_or_le (zAA w t x) (r : Int) with z | z
  · have bd := zAA_bd (w := w) (i := t) (j := x) (by omega) (by omega)
    exact absurd ⟨by omega, x, x1, x2, by omega⟩ (r2 (zAA w t x).toNat (by omega))
  · exact z
theorem zLC_is {w : Int → Int} {n t k : Int} (h : 1 ≤ k ∧ k ≤ t ∧ t ≤ n) : zLC w n t k = k ↔ ∃ q, 1 ≤ q ∧ q ≤ n ∧ zAA w t q = k := by
  obtain ⟨r, hr⟩ := zIsLC_ex (w := w) h
  constructor
  · intro e
    rw [zLC_un hr] at e
    subst e
    exact hr.2.1
  · intro q
    exact zLC_un ⟨Int.le_refl k, q, fun _ _ _ z => z⟩
noncomputable def zKlR (w : Int → Int) (n i : Int) : Int := zC (fun t => zNew w i (t - i) ∧ zLC w n t (t - i) = t - i) (i + 1) (n + 1)
noncomputable def zKl (w : Int → Int) (n i : Int) : Int := zS (zKlR w n) 0 i
theorem zKlR_bd (w : Int → Int) {n i : Int} (h : 0 ≤ i ∧ i ≤ n) : 0 ≤ zKlR w n i ∧ zKlR w n i ≤ n := by
  have := zC_bd (fun t => zNew w i (t - i) ∧ zLC w n t (t - i) = t - i) (a := i + 1) (b := n + 1) (by omega)
  unfold zKlR; omega
theorem zKl_cl (w : Int → Int) {n : Int} (hn : 0 ≤ n) : zKl w n n = zCl w n := by
  have e1 : zKl w n n = zS (fun i => zS (fun t => zB (i < t ∧ zNew w i (t - i) ∧ zLC w n t (t - i) = t - i)) 1 (n + 1)) 0 n := by
    refine zS_congr fun i h1 h2 => ?_
    have e := zS_split (fun t => zB (i < t ∧ zNew w i (t - i) ∧ zLC w n t (t - i) = t - i)) (a := 1) (b := i + 1) (c := n + 1) (by omega) (by omega)
    have e2 : zS (fun t => zB (i < t ∧ zNew w i (t - i) ∧ zLC w n t (t - i) = t - i)) 1 (i + 1) = 0 := zS_zero fun t a b => zB_f (fun q => by omega)
    have e3 : zKlR w n i = zS (fun t => zB (i < t ∧ zNew w i (t - i) ∧ zLC w n t (t - i) = t - i)) (i + 1) (n + 1) := zS_congr fun t a b => zB_eq ⟨fun q => ⟨by omega, q⟩, fun q => q.2⟩
    omega
  rw [e1, zS_swap]
  refine zS_congr fun t h1 h2 => ?_
  have s1 := zS_split (fun i => zB (i < t ∧ zNew w i (t - i) ∧ zLC w n t (t - i) = t - i)) (a := 0) (b := t) (c := n) (by omega) (by omega)
  have s2 : zS (fun i => zB (i < t ∧ zNew w i (t - i) ∧ zLC w n t (t - i) = t - i)) t n = 0 := zS_zero fun i a b => zB_f (fun q => by omega)
  have s3 : zS (fun i => zB (i < t ∧ zNew w i (t - i) ∧ zLC w n t (t - i) = t - i)) 0 t = zS (fun i => zB (zCP w n t (t - i))) 0 t := by
    refine zS_congr fun i a b => zB_eq ?_
    constructor
    · rintro ⟨-, q2, q3⟩
      have k1 := (zNew_iff a b).mp q2
      refine ⟨by omega, ?_⟩
      obtain ⟨q, z1, z2, z3⟩ := (zLC_is (by omega)).mp q3
      rcases Int.lt_trichotomy q t with z | z | z
      · have : zAA w t q ≤ zKn w t := zM_ge (zAA w t) z1 z
        omega
      · subst z; rw [zAA_self w (by omega)] at z3; exact Or.inl z3.symm
      · exact Or.inr ⟨q, z, z2, z3⟩
    · rintro ⟨q1, q2⟩
      refine ⟨b, (zNew_iff a b).mpr (by omega), (zLC_is (by omega)).mpr ?_⟩
      rcases q2 with q2 | ⟨q, z1, z2, z3⟩
      · exact ⟨t, by omega, by omega, by rw [zAA_self w (by omega)]; exact q2.symm⟩
      · exact ⟨q, by omega, z2, z3⟩
  have s4 := zS_rev (fun k => zB (zCP w n t k)) t.toNat
  rw [show ((t.toNat : Nat) : Int) = t by omega] at s4
  show zS (fun i => zB (i < t ∧ zNew w i (t - i) ∧ zLC w n t (t - i) = t - i)) 0 n = zS (fun k => zB (zCP w n t k)) 1 (t + 1)
  try simp only at s4
  omega
-- sets of small numbers as the bits of an int
def zBi (X : Int32) (P : Int → Prop) : Prop := ∀ k : Nat, k < 32 → (X.toBitVec.getLsbD k = true ↔ P k)
theorem zBi_0 : zBi (zI 0) (fun _ => False) := by
  intro k hk
  have e : (zI 0).toBitVec = 0#32 := rfl
  rw [e, BitVec.getLsbD_zero]
  exact ⟨fun h => Bool.noConfusion h, fun h => h.elim⟩
theorem zBi_congr {X : Int32} {P Q : Int → Prop} (h : zBi X P) (e : ∀ k, 0 ≤ k → k < 32 → (P k ↔ Q k)) : zBi X Q := fun k hk => (h k hk).trans (e k (by omega) (by omega))
theorem zBi_sh1 : ∀ e, e < 32 → ∀ k, k < 32 → ((zI 1) <<< (nI e &&& 31)).toBitVec.getLsbD k = decide (k = e) := by decide +kernel
theorem zBi_one {z : Int} (h : 0 ≤ z ∧ z < 32) : zBi ((zI 1) <<< (zI z &&& 31)) (fun k => k = z) := by
  intro k hk
  rw [zI_nI h.1, zBi_sh1 z.toNat (by omega) k hk, decide_eq_true_eq]
  omega
theorem zBi_or {X Y : Int32} {P Q : Int → Prop} (h1 : zBi X P) (h2 : zBi Y Q) : zBi (X ||| Y) (fun k => P k ∨ Q k) := by
  intro k hk
  have e : (X ||| Y).toBitVec = X.toBitVec ||| Y.toBitVec := rfl
  rw [e, BitVec.getLsbD_or, Bool.or_eq_true, h1 k hk, h2 k hk]
theorem zBi_wide {X : Int32} {P : Int → Prop} (h : zBi X P) (hP : ∀ k, P k → k < 31) : zBt X.toInt64 P := by
  intro k hk
  have e : X.toInt64.toBitVec = X.toBitVec.signExtend 64 := rfl
  rw [e, BitVec.getLsbD_signExtend]
  have hm : X.toBitVec.msb = false := by
    rw [BitVec.msb_eq_getLsbD_last]
    cases hx : X.toBitVec.getLsbD (32 - 1)
    · rfl
    · have := hP _ ((h 31 (by omega)).mp hx); omega
  rw [hm]
  by_cases q : k < 32
  · simp only [if_pos q, hk, decide_true, Bool.true_and]
    exact h k q
  · simp only [if_neg q, Bool.and_false]
    exact ⟨fun z => Bool.noConfusion z, fun z => by have := hP _ z; omega⟩
/-- the letters of the first k places -/
def zLtP (w : Int → Int) (k x : Int) : Prop := ∃ q, 0 ≤ q ∧ q < k ∧ w q = x
theorem zLet_hi {w : Int → Int} {n b : Int} (hb : 26 ≤ b) (hw : ∀ k, 0 ≤ k → k < n → 0 ≤ w k ∧ w k ≤ 25) : zC (zLtP w n) 0 b = zLet w n := by
  have e := zS_split (fun x => zB (zLtP w n x)) (a := 0) (b := 26) (c := b) (by omega) hb
  have e2 : zS (fun x => zB (zLtP w n x)) 26 b = 0 := zS_zero fun x a _ => zB_f (fun ⟨q, q1, q2, q3⟩ => by have := hw q q1 q2; omega)
  have e3 : zLet w n = zS (fun x => zB (zLtP w n x)) 0 26 := rfl
  show zS (fun x => zB (zLtP w n x)) 0 b = _
  omega
theorem zLet_bd (w : Int → Int) (n : Int) : 0 ≤ zLet w n ∧ zLet w n ≤ 26 := zC_bd _ (by omega)

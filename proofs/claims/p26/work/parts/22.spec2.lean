theorem PX.mvD {g : zG} {ad : Nat → Nat} {w : Int → Int} {n : Int} {d : Int → Int} {dn : Int} {u : Int → Int} {un : Int} {hf : Nat → Int → Int} {hn : Nat → Int} {v : Int → Int} {vn hs nx hd tn pf ig bp : Int} {tc : Int → Int} {H : Heap} (q : PX g ad w n d dn u un hf hn v vn hs nx hd tn pf ig bp tc H) {w2 : Int → Int} {n2 : Int} (e : n2 = dn) (h : ∀ k, 0 ≤ k → k < dn → w2 k = d k) : PX g ad w n w2 n2 u un hf hn v vn hs nx hd tn pf ig bp tc H := by
  obtain ⟨j, c0, c1, c2, c3, c4, cx, ch, cs, ct, cr, cg⟩ := q
  subst e
  exact ⟨j, c0, c1.congr h, c2, c3, c4, cx, ch, cs, ct, cr, cg⟩
theorem zBst_1 (f : Int → Int) : zBst f 1 = 0 := rfl
theorem zBst_t {f : Int → Int} {k : Int} (hk : 1 ≤ k) (h : f (zBst f k) < f k) : zBst f (k + 1) = k := by
  have e : (k + 1 - 1).toNat = (k - 1).toNat + 1 := by omega
  have e2 : ((k - 1).toNat : Int) + 1 = k := by omega
  show zbl f (k + 1 - 1).toNat = k
  rw [e]
  show zIf (f (zbl f (k - 1).toNat) < f (((k - 1).toNat : Int) + 1)) (((k - 1).toNat : Int) + 1) (zbl f (k - 1).toNat) = k
  rw [e2]
  exact zIf_t h
theorem zBst_f {f : Int → Int} {k : Int} (hk : 1 ≤ k) (h : ¬ f (zBst f k) < f k) : zBst f (k + 1) = zBst f k := by
  have e : (k + 1 - 1).toNat = (k - 1).toNat + 1 := by omega
  have e2 : ((k - 1).toNat : Int) + 1 = k := by omega
  show zbl f (k + 1 - 1).toNat = zbl f (k - 1).toNat
  rw [e]
  show zIf (f (zbl f (k - 1).toNat) < f (((k - 1).toNat : Int) + 1)) (((k - 1).toNat : Int) + 1) (zbl f (k - 1).toNat) = _
  rw [e2]
  exact zIf_f h
theorem zLdS_of {tc : Int → Int} {tn : Int} {r : zRS} (h : zSt tc tn.toNat = some r) : zLdS tc tn = r := by
  unfold zLdS; rw [h]; rfl
theorem zAF_le {w : Int → Int} {n i j : Int} (hi : i ≤ n) (hj : j ≤ n) : 0 ≤ zAF w n i j ∧ zAF w n i j ≤ n - i ∧ zAF w n i j ≤ n - j := zAF_bd hi hj

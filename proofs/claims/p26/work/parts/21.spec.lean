-- the words for a whole state: the word (w, n); the latest states first (ee, en), how many (hc); the snapshot (u, un), whether there is one (hs); the text (tc, tn)
abbrev zSg : Type := (Int → Int) × Int × (Nat → Int → Int) × (Nat → Int) × Int × (Int → Int) × Int × Int × (Int → Int) × Int
noncomputable def zIf {α : Type} (P : Prop) (a b : α) : α := @ite α P (Classical.propDecidable P) a b
theorem zIf_t {α : Type} {P : Prop} {a b : α} (h : P) : zIf P a b = a := by unfold zIf; exact if_pos h
theorem zIf_f {α : Type} {P : Prop} {a b : α} (h : ¬ P) : zIf P a b = b := by unfold zIf; exact if_neg h
def zPush {α : Type} (f : Nat → α) (v : α) : Nat → α := fun j => if j = 0 then v else f (j - 1)
def zTurn (w : Int → Int) (n k : Int) : Int → Int := fun q => if q + k < n then w (q + k) else w (q + k - n)
noncomputable def zRev (w : Int → Int) (n : Int) : Int → Int := fun q => w (n - 1 - q)
noncomputable def zLdS (tc : Int → Int) (tn : Int) : zRS := (zSt tc tn.toNat).getD (fun _ => 0, 0, 0, 0, 0)
noncomputable def zBr (w : Int → Int) (n x q : Int) : Int := zIf (q = 0) (zEG (zApp w n x) 0 (n + 1) (n + 1)) (zIf (q = 1) (zUf (zApp w n x) (n + 1)) (zIf (q = 2) (zSE (zApp w n x) (n + 1)) (zCC (zRun (zApp w n x) (n + 1)) (n + 1) (n + 1))))
noncomputable def zbl (f : Int → Int) : Nat → Int
  | 0 => 0
  | k + 1 => zIf (f (zbl f k) < f (k + 1)) (k + 1) (zbl f k)
/-- of 0 .. k-1 the first for which f is the greatest -/
noncomputable def zBst (f : Int → Int) (k : Int) : Int := zbl f (k - 1).toNat
noncomputable def zLet (w : Int → Int) (n : Int) : Int := zC (fun x => ∃ k, 0 ≤ k ∧ k < n ∧ w k = x) 0 26
noncomputable def zFac (w : Int → Int) (n i j q : Int) : Int := zIf (q = 0) (zHow w n j (j - i)) (zIf (q = 1) (zFst w j (j - i)) (zIf (q = 2) (zLst w n j (j - i)) (zIf (q = 3) (zLC w n j (j - i)) (zIf (q = 4) (zLL w n j (j - i) + 1) (zIf (q = 5) (zLL w n j (j - i)) (zIf (q = 6) (zLP w i j) (zIf (q = 7) (zEG w i j (j - i)) (zIf (q = 8) (zB (zPrim w i j)) (zIf (q = 9) (100 * (j - i) / zLP w i j) (-2))))))))))
noncomputable def zCnt (w : Int → Int) (n hc tn q : Int) : Int := zIf (q = 0) n (zIf (q = 1) (zLet w n) (zIf (q = 2) (zUn w n) (zIf (q = 3) (zCl w n) (zIf (q = 4) (zCC (zSqP w) n n) (zIf (q = 5) (zCC (zRun w n) n n) (zIf (q = 6) (zEG w 0 n n) (zIf (q = 7) (zLP w 0 n) (zIf (q = 8) (zTw w n) (zIf (q = 9) (zCC (zUsP w) n n) (zIf (q = 10) hc (zIf (q = 11) tn (-2))))))))))))
noncomputable def zAt (w : Int → Int) (n i q : Int) : Int := zIf (0 ≤ i ∧ i < n) (zIf (q = 0) (w i) (zIf (q = 1) (zRank w n i) (zIf (q = 2) (zCC (zOvP w n i) n (i + 1)) (zIf (q = 3) (zSE w (i + 1)) (-2))))) (-1)
section ZSPEC
variable (w : Int → Int) (n : Int) (ee : Nat → Int → Int) (en : Nat → Int) (hc : Int) (u : Int → Int) (un hs : Int) (tc : Int → Int) (tn : Int)
def zRec (w2 : Int → Int) (n2 : Int) : zSg := (w2, n2, zPush ee w, zPush en n, min (hc + 1) 4, u, un, hs, tc, tn)
def zSelf : zSg := (w, n, ee, en, hc, u, un, hs, tc, tn)
noncomputable def sAdd (x : Int) : Int × zSg := zIf (0 ≤ x ∧ x ≤ 25) (zIf (40 ≤ n) (-3, zSelf w n ee en hc u un hs tc tn) (zEG (zApp w n x) 0 (n + 1) (n + 1), zRec w n ee en hc u un hs tc tn (zApp w n x) (n + 1))) (-2, zSelf w n ee en hc u un hs tc tn)
noncomputable def sDrop (x : Int) : Int × zSg := zIf (1 ≤ x ∧ x ≤ 40) (zIf (n < x) (-1, zSelf w n ee en hc u un hs tc tn) (n - x, zRec w n ee en hc u un hs tc tn w (n - x))) (-2, zSelf w n ee en hc u un hs tc tn)
noncomputable def sChange (i x : Int) : Int × zSg := zIf (0 ≤ i ∧ i < n) (zIf (0 ≤ x ∧ x ≤ 25) (zIf (w i = x) (-4, zSelf w n ee en hc u un hs tc tn) (w i, zRec w n ee en hc u un hs tc tn (zApp w i x) n)) (-2, zSelf w n ee en hc u un hs tc tn)) (-1, zSelf w n ee en hc u un hs tc tn)
noncomputable def sReverse : Int × zSg := zIf (zEqW (zRev w n) n w n) (-4, zSelf w n ee en hc u un hs tc tn) (n, zRec w n ee en hc u un hs tc tn (zRev w n) n)
noncomputable def sTurn (x : Int) : Int × zSg := zIf (1 ≤ x ∧ x ≤ 39) (zIf (n ≤ x) (-1, zSelf w n ee en hc u un hs tc tn) (zIf (zEqW (zTurn w n x) n w n) (-4, zSelf w n ee en hc u un hs tc tn) (zTurn w n x 0, zRec w n ee en hc u un hs tc tn (zTurn w n x) n))) (-2, zSelf w n ee en hc u un hs tc tn)
noncomputable def sFold (i j : Int) : Int × zSg := zIf (0 ≤ i ∧ i < j ∧ j ≤ n) (zIf (40 < n + (j - i)) (-3, zSelf w n ee en hc u un hs tc tn) (n + (j - i), zRec w n ee en hc u un hs tc tn (zExt w n w i) (n + (j - i)))) (-1, zSelf w n ee en hc u un hs tc tn)
noncomputable def sLoad : Int × zSg := zIf (zFl tc tn = -1) ((zLdS tc tn).2.1, zRec w n ee en hc u un hs tc tn (zLdS tc tn).1 (zLdS tc tn).2.1) (-100 - zFl tc tn, zSelf w n ee en hc u un hs tc tn)
noncomputable def sType (x : Int) : Int × zSg := zIf (60 ≤ tn) (-3, zSelf w n ee en hc u un hs tc tn) (tn + 1, (w, n, ee, en, hc, u, un, hs, zApp tc tn x, tn + 1))
noncomputable def sClear : Int × zSg := (tn, (w, n, ee, en, hc, u, un, hs, tc, 0))
noncomputable def sUndo : Int × zSg := zIf (hc = 0) (-4, zSelf w n ee en hc u un hs tc tn) (hc - 1, (ee 0, en 0, (fun j => ee (j + 1)), (fun j => en (j + 1)), hc - 1, u, un, hs, tc, tn))
noncomputable def sKeep : Int × zSg := (n, (w, n, ee, en, hc, w, n, 1, tc, tn))
noncomputable def sRestore : Int × zSg := zIf (hs = 0) (-4, zSelf w n ee en hc u un hs tc tn) (un, zRec w n ee en hc u un hs tc tn u un)
end ZSPEC
noncomputable def aBorder (w : Int → Int) (n i r : Int) : Int := zIf (1 ≤ i ∧ i ≤ n) (zIf (r < 0) (-2) (zBorder w i r)) (-1)
noncomputable def aFactor (w : Int → Int) (n i j q : Int) : Int := zIf (0 ≤ i ∧ i < j ∧ j ≤ n) (zFac w n i j q) (-1)
noncomputable def aAlike (w : Int → Int) (n i j : Int) : Int := zIf ((0 ≤ i ∧ i < n) ∧ 0 ≤ j ∧ j < n) (zAF w n i j) (-1)
noncomputable def aSuffix (w : Int → Int) (n r : Int) : Int := zIf (r < 0) (-2) (zPl w n r)
noncomputable def aSquare (w : Int → Int) (n r q : Int) : Int := zIf (0 ≤ r ∧ 0 ≤ q ∧ q ≤ 1) (zRk (zSqP w) n r (fun i d => @ite _ (q = 0) (Classical.propDecidable _) i d)) (-2)
noncomputable def aRun (w : Int → Int) (n r q : Int) : Int := zIf (0 ≤ r ∧ 0 ≤ q ∧ q ≤ 4) (zRk (zRun w n) n r (fun i d => zTold w i (zRT w n i d) d q)) (-2)
noncomputable def aUnlike (w : Int → Int) (n i : Int) : Int := zIf (0 ≤ i ∧ i ≤ n) (zUn w i) (-1)
noncomputable def aIf (w : Int → Int) (n x q : Int) : Int := zIf ((0 ≤ x ∧ x ≤ 25) ∧ 0 ≤ q ∧ q ≤ 3) (zIf (40 ≤ n) (-3) (zBr w n x q)) (-2)
noncomputable def aBest (w : Int → Int) (n q : Int) : Int := zIf (0 ≤ q ∧ q ≤ 3) (zIf (40 ≤ n) (-3) (zBst (fun x => zBr w n x q) 26)) (-2)
-- the same of a BorderRuns: its history is a ring
def zRg (nx : Int) (j : Nat) : Nat := ((nx - 1 - j) % 4).toNat
def AX (g : zG) (ad : Nat → Nat) (w : Int → Int) (n : Int) (ee : Nat → Int → Int) (en : Nat → Int) (hc : Int) (u : Int → Int) (un hs : Int) (tc : Int → Int) (tn : Int) (H : Heap) : Prop :=
  ∃ (d : Int → Int) (dn : Int) (u9 : Int → Int) (un9 : Int) (hf : Nat → Int → Int) (hn : Nat → Int) (v : Int → Int) (vn nx pf ig bp : Int), PX g ad w n d dn u9 un9 hf hn v vn hs nx hc tn pf ig bp tc H ∧ (hs = 1 → u9 = u ∧ un9 = un) ∧ ∀ j : Nat, (j : Int) < hc → hf (zRg nx j) = ee j ∧ hn (zRg nx j) = en j
def AXt (g : zG) (ad : Nat → Nat) (σ : zSg) (H : Heap) : Prop := AX g ad σ.1 σ.2.1 σ.2.2.1 σ.2.2.2.1 σ.2.2.2.2.1 σ.2.2.2.2.2.1 σ.2.2.2.2.2.2.1 σ.2.2.2.2.2.2.2.1 σ.2.2.2.2.2.2.2.2.1 σ.2.2.2.2.2.2.2.2.2 H
theorem zPush_0 {α : Type} (f : Nat → α) (v : α) : zPush f v 0 = v := rfl
theorem zPush_s {α : Type} (f : Nat → α) (v : α) (j : Nat) : zPush f v (j + 1) = f j := by unfold zPush; exact if_neg (by omega)
theorem zRing_push {α : Type} {hf e : Nat → α} {w : α} {nx hc : Int} (hx : 0 ≤ nx ∧ nx ≤ 3) (h : ∀ j : Nat, (j : Int) < hc → hf (zRg nx j) = e j) : ∀ j : Nat, (j : Int) < min (hc + 1) 4 → zUp hf nx.toNat w (zRg (zNx nx) j) = zPush e w j := by
  intro j hj
  have hz : zNx nx = (nx + 1) % 4 := by unfold zNx; split <;> omega
  cases j with
  | zero =>
    rw [show zRg (zNx nx) 0 = nx.toNat by unfold zRg; omega, zUp_eq, zPush_0]
  | succ j =>
    rw [zPush_s, show zRg (zNx nx) (j + 1) = zRg nx j by unfold zRg; omega, zUp_ne (by unfold zRg; omega)]
    exact h j (by omega)
theorem zRing_pop {α : Type} {hf e : Nat → α} {nx hc : Int} (hx : 0 ≤ nx ∧ nx ≤ 3) (h : ∀ j : Nat, (j : Int) < hc → hf (zRg nx j) = e j) : ∀ j : Nat, (j : Int) < hc - 1 → hf (zRg (zPv nx) j) = e (j + 1) := by
  intro j hj
  have hz : zPv nx = (nx + 3) % 4 := by unfold zPv; split <;> omega
  rw [show zRg (zPv nx) j = zRg nx (j + 1) by unfold zRg; omega]
  exact h (j + 1) (by omega)
theorem zRing_top {nx : Int} (hx : 0 ≤ nx ∧ nx ≤ 3) : (zPv nx).toNat = zRg nx 0 := by
  have hz : zPv nx = (nx + 3) % 4 := by unfold zPv; split <;> omega
  unfold zRg; omega
section ZAX
variable {g : zG} {ad : Nat → Nat} {w : Int → Int} {n : Int} {ee : Nat → Int → Int} {en : Nat → Int} {hc : Int} {u : Int → Int} {un hs : Int} {tc : Int → Int} {tn : Int} {H : Heap} {d : Int → Int} {dn : Int} {u9 : Int → Int} {un9 : Int} {hf : Nat → Int → Int} {hn : Nat → Int} {v : Int → Int} {vn nx pf ig bp : Int}
theorem AX.rec {w2 w3 : Int → Int} {n2 n3 : Int} (hx : 0 ≤ nx ∧ nx ≤ 3) (q : PX g ad w2 n2 d dn u9 un9 (zUp hf nx.toNat w) (zUp hn nx.toNat n) v vn hs (zNx nx) (min (hc + 1) 4) tn pf ig bp tc H) (hsn : hs = 1 → u9 = u ∧ un9 = un) (hrg : ∀ j : Nat, (j : Int) < hc → hf (zRg nx j) = ee j ∧ hn (zRg nx j) = en j) (e : n3 = n2) (h : ∀ k, 0 ≤ k → k < n2 → w3 k = w2 k) : AXt g ad (zRec w n ee en hc u un hs tc tn w3 n3) H :=
  ⟨_, _, _, _, _, _, _, _, _, _, _, _, q.mvW e h, hsn, fun j hj => ⟨zRing_push hx (fun j hj => (hrg j hj).1) j hj, zRing_push hx (fun j hj => (hrg j hj).2) j hj⟩⟩
theorem AX.of (q : PX g ad w n d dn u9 un9 hf hn v vn hs nx hc tn pf ig bp tc H) (hsn : hs = 1 → u9 = u ∧ un9 = un) (hrg : ∀ j : Nat, (j : Int) < hc → hf (zRg nx j) = ee j ∧ hn (zRg nx j) = en j) : AX g ad w n ee en hc u un hs tc tn H := ⟨_, _, _, _, _, _, _, _, _, _, _, _, q, hsn, hrg⟩
end ZAX

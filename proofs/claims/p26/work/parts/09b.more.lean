section ZT
variable {p : Program} {l : Launch} {e : Env} {R : Room} {s : State} {m : MethodId} {args : Array Value} {below : List Frame} {meth : Method} {c : Code} {H : Heap} {locs : List Loc} {cells slots : Nat} {Q : State → Prop}
variable {cc : ByteArray} {pc : Nat} {ls : Array Slot} {rest : List Value}
theorem zv_tableIn (hexec : p.tables.exec = Jvm.exec) (hb : c.code = cc) {dflt lo hi : Int} {offs : Array Int} {len : Nat} {a : Int} {off : Int} {tgt : Nat} (hdg : decode cc pc = .ok (.tableswitch dflt lo hi offs, len)) (ha : -2147483648 ≤ a ∧ a < 2147483648) (h1 : ¬ a < lo) (h2 : ¬ hi < a) (ho : offs[(a - lo).toNat]? = some off) (ht : (pc : Int) + off = (tgt : Int))
    (k : W p l e R s m args below meth c H locs cells slots Q (F0 m tgt ls rest)) : W p l e R s m args below meth c H locs cells slots Q (F0 m pc ls (.int (zI a) :: rest)) :=
  lv_tableIn hexec hb hdg (by rw [zI_toInt ha]; exact h1) (by rw [zI_toInt ha]; exact h2) (by rw [zI_toInt ha]; exact ho) ht k
theorem zv_tableOut (hexec : p.tables.exec = Jvm.exec) (hb : c.code = cc) {dflt lo hi : Int} {offs : Array Int} {len : Nat} {a : Int} {tgt : Nat} (hdg : decode cc pc = .ok (.tableswitch dflt lo hi offs, len)) (ha : -2147483648 ≤ a ∧ a < 2147483648) (h : a < lo ∨ hi < a) (ht : (pc : Int) + dflt = (tgt : Int))
    (k : W p l e R s m args below meth c H locs cells slots Q (F0 m tgt ls rest)) : W p l e R s m args below meth c H locs cells slots Q (F0 m pc ls (.int (zI a) :: rest)) :=
  lv_tableOut hexec hb hdg (by rw [zI_toInt ha]; exact h) ht k
end ZT
theorem zLs_AF {w : Int → Int} {n d k f : Int} (hk : k + d ≤ n) (hf : f + d ≤ n) (h0 : 0 ≤ d) : zLs w d k f ↔ zAF w n k f < d ∧ w (k + zAF w n k f) < w (f + zAF w n k f) := by
  have b := zAF_bd (w := w) (n := n) (i := k) (j := f) (by omega) (by omega)
  exact zLs_at b.1 ((zAF_ge (by omega) (by omega) b.1).mp (Int.le_refl _)).2.2 (fun q => zAF_ne (by omega) (by omega) (by omega) (by omega))
/-- what run(rank, what) tells of a run -/
noncomputable def zTold (w : Int → Int) (i t d u : Int) : Int := @ite _ (u = 0) (Classical.propDecidable _) i (@ite _ (u = 1) (Classical.propDecidable _) t (@ite _ (u = 2) (Classical.propDecidable _) d (@ite _ (u = 3) (Classical.propDecidable _) (zRootTo w d i (t - d + 1)) (t - i - 2 * d + 1))))
theorem zTold_0 (w : Int → Int) (i t d : Int) : zTold w i t d 0 = i := by unfold zTold; exact if_pos rfl
theorem zTold_1 (w : Int → Int) (i t d : Int) : zTold w i t d 1 = t := by unfold zTold; rw [if_neg (by omega)]; exact if_pos rfl
theorem zTold_2 (w : Int → Int) (i t d : Int) : zTold w i t d 2 = d := by unfold zTold; rw [if_neg (by omega), if_neg (by omega)]; exact if_pos rfl
theorem zTold_3 (w : Int → Int) (i t d : Int) : zTold w i t d 3 = zRootTo w d i (t - d + 1) := by unfold zTold; rw [if_neg (by omega), if_neg (by omega), if_neg (by omega)]; exact if_pos rfl
theorem zTold_4 (w : Int → Int) (i t d : Int) {u : Int} (h : u < 0 ∨ 3 < u) : zTold w i t d u = t - i - 2 * d + 1 := by unfold zTold; rw [if_neg (by omega), if_neg (by omega), if_neg (by omega)]; exact if_neg (by omega)
def zOvP (w : Int → Int) (n x i d : Int) : Prop := zRun w n i d ∧ x < zRT w n i d

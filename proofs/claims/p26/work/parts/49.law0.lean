theorem zLm_1 : Cond.instantiable RX1 3 ∈ lw_tbl := by decide +kernel
theorem zLm_2 : Cond.instantiable RX3 4 ∈ lw_tbl := by decide +kernel
theorem zLm_3 : Cond.instantiable RX7 2 ∈ lw_tbl := by decide +kernel
theorem zLm_4 : Cond.instantiable RX8 2 ∈ lw_tbl := by decide +kernel
theorem zLm_5 : Cond.instantiable RX9 7 ∈ lw_tbl := by decide +kernel
theorem zLm_7 : Cond.arrayClass .int ∈ lw_tbl := by decide +kernel
theorem zLm_8 : Cond.arrayClass .char ∈ lw_tbl := by decide +kernel
theorem zLm_9 : Cond.arrayOver (.object RX8) ∈ lw_tbl := by decide +kernel
theorem zLn_1 : Cond.methodLinkNest RX9 9 yX8_init "BorderRuns" ∈ lw_tbl := by decide +kernel
theorem zLn_2 : Cond.methodLinkNest RX1 24 yX8_init "BorderRuns" ∈ lw_tbl := by decide +kernel
theorem zLn_3 : Cond.methodLinkNest RX9 35 yX7_init "BorderRuns" ∈ lw_tbl := by decide +kernel
theorem zLn_4 : Cond.methodLinkNest RX9 42 yX3_init "BorderRuns" ∈ lw_tbl := by decide +kernel
theorem zLn_5 : Cond.methodLinkNest RX3 11 yX8_init "BorderRuns" ∈ lw_tbl := by decide +kernel
/-- what the tables say of the classes and of the rows' classes -/
theorem zLaw_K {s : State} {args : Array Value} (hts : ∀ w ∈ lw_tbl, w.before args s = true) : ∃ g : zG, zK g s ∧ zNest s := by
  have ht : ∀ w ∈ wsL_law, w.before args s = true := fun w h => hts w (wsL_law_in w h)
  obtain ⟨c0, i0, k0⟩ := u_known (C := RX1) (T := TX1) (N := 3) ht inlX1 (hts _ zLm_1)
  obtain ⟨c1, i1, k1⟩ := u_known (C := RX3) (T := TX3) (N := 4) ht inlX3 (hts _ zLm_2)
  obtain ⟨c2, i2, k2⟩ := u_known (C := RX7) (T := TX7) (N := 2) ht inlX7 (hts _ zLm_3)
  obtain ⟨c3, i3, k3⟩ := u_known (C := RX8) (T := TX8) (N := 2) ht inlX8 (hts _ zLm_4)
  obtain ⟨c4, i4, k4⟩ := u_known (C := RX9) (T := TX9) (N := 7) ht inlX9 (hts _ zLm_5)
  obtain ⟨aI, kI, pI, x1, x2, x3⟩ := Cond.arrayClass_spec (hts _ zLm_7)
  obtain ⟨aC, kC, pC, y1, y2, y3⟩ := Cond.arrayClass_spec (hts _ zLm_8)
  obtain ⟨pW, aW, kW, z1, z2, z3, z4, z5⟩ := Cond.arrayOver_spec (hts _ zLm_9)
  refine ⟨((fun c => match c with | 0 => c0 | 1 => c1 | 2 => c2 | 3 => c3 | _ => c4, fun c => match c with | 0 => i0 | 1 => i1 | 2 => i2 | 3 => i3 | _ => i4), aI, aC, aW), ⟨fun c q hq => ?_, fun k q hk => ?_⟩, va_Nw.of rfl (hts _ zLn_1), va_Nw.of rfl (hts _ zLn_2), va_Nw.of rfl (hts _ zLn_3), va_Nw.of rfl (hts _ zLn_4), va_Nw.of rfl (hts _ zLn_5), va_AO.of (hts _ zLm_9)⟩
  · have bc : c < 5 := (List.getElem?_eq_some_iff.mp hq).1
    rcases (show c = 0 ∨ c = 1 ∨ c = 2 ∨ c = 3 ∨ c = 4 by omega) with rfl | rfl | rfl | rfl | rfl <;> cases hq <;> assumption
  · have bk : k < 3 := (List.getElem?_eq_some_iff.mp hk).1
    rcases (show k = 0 ∨ k = 1 ∨ k = 2 by omega) with rfl | rfl | rfl <;> cases hk
    · exact ⟨fun n z => ⟨fun k h => (by cases h), kI, x2, pI, x3⟩, x1⟩
    · exact ⟨fun n z => ⟨fun k h => (by cases h), kC, y2, pC, y3⟩, y1⟩
    · exact ⟨fun n z => ⟨fun k h => (by cases h), kW, z3, pW, z4⟩, kW, pW, z3, z4, z1, z5⟩
theorem PX.frm {g : zG} {ad : Nat → Nat} {w : Int → Int} {n : Int} {d : Int → Int} {dn : Int} {u : Int → Int} {un : Int} {hf : Nat → Int → Int} {hn : Nat → Int} {v : Int → Int} {vn hs nx hd tn pf ig bp : Int} {tc : Int → Int} {H H1 : Heap} {A : Nat → Prop} (q : PX g ad w n d dn u un hf hn v vn hs nx hd tn pf ig bp tc H) (hk : ∀ z : Nat, z < H.size → ¬ A z → H1[z]? = H[z]?) (ha : ∀ i, i < 22 → ¬ A (ad i)) : PX g ad w n d dn u un hf hn v vn hs nx hd tn pf ig bp tc H1 := by
  obtain ⟨j, c0, c1, c2, c3, c4, cx, ch, cs, ct, cr, cg⟩ := q
  exact ⟨j, c0.frm hk (ha _ (by omega)) (ha _ (by omega)), c1.frm hk (ha _ (by omega)) (ha _ (by omega)), c2.frm hk (ha _ (by omega)) (ha _ (by omega)), fun k h4 => (c3 k h4).frm hk (ha _ (by omega)) (ha _ (by omega)), c4.frm hk (ha _ (by omega)) (ha _ (by omega)), cx.frm1 hk (ha _ (by omega)), ch.frm1 hk (ha _ (by omega)), cs.frm1 hk (ha _ (by omega)), ct.frm hk (ha _ (by omega)) (ha _ (by omega)), cr.frm1 hk (ha _ (by omega)), cg⟩
theorem AXt.frm {g : zG} {ad : Nat → Nat} {σ : zSg} {H H1 : Heap} {A : Nat → Prop} (q : AXt g ad σ H) (hk : ∀ z : Nat, z < H.size → ¬ A z → H1[z]? = H[z]?) (ha : ∀ i, i < 22 → ¬ A (ad i)) : AXt g ad σ H1 := by
  obtain ⟨d, dn, u9, un9, hf, hn, v, vn, nx, pf, ig, bp, h1, h2⟩ := q
  exact ⟨d, dn, u9, un9, hf, hn, v, vn, nx, pf, ig, bp, h1.frm hk ha, h2⟩
theorem AXt.recv {g : zG} {ad : Nat → Nat} {σ : zSg} {s : State} {H : Heap} (hK : zK g s) (q : AXt g ad σ H) : ∃ cell : Cell, H[ad 16]? = some cell ∧ cell.vm.isStatics = false ∧ s.vm.findClass RX9 = some cell.cls := by
  obtain ⟨d, dn, u9, un9, hf, hn, v, vn, nx, pf, ig, bp, h1, h2⟩ := q
  exact h1.recvx hK
theorem zOp (x : Int32) : ∃ q : Int, x &&& zI 31 = zI q ∧ 0 ≤ q ∧ q ≤ 31 := by
  obtain ⟨n, hn, rfl⟩ := zN_of x
  have h : (n &&& 31) ≤ 31 := Nat.and_le_right
  exact ⟨((n &&& 31 : Nat) : Int), by rw [show zI 31 = zN 31 from rfl, zN_and hn (by omega), zN_I], by omega, by omega⟩
theorem zCh (x : Int32) : ∃ q : Int, (x.toUInt32 % 65536).toInt32 = zI q ∧ 0 ≤ q ∧ q < 65536 := by
  obtain ⟨n, hn, rfl⟩ := zN_of x
  refine ⟨((n % 65536 : Nat) : Int), ?_, by omega, by omega⟩
  rw [← zN_I]
  apply Int32.toBitVec_inj.mp
  apply BitVec.eq_of_toNat_eq
  show ((BitVec.ofNat 32 n) % 65536#32).toNat = (BitVec.ofNat 32 (n % 65536)).toNat
  rw [BitVec.toNat_umod, BitVec.toNat_ofNat, BitVec.toNat_ofNat, BitVec.toNat_ofNat]
  show n % 4294967296 % 65536 = n % 65536 % 4294967296
  omega
/-- the state of a new object -/
def zNil : zSg := (fun _ => 0, 0, fun _ _ => 0, fun _ => 0, 0, fun _ => 0, 0, 0, fun _ => 0, 0)
theorem PX.lt {g : zG} {ad : Nat → Nat} {w : Int → Int} {n : Int} {d : Int → Int} {dn : Int} {u : Int → Int} {un : Int} {hf : Nat → Int → Int} {hn : Nat → Int} {v : Int → Int} {vn hs nx hd tn pf ig bp : Int} {tc : Int → Int} {H : Heap} (q : PX g ad w n d dn u un hf hn v vn hs nx hd tn pf ig bp tc H) : ∀ i, i < 22 → ad i < H.size := by
  obtain ⟨j, c0, c1, c2, c3, c4, cx, ch, cs, ct, cr, cg⟩ := q
  intro i hi
  rcases (show i = 0 ∨ i = 1 ∨ i = 2 ∨ i = 3 ∨ i = 4 ∨ i = 5 ∨ i = 6 ∨ i = 7 ∨ i = 8 ∨ i = 9 ∨ i = 10 ∨ i = 11 ∨ i = 12 ∨ i = 13 ∨ i = 14 ∨ i = 15 ∨ i = 16 ∨ i = 17 ∨ i = 18 ∨ i = 19 ∨ i = 20 ∨ i = 21 by omega) with rfl | rfl | rfl | rfl | rfl | rfl | rfl | rfl | rfl | rfl | rfl | rfl | rfl | rfl | rfl | rfl | rfl | rfl | rfl | rfl | rfl | rfl
  · exact c0.lt.1
  · exact c0.lt.2
  · exact c1.lt.1
  · exact c1.lt.2
  · exact c2.lt.1
  · exact c2.lt.2
  · exact (c3 0 (by omega)).lt.1
  · exact (c3 0 (by omega)).lt.2
  · exact (c3 1 (by omega)).lt.1
  · exact (c3 1 (by omega)).lt.2
  · exact (c3 2 (by omega)).lt.1
  · exact (c3 2 (by omega)).lt.2
  · exact (c3 3 (by omega)).lt.1
  · exact (c3 3 (by omega)).lt.2
  · exact c4.lt.1
  · exact c4.lt.2
  · exact cx.lt1
  · exact ch.lt1
  · exact cs.lt1
  · exact ct.lt.1
  · exact ct.lt.2
  · exact cr.lt1

section ZCT
variable {p : Program} {l : Launch} {e : Env} {R : Room} {s : State} {m : MethodId} {args : Array Value} {below : List Frame} {meth : Method} {c : Code} {H : Heap} {locs : List Loc} {cells slots : Nat} {Q : State → Prop}
variable {cc : ByteArray} {pc : Nat} {ls : Array Slot}
theorem zr_c (hexec : p.tables.exec = Jvm.exec) (hb : c.code = cc) (hr : meth.sig.returnType = some .char) (hlocks : meth.locks = false) {post : Int32 → Prop} {v : Int32} (hdg : decode cc pc = .ok (.ireturn, 1)) (hn : narrow .char (.int v) = .int v) (hp : post v) : W p l e R s m args below meth c s.heap [] 0 0 (MQ below (vp_Si post) args s 0 0 (fun _ => False)) (F0 m pc ls [.int v]) :=
  W.zret hexec hb hr hn (fun t ht _ => ⟨_, rfl, hp, ht⟩) (fun q h => by cases h) hdg hlocks
end ZCT
theorem zI_nI {z : Int} (h : 0 ≤ z) : zI z = nI z.toNat := by
  show Int32.ofInt z = Int32.ofNat z.toNat
  rw [← Int32.ofInt_eq_ofNat]
  congr 1
  omega
theorem zI_char {z : Int} (h : 0 ≤ z ∧ z < 65536) : narrow .char (.int (zI z)) = .int (zI z) := by
  rw [zI_nI h.1]; exact (pk_charN (by omega)).1
theorem zI_nar {z : Int} (h : 0 ≤ z ∧ z < 65536) : vp_nar .char (zI z) = zI z := by
  unfold vp_nar; rw [zI_char h]
def zNx (x : Int) : Int := if x + 1 < 4 then x + 1 else 0
def zPv (x : Int) : Int := if 0 < x then x - 1 else 3
theorem zNx_t {x : Int} (h : x + 1 < 4) : zNx x = x + 1 := if_pos h
theorem zNx_f {x : Int} (h : ¬ x + 1 < 4) : zNx x = 0 := if_neg h
theorem zPv_t {x : Int} (h : 0 < x) : zPv x = x - 1 := if_pos h
theorem zPv_f {x : Int} (h : ¬ 0 < x) : zPv x = 3 := if_neg h
theorem zPv_bd {x : Int} (h : 0 ≤ x ∧ x ≤ 3) : 0 ≤ zPv x ∧ zPv x ≤ 3 := by
  unfold zPv; split <;> omega
theorem zNx_bd {x : Int} (h : 0 ≤ x ∧ x ≤ 3) : 0 ≤ zNx x ∧ zNx x ≤ 3 := by
  unfold zNx; split <;> omega

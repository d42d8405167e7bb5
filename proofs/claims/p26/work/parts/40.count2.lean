theorem zN_of (X : Int32) : ∃ x : Nat, x < 4294967296 ∧ X = zN x := ⟨X.toBitVec.toNat, X.toBitVec.isLt, by
  apply Int32.toBitVec_inj.mp
  apply BitVec.eq_of_toNat_eq
  show X.toBitVec.toNat = (BitVec.ofNat 32 X.toBitVec.toNat).toNat
  rw [BitVec.toNat_ofNat, Nat.mod_eq_of_lt X.toBitVec.isLt]⟩
theorem zBi_N {x : Nat} {P : Int → Prop} (h : zBi (zN x) P) : ∀ k : Nat, k < 32 → (x / 2 ^ k % 2 = 1 ↔ P k) := by
  intro k hk
  rw [← h k hk]
  show _ ↔ (BitVec.ofNat 32 x).getLsbD k = true
  rw [BitVec.getLsbD_ofNat, Nat.testBit_eq_decide_div_mod_eq]
  simp [hk]
def zNL (x : Nat) : Int64 := Int64.ofNat x
theorem zNL_of (X : Int64) : ∃ x : Nat, x < 18446744073709551616 ∧ X = zNL x := ⟨X.toBitVec.toNat, X.toBitVec.isLt, by
  apply Int64.toBitVec_inj.mp
  apply BitVec.eq_of_toNat_eq
  show X.toBitVec.toNat = (BitVec.ofNat 64 X.toBitVec.toNat).toNat
  rw [BitVec.toNat_ofNat, Nat.mod_eq_of_lt X.toBitVec.isLt]⟩
theorem zBt_N {x : Nat} {P : Int → Prop} (h : zBt (zNL x) P) : ∀ k : Nat, k < 64 → (x / 2 ^ k % 2 = 1 ↔ P k) := by
  intro k hk
  rw [← h k hk]
  show _ ↔ (BitVec.ofNat 64 x).getLsbD k = true
  rw [BitVec.getLsbD_ofNat, Nat.testBit_eq_decide_div_mod_eq]
  simp [hk]
theorem zNL_add (x y : Nat) : zNL x + zNL y = zNL (x + y) := (Int64.ofNat_add x y).symm
theorem zNL_sub {x y : Nat} (h : y ≤ x) : zNL x - zNL y = zNL (x - y) := by
  have e : zNL (x - y) + zNL y = zNL x := by rw [zNL_add]; congr 1; omega
  rw [← e, Int64.add_sub_cancel]
theorem zNL_and {x y : Nat} (hx : x < 18446744073709551616) (hy : y < 18446744073709551616) : zNL x &&& zNL y = zNL (x &&& y) := by
  apply Int64.toBitVec_inj.mp
  apply BitVec.eq_of_toNat_eq
  show ((BitVec.ofNat 64 x) &&& (BitVec.ofNat 64 y)).toNat = (BitVec.ofNat 64 (x &&& y)).toNat
  have : x &&& y ≤ x := Nat.and_le_left
  rw [BitVec.toNat_and, BitVec.toNat_ofNat, BitVec.toNat_ofNat, BitVec.toNat_ofNat, Nat.mod_eq_of_lt hx, Nat.mod_eq_of_lt hy, Nat.mod_eq_of_lt (by omega)]
theorem zNL_shr {x : Nat} (hx : x < 18446744073709551616) (k : Nat) (y : Int32) (hy : (y.toInt64.toUInt64 &&& Int64.toUInt64 63).toBitVec.toNat = k) (hk : k < 64) : ((zNL x).toUInt64 >>> (y.toInt64.toUInt64 &&& Int64.toUInt64 63)).toInt64 = zNL (x / 2 ^ k) := by
  apply Int64.toBitVec_inj.mp
  apply BitVec.eq_of_toNat_eq
  show ((BitVec.ofNat 64 x) >>> ((y.toInt64.toUInt64 &&& Int64.toUInt64 63).toBitVec % 64#64)).toNat = (BitVec.ofNat 64 (x / 2 ^ k)).toNat
  have h2 : ((y.toInt64.toUInt64 &&& Int64.toUInt64 63).toBitVec % 64#64).toNat = k := by
    rw [BitVec.toNat_umod, hy]; exact Nat.mod_eq_of_lt hk
  have h3 : x / 2 ^ k ≤ x := Nat.div_le_self _ _
  rw [BitVec.ushiftRight_eq', BitVec.toNat_ushiftRight, h2, BitVec.toNat_ofNat, BitVec.toNat_ofNat, Nat.mod_eq_of_lt hx, Nat.mod_eq_of_lt (by omega), Nat.shiftRight_eq_div_pow]
theorem zNL_int (x : Nat) : (zNL x).toInt32 = zN (x % 4294967296) := by
  apply Int32.toBitVec_inj.mp
  apply BitVec.eq_of_toNat_eq
  show ((BitVec.ofNat 64 x).signExtend 32).toNat = (BitVec.ofNat 32 (x % 4294967296)).toNat
  rw [BitVec.signExtend_eq_setWidth_of_le _ (by omega), BitVec.toNat_setWidth, BitVec.toNat_ofNat, BitVec.toNat_ofNat]
  omega
theorem zPA_4 {x : Nat} (hx : x < 4294967296) : ∃ p0 p1 p2 p3, p0 ≤ 8 ∧ p1 ≤ 8 ∧ p2 ≤ 8 ∧ p3 ≤ 8 ∧ zPA 0x55555555 0x33333333 0x0f0f0f0f x = p0 + 256 * p1 + 65536 * p2 + 16777216 * p3 ∧ zPop 32 x = p0 + p1 + p2 + p3 := by
  have s0 := zPA_step (a := x / 16777216) (h := 0) (M1 := 0) (M2 := 0) (M3 := 0) (by omega) (by decide)
  have s1 := zPA_step (M3 := (15 + 256 * 0)) (a := x / 65536 % 256) (by omega) s0.2
  have s2 := zPA_step (M3 := (15 + 256 * (15 + 256 * 0))) (a := x / 256 % 256) (by omega) s1.2
  have s3 := zPA_step (M3 := (15 + 256 * (15 + 256 * (15 + 256 * 0)))) (a := x % 256) (by omega) s2.2
  have z0 : zPA 0 0 0 0 = 0 := by decide
  have e2 : x % 256 + 256 * (x / 256 % 256 + 256 * (x / 65536 % 256 + 256 * (x / 16777216 + 256 * 0))) = x := by omega
  have c0 : zPop 8 (x / 16777216 + 256 * (0)) = zPop 8 (x / 16777216) + zPop 0 (0) := zPop_8 (n := 0) (by omega)
  have c1 : zPop 16 (x / 65536 % 256 + 256 * (x / 16777216 + 256 * 0)) = zPop 8 (x / 65536 % 256) + zPop 8 (x / 16777216 + 256 * 0) := zPop_8 (n := 8) (by omega)
  have c2 : zPop 24 (x / 256 % 256 + 256 * (x / 65536 % 256 + 256 * (x / 16777216 + 256 * 0))) = zPop 8 (x / 256 % 256) + zPop 16 (x / 65536 % 256 + 256 * (x / 16777216 + 256 * 0)) := zPop_8 (n := 16) (by omega)
  have c3 : zPop 32 (x % 256 + 256 * (x / 256 % 256 + 256 * (x / 65536 % 256 + 256 * (x / 16777216 + 256 * 0)))) = zPop 8 (x % 256) + zPop 24 (x / 256 % 256 + 256 * (x / 65536 % 256 + 256 * (x / 16777216 + 256 * 0))) := zPop_8 (n := 24) (by omega)
  have q0 : zPop 0 0 = 0 := rfl
  have m3 := s3.1
  rw [e2] at m3 c3
  have := s2.1; have := s1.1; have := s0.1
  refine ⟨zPop 8 (x % 256), zPop 8 (x / 256 % 256), zPop 8 (x / 65536 % 256), zPop 8 (x / 16777216), zPop_le _ _, zPop_le _ _, zPop_le _ _, zPop_le _ _, ?_, ?_⟩
  · refine m3.trans ?_
    omega
  · refine c3.trans ?_
    omega
theorem zPA_8 {x : Nat} (hx : x < 18446744073709551616) : ∃ p0 p1 p2 p3 p4 p5 p6 p7, (p0 ≤ 8 ∧ p1 ≤ 8 ∧ p2 ≤ 8 ∧ p3 ≤ 8 ∧ p4 ≤ 8 ∧ p5 ≤ 8 ∧ p6 ≤ 8 ∧ p7 ≤ 8) ∧ zPA 0x5555555555555555 0x3333333333333333 0x0f0f0f0f0f0f0f0f x = p0 + 256 * p1 + 65536 * p2 + 16777216 * p3 + 4294967296 * p4 + 1099511627776 * p5 + 281474976710656 * p6 + 72057594037927936 * p7 ∧ zPop 64 x = p0 + p1 + p2 + p3 + p4 + p5 + p6 + p7 := by
  obtain ⟨a0, a1, a2, a3, a4, a5, a6, a7, ⟨b0, b1, b2, b3, b4, b5, b6, b7⟩, e⟩ : ∃ a0 a1 a2 a3 a4 a5 a6 a7 : Nat, (a0 < 256 ∧ a1 < 256 ∧ a2 < 256 ∧ a3 < 256 ∧ a4 < 256 ∧ a5 < 256 ∧ a6 < 256 ∧ a7 < 256) ∧ a0 + 256 * (a1 + 256 * (a2 + 256 * (a3 + 256 * (a4 + 256 * (a5 + 256 * (a6 + 256 * (a7 + 256 * 0))))))) = x :=
    ⟨x % 256, x / 256 % 256, x / 65536 % 256, x / 16777216 % 256, x / 4294967296 % 256, x / 1099511627776 % 256, x / 281474976710656 % 256, x / 72057594037927936, by omega, by omega⟩
  have s7 := zPA_step (a := a7) (h := 0) (M1 := 0) (M2 := 0) (M3 := 0) b7 (by decide)
  have s6 := zPA_step (M3 := (15 + 256 * 0)) b6 s7.2
  have s5 := zPA_step (M3 := (15 + 256 * (15 + 256 * 0))) b5 s6.2
  have s4 := zPA_step (M3 := (15 + 256 * (15 + 256 * (15 + 256 * 0)))) b4 s5.2
  have s3 := zPA_step (M3 := (15 + 256 * (15 + 256 * (15 + 256 * (15 + 256 * 0))))) b3 s4.2
  have s2 := zPA_step (M3 := (15 + 256 * (15 + 256 * (15 + 256 * (15 + 256 * (15 + 256 * 0)))))) b2 s3.2
  have s1 := zPA_step (M3 := (15 + 256 * (15 + 256 * (15 + 256 * (15 + 256 * (15 + 256 * (15 + 256 * 0))))))) b1 s2.2
  have s0 := zPA_step (M3 := (15 + 256 * (15 + 256 * (15 + 256 * (15 + 256 * (15 + 256 * (15 + 256 * (15 + 256 * 0)))))))) b0 s1.2
  have z0 : zPA 0 0 0 0 = 0 := by decide
  have c7 : zPop 8 (a7 + 256 * (0)) = zPop 8 (a7) + zPop 0 (0) := zPop_8 (n := 0) b7
  have c6 : zPop 16 (a6 + 256 * (a7 + 256 * 0)) = zPop 8 a6 + zPop 8 (a7 + 256 * 0) := zPop_8 (n := 8) b6
  have c5 : zPop 24 (a5 + 256 * (a6 + 256 * (a7 + 256 * 0))) = zPop 8 a5 + zPop 16 (a6 + 256 * (a7 + 256 * 0)) := zPop_8 (n := 16) b5
  have c4 : zPop 32 (a4 + 256 * (a5 + 256 * (a6 + 256 * (a7 + 256 * 0)))) = zPop 8 a4 + zPop 24 (a5 + 256 * (a6 + 256 * (a7 + 256 * 0))) := zPop_8 (n := 24) b4
  have c3 : zPop 40 (a3 + 256 * (a4 + 256 * (a5 + 256 * (a6 + 256 * (a7 + 256 * 0))))) = zPop 8 a3 + zPop 32 (a4 + 256 * (a5 + 256 * (a6 + 256 * (a7 + 256 * 0)))) := zPop_8 (n := 32) b3
  have c2 : zPop 48 (a2 + 256 * (a3 + 256 * (a4 + 256 * (a5 + 256 * (a6 + 256 * (a7 + 256 * 0)))))) = zPop 8 a2 + zPop 40 (a3 + 256 * (a4 + 256 * (a5 + 256 * (a6 + 256 * (a7 + 256 * 0))))) := zPop_8 (n := 40) b2
  have c1 : zPop 56 (a1 + 256 * (a2 + 256 * (a3 + 256 * (a4 + 256 * (a5 + 256 * (a6 + 256 * (a7 + 256 * 0))))))) = zPop 8 a1 + zPop 48 (a2 + 256 * (a3 + 256 * (a4 + 256 * (a5 + 256 * (a6 + 256 * (a7 + 256 * 0)))))) := zPop_8 (n := 48) b1
  have c0 : zPop 64 (a0 + 256 * (a1 + 256 * (a2 + 256 * (a3 + 256 * (a4 + 256 * (a5 + 256 * (a6 + 256 * (a7 + 256 * 0)))))))) = zPop 8 a0 + zPop 56 (a1 + 256 * (a2 + 256 * (a3 + 256 * (a4 + 256 * (a5 + 256 * (a6 + 256 * (a7 + 256 * 0))))))) := zPop_8 (n := 56) b0
  have q0 : zPop 0 0 = 0 := rfl
  have m0 := s0.1
  rw [e] at m0 c0
  have := s1.1; have := s2.1; have := s3.1; have := s4.1; have := s5.1; have := s6.1; have := s7.1
  refine ⟨zPop 8 a0, zPop 8 a1, zPop 8 a2, zPop 8 a3, zPop 8 a4, zPop 8 a5, zPop 8 a6, zPop 8 a7, ⟨zPop_le _ _, zPop_le _ _, zPop_le _ _, zPop_le _ _, zPop_le _ _, zPop_le _ _, zPop_le _ _, zPop_le _ _⟩, ?_, ?_⟩
  · refine m0.trans ?_
    omega
  · refine c0.trans ?_
    omega
theorem zAnd63 (y : Nat) : y &&& 63 = y % 64 := Nat.and_two_pow_sub_one_eq_mod y 6
theorem zAnd127 (y : Nat) : y &&& 127 = y % 128 := Nat.and_two_pow_sub_one_eq_mod y 7
theorem zPop_Cm {n : Nat} {m : Int} (e : (n : Int) = m) (x : Nat) (P : Int → Prop) (h : ∀ k : Nat, k < n → (x / 2 ^ k % 2 = 1 ↔ P k)) : zC P 0 m = (zPop n x : Nat) := by
  subst e
  exact zPop_C n x P h
theorem zDivLU {L m U : Nat} (h : L < m) : (L + m * U) / m = U := by
  rw [Nat.add_mul_div_left _ _ (by omega), Nat.div_eq_of_lt h, Nat.zero_add]
theorem zDv4_0 {p0 p1 p2 p3 : Nat} (hp : p0 ≤ 8 ∧ p1 ≤ 8 ∧ p2 ≤ 8 ∧ p3 ≤ 8) : ((p0) + 256 * (p1) + 65536 * (p2) + 16777216 * (p3)) / 256 = (p1) + 256 * (p2) + 65536 * (p3) := by
  rw [show (p0) + 256 * (p1) + 65536 * (p2) + 16777216 * (p3) = ((p0)) + 256 * ((p1) + 256 * (p2) + 65536 * (p3)) by clear hp; omega]
  exact zDivLU (by omega)
theorem zDw4_0 (p0 p1 p2 p3 : Nat) : ((p0) + 256 * (p1) + 65536 * (p2) + 16777216 * (p3)) + ((p1) + 256 * (p2) + 65536 * (p3)) = (p0 + p1) + 256 * (p1 + p2) + 65536 * (p2 + p3) + 16777216 * (p3) := by omega
theorem zDv4_1 {p0 p1 p2 p3 : Nat} (hp : p0 ≤ 8 ∧ p1 ≤ 8 ∧ p2 ≤ 8 ∧ p3 ≤ 8) : ((p0 + p1) + 256 * (p1 + p2) + 65536 * (p2 + p3) + 16777216 * (p3)) / 65536 = (p2 + p3) + 256 * (p3) := by
  rw [show (p0 + p1) + 256 * (p1 + p2) + 65536 * (p2 + p3) + 16777216 * (p3) = ((p0 + p1) + 256 * (p1 + p2)) + 65536 * ((p2 + p3) + 256 * (p3)) by clear hp; omega]
  exact zDivLU (by omega)
theorem zDw4_1 (p0 p1 p2 p3 : Nat) : ((p0 + p1) + 256 * (p1 + p2) + 65536 * (p2 + p3) + 16777216 * (p3)) + ((p2 + p3) + 256 * (p3)) = (p0 + p1 + p2 + p3) + 256 * (p1 + p2 + p3) + 65536 * (p2 + p3) + 16777216 * (p3) := by omega
theorem zDx4 (p0 p1 p2 p3 : Nat) : (p0 + p1 + p2 + p3) + 256 * (p1 + p2 + p3) + 65536 * (p2 + p3) + 16777216 * (p3) = (p0 + p1 + p2 + p3) + 256 * ((p1 + p2 + p3) + 256 * (p2 + p3) + 65536 * (p3)) := by omega
theorem zDy4 {t K : Nat} (h : t ≤ 32) : (t + 256 * K) % 64 = t := by omega
theorem zSum4 {p0 p1 p2 p3 z33 z40 z47 : Nat} (hp : p0 ≤ 8 ∧ p1 ≤ 8 ∧ p2 ≤ 8 ∧ p3 ≤ 8) (h : z33 = (p0) + 256 * (p1) + 65536 * (p2) + 16777216 * (p3)) (w40 : z40 = z33 + z33 / 256) (w47 : z47 = z40 + z40 / 65536) : z47 % 64 = p0 + p1 + p2 + p3 := by
  rw [h, zDv4_0 hp, zDw4_0] at w40
  rw [w40, zDv4_1 hp, zDw4_1] at w47
  rw [w47, zDx4]
  exact zDy4 (by clear h w40 w47; omega)
theorem zDv8_0 {p0 p1 p2 p3 p4 p5 p6 p7 : Nat} (hp : p0 ≤ 8 ∧ p1 ≤ 8 ∧ p2 ≤ 8 ∧ p3 ≤ 8 ∧ p4 ≤ 8 ∧ p5 ≤ 8 ∧ p6 ≤ 8 ∧ p7 ≤ 8) : ((p0) + 256 * (p1) + 65536 * (p2) + 16777216 * (p3) + 4294967296 * (p4) + 1099511627776 * (p5) + 281474976710656 * (p6) + 72057594037927936 * (p7)) / 256 = (p1) + 256 * (p2) + 65536 * (p3) + 16777216 * (p4) + 4294967296 * (p5) + 1099511627776 * (p6) + 281474976710656 * (p7) := by
  rw [show (p0) + 256 * (p1) + 65536 * (p2) + 16777216 * (p3) + 4294967296 * (p4) + 1099511627776 * (p5) + 281474976710656 * (p6) + 72057594037927936 * (p7) = ((p0)) + 256 * ((p1) + 256 * (p2) + 65536 * (p3) + 16777216 * (p4) + 4294967296 * (p5) + 1099511627776 * (p6) + 281474976710656 * (p7)) by clear hp; omega]
  exact zDivLU (by omega)
theorem zDw8_0 (p0 p1 p2 p3 p4 p5 p6 p7 : Nat) : ((p0) + 256 * (p1) + 65536 * (p2) + 16777216 * (p3) + 4294967296 * (p4) + 1099511627776 * (p5) + 281474976710656 * (p6) + 72057594037927936 * (p7)) + ((p1) + 256 * (p2) + 65536 * (p3) + 16777216 * (p4) + 4294967296 * (p5) + 1099511627776 * (p6) + 281474976710656 * (p7)) = (p0 + p1) + 256 * (p1 + p2) + 65536 * (p2 + p3) + 16777216 * (p3 + p4) + 4294967296 * (p4 + p5) + 1099511627776 * (p5 + p6) + 281474976710656 * (p6 + p7) + 72057594037927936 * (p7) := by omega
theorem zDv8_1 {p0 p1 p2 p3 p4 p5 p6 p7 : Nat} (hp : p0 ≤ 8 ∧ p1 ≤ 8 ∧ p2 ≤ 8 ∧ p3 ≤ 8 ∧ p4 ≤ 8 ∧ p5 ≤ 8 ∧ p6 ≤ 8 ∧ p7 ≤ 8) : ((p0 + p1) + 256 * (p1 + p2) + 65536 * (p2 + p3) + 16777216 * (p3 + p4) + 4294967296 * (p4 + p5) + 1099511627776 * (p5 + p6) + 281474976710656 * (p6 + p7) + 72057594037927936 * (p7)) / 65536 = (p2 + p3) + 256 * (p3 + p4) + 65536 * (p4 + p5) + 16777216 * (p5 + p6) + 4294967296 * (p6 + p7) + 1099511627776 * (p7) := by
  rw [show (p0 + p1) + 256 * (p1 + p2) + 65536 * (p2 + p3) + 16777216 * (p3 + p4) + 4294967296 * (p4 + p5) + 1099511627776 * (p5 + p6) + 281474976710656 * (p6 + p7) + 72057594037927936 * (p7) = ((p0 + p1) + 256 * (p1 + p2)) + 65536 * ((p2 + p3) + 256 * (p3 + p4) + 65536 * (p4 + p5) + 16777216 * (p5 + p6) + 4294967296 * (p6 + p7) + 1099511627776 * (p7)) by clear hp; omega]
  exact zDivLU (by omega)
theorem zDw8_1 (p0 p1 p2 p3 p4 p5 p6 p7 : Nat) : ((p0 + p1) + 256 * (p1 + p2) + 65536 * (p2 + p3) + 16777216 * (p3 + p4) + 4294967296 * (p4 + p5) + 1099511627776 * (p5 + p6) + 281474976710656 * (p6 + p7) + 72057594037927936 * (p7)) + ((p2 + p3) + 256 * (p3 + p4) + 65536 * (p4 + p5) + 16777216 * (p5 + p6) + 4294967296 * (p6 + p7) + 1099511627776 * (p7)) = (p0 + p1 + p2 + p3) + 256 * (p1 + p2 + p3 + p4) + 65536 * (p2 + p3 + p4 + p5) + 16777216 * (p3 + p4 + p5 + p6) + 4294967296 * (p4 + p5 + p6 + p7) + 1099511627776 * (p5 + p6 + p7) + 281474976710656 * (p6 + p7) + 72057594037927936 * (p7) := by omega
theorem zDv8_2 {p0 p1 p2 p3 p4 p5 p6 p7 : Nat} (hp : p0 ≤ 8 ∧ p1 ≤ 8 ∧ p2 ≤ 8 ∧ p3 ≤ 8 ∧ p4 ≤ 8 ∧ p5 ≤ 8 ∧ p6 ≤ 8 ∧ p7 ≤ 8) : ((p0 + p1 + p2 + p3) + 256 * (p1 + p2 + p3 + p4) + 65536 * (p2 + p3 + p4 + p5) + 16777216 * (p3 + p4 + p5 + p6) + 4294967296 * (p4 + p5 + p6 + p7) + 1099511627776 * (p5 + p6 + p7) + 281474976710656 * (p6 + p7) + 72057594037927936 * (p7)) / 4294967296 = (p4 + p5 + p6 + p7) + 256 * (p5 + p6 + p7) + 65536 * (p6 + p7) + 16777216 * (p7) := by
  rw [show (p0 + p1 + p2 + p3) + 256 * (p1 + p2 + p3 + p4) + 65536 * (p2 + p3 + p4 + p5) + 16777216 * (p3 + p4 + p5 + p6) + 4294967296 * (p4 + p5 + p6 + p7) + 1099511627776 * (p5 + p6 + p7) + 281474976710656 * (p6 + p7) + 72057594037927936 * (p7) = ((p0 + p1 + p2 + p3) + 256 * (p1 + p2 + p3 + p4) + 65536 * (p2 + p3 + p4 + p5) + 16777216 * (p3 + p4 + p5 + p6)) + 4294967296 * ((p4 + p5 + p6 + p7) + 256 * (p5 + p6 + p7) + 65536 * (p6 + p7) + 16777216 * (p7)) by clear hp; omega]
  exact zDivLU (by omega)
theorem zDw8_2 (p0 p1 p2 p3 p4 p5 p6 p7 : Nat) : ((p0 + p1 + p2 + p3) + 256 * (p1 + p2 + p3 + p4) + 65536 * (p2 + p3 + p4 + p5) + 16777216 * (p3 + p4 + p5 + p6) + 4294967296 * (p4 + p5 + p6 + p7) + 1099511627776 * (p5 + p6 + p7) + 281474976710656 * (p6 + p7) + 72057594037927936 * (p7)) + ((p4 + p5 + p6 + p7) + 256 * (p5 + p6 + p7) + 65536 * (p6 + p7) + 16777216 * (p7)) = (p0 + p1 + p2 + p3 + p4 + p5 + p6 + p7) + 256 * (p1 + p2 + p3 + p4 + p5 + p6 + p7) + 65536 * (p2 + p3 + p4 + p5 + p6 + p7) + 16777216 * (p3 + p4 + p5 + p6 + p7) + 4294967296 * (p4 + p5 + p6 + p7) + 1099511627776 * (p5 + p6 + p7) + 281474976710656 * (p6 + p7) + 72057594037927936 * (p7) := by omega
theorem zDx8 (p0 p1 p2 p3 p4 p5 p6 p7 : Nat) : (p0 + p1 + p2 + p3 + p4 + p5 + p6 + p7) + 256 * (p1 + p2 + p3 + p4 + p5 + p6 + p7) + 65536 * (p2 + p3 + p4 + p5 + p6 + p7) + 16777216 * (p3 + p4 + p5 + p6 + p7) + 4294967296 * (p4 + p5 + p6 + p7) + 1099511627776 * (p5 + p6 + p7) + 281474976710656 * (p6 + p7) + 72057594037927936 * (p7) = (p0 + p1 + p2 + p3 + p4 + p5 + p6 + p7) + 256 * ((p1 + p2 + p3 + p4 + p5 + p6 + p7) + 256 * (p2 + p3 + p4 + p5 + p6 + p7) + 65536 * (p3 + p4 + p5 + p6 + p7) + 16777216 * (p4 + p5 + p6 + p7) + 4294967296 * (p5 + p6 + p7) + 1099511627776 * (p6 + p7) + 281474976710656 * (p7)) := by omega
theorem zDy8 {t K : Nat} (h : t ≤ 64) : (t + 256 * K) % 4294967296 % 128 = t := by omega
theorem zSum8 {p0 p1 p2 p3 p4 p5 p6 p7 z33 z40 z47 z54 : Nat} (hp : p0 ≤ 8 ∧ p1 ≤ 8 ∧ p2 ≤ 8 ∧ p3 ≤ 8 ∧ p4 ≤ 8 ∧ p5 ≤ 8 ∧ p6 ≤ 8 ∧ p7 ≤ 8) (h : z33 = (p0) + 256 * (p1) + 65536 * (p2) + 16777216 * (p3) + 4294967296 * (p4) + 1099511627776 * (p5) + 281474976710656 * (p6) + 72057594037927936 * (p7)) (w40 : z40 = z33 + z33 / 256) (w47 : z47 = z40 + z40 / 65536) (w54 : z54 = z47 + z47 / 4294967296) : z54 % 4294967296 % 128 = p0 + p1 + p2 + p3 + p4 + p5 + p6 + p7 := by
  rw [h, zDv8_0 hp, zDw8_0] at w40
  rw [w40, zDv8_1 hp, zDw8_1] at w47
  rw [w47, zDv8_2 hp, zDw8_2] at w54
  rw [w54, zDx8]
  exact zDy8 (by clear h w40 w47 w54; omega)
theorem zCE_bits {w : Int → Int} {n t : Int} (ht : 1 ≤ t ∧ t ≤ n) (hn : n ≤ 40) : zC (fun k => k = t ∨ (zKn w t < k ∧ ∃ q, t < q ∧ q < n + 1 ∧ zAA w t q = k)) 0 64 = zCE w n t := by
  have hk := zKn_bd w ht.1
  have e1 := zS_split (fun k => zB (k = t ∨ (zKn w t < k ∧ ∃ q, t < q ∧ q < n + 1 ∧ zAA w t q = k))) (a := 0) (b := 1) (c := 64) (by omega) (by omega)
  have e2 := zS_split (fun k => zB (k = t ∨ (zKn w t < k ∧ ∃ q, t < q ∧ q < n + 1 ∧ zAA w t q = k))) (a := 1) (b := t + 1) (c := 64) (by omega) (by omega)
  have e3 : zS (fun k => zB (k = t ∨ (zKn w t < k ∧ ∃ q, t < q ∧ q < n + 1 ∧ zAA w t q = k))) 0 1 = 0 := zS_zero fun k a b => zB_f (fun q => by
    rcases q with q | ⟨q, -⟩ <;> omega)
  have e4 : zS (fun k => zB (k = t ∨ (zKn w t < k ∧ ∃ q, t < q ∧ q < n + 1 ∧ zAA w t q = k))) (t + 1) 64 = 0 := zS_zero fun k a b => zB_f (fun q => by
    rcases q with q | ⟨-, q, q1, q2, q3⟩
    · omega
    · have := zAA_bd (w := w) (i := t) (j := q) (by omega) (by omega); omega)
  have e5 : zS (fun k => zB (k = t ∨ (zKn w t < k ∧ ∃ q, t < q ∧ q < n + 1 ∧ zAA w t q = k))) 1 (t + 1) = zCE w n t := zS_congr fun k a b => zB_eq (by
    constructor
    · rintro (q | ⟨q0, q, q1, q2, q3⟩)
      · exact ⟨by omega, Or.inl q⟩
      · exact ⟨q0, Or.inr ⟨q, q1, by omega, q3⟩⟩
    · rintro ⟨q0, q | ⟨q, q1, q2, q3⟩⟩
      · exact Or.inl q
      · exact Or.inr ⟨q0, q, q1, by omega, q3⟩)
  show zS (fun k => zB (k = t ∨ (zKn w t < k ∧ ∃ q, t < q ∧ q < n + 1 ∧ zAA w t q = k))) 0 64 = _
  omega
theorem zCE_bd (w : Int → Int) {n t : Int} (ht : 1 ≤ t) : 0 ≤ zCE w n t ∧ zCE w n t ≤ t := by
  have := zC_bd (zCP w n t) (a := 1) (b := t + 1) (by omega)
  unfold zCE; omega

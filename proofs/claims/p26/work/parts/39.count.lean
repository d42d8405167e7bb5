-- the number of bits, by bytes
def zPop : Nat → Nat → Nat
  | 0, _ => 0
  | n + 1, x => x % 2 + zPop n (x / 2)
def zPA (M1 M2 M3 x : Nat) : Nat :=
  (((x - (x / 2 &&& M1) &&& M2) + ((x - (x / 2 &&& M1)) / 4 &&& M2)) + ((x - (x / 2 &&& M1) &&& M2) + ((x - (x / 2 &&& M1)) / 4 &&& M2)) / 16) &&& M3
theorem zAnd256 {u v c d : Nat} (hu : u < 256) (hc : c < 256) : (u + 256 * v) &&& (c + 256 * d) = (u &&& c) + 256 * (v &&& d) := by
  have e1 : ((u + 256 * v) &&& (c + 256 * d)) % 2 ^ 8 = ((u + 256 * v) % 2 ^ 8) &&& ((c + 256 * d) % 2 ^ 8) := Nat.and_mod_two_pow
  have e2 : ((u + 256 * v) &&& (c + 256 * d)) / 2 ^ 8 = ((u + 256 * v) / 2 ^ 8) &&& ((c + 256 * d) / 2 ^ 8) := Nat.and_div_two_pow
  rw [show (u + 256 * v) % 2 ^ 8 = u by omega, show (c + 256 * d) % 2 ^ 8 = c by omega] at e1
  rw [show (u + 256 * v) / 2 ^ 8 = v by omega, show (c + 256 * d) / 2 ^ 8 = d by omega] at e2
  have := Nat.div_add_mod ((u + 256 * v) &&& (c + 256 * d)) (2 ^ 8)
  omega
theorem zByte1 : ∀ a, a < 256 → ∀ k, k < 2 → (a / 2 + 128 * k &&& 0x55) = (a / 2 &&& 0x55) ∧ (a / 2 &&& 0x55) ≤ a ∧ a / 2 + 128 * k < 256 := by decide +kernel
theorem zByte2 : ∀ a, a < 256 → ∀ k, k < 4 → (a / 4 + 64 * k &&& 0x33) = (a / 4 &&& 0x33) ∧ a / 4 + 64 * k < 256 ∧ (a &&& 0x33) + (a / 4 &&& 0x33) < 256 := by decide +kernel
def zQ2 (M1 M2 x : Nat) : Nat := (x - (x / 2 &&& M1) &&& M2) + ((x - (x / 2 &&& M1)) / 4 &&& M2)
theorem zByte5 : ∀ a, a < 256 → zQ2 0x55 0x33 a % 16 < 5 := by decide +kernel
theorem zByte3 : ∀ a, a < 256 → ∀ k, k < 5 → (((a - (a / 2 &&& 0x55) &&& 0x33) + ((a - (a / 2 &&& 0x55)) / 4 &&& 0x33)) + ((a - (a / 2 &&& 0x55) &&& 0x33) + ((a - (a / 2 &&& 0x55)) / 4 &&& 0x33)) / 16 + 16 * k < 256) ∧ ((((a - (a / 2 &&& 0x55) &&& 0x33) + ((a - (a / 2 &&& 0x55)) / 4 &&& 0x33)) + ((a - (a / 2 &&& 0x55) &&& 0x33) + ((a - (a / 2 &&& 0x55)) / 4 &&& 0x33)) / 16 + 16 * k) &&& 0x0f) = zPA 0x55 0x33 0x0f a := by decide +kernel
theorem zByte4 : ∀ a, a < 256 → zPA 0x55 0x33 0x0f a = zPop 8 a := by decide +kernel
theorem zPA_step {a h M1 M2 M3 : Nat} (ha : a < 256) (hq0 : zQ2 M1 M2 h % 16 < 5) : zPA (0x55 + 256 * M1) (0x33 + 256 * M2) (0x0f + 256 * M3) (a + 256 * h) = zPop 8 a + 256 * zPA M1 M2 M3 h ∧ zQ2 (0x55 + 256 * M1) (0x33 + 256 * M2) (a + 256 * h) % 16 < 5 := by
  have b1 := zByte1 a ha (h % 2) (by omega)
  have s1 : ((a + 256 * h) / 2 &&& (0x55 + 256 * M1)) = (a / 2 &&& 0x55) + 256 * (h / 2 &&& M1) := by
    rw [show (a + 256 * h) / 2 = (a / 2 + 128 * (h % 2)) + 256 * (h / 2) by omega, zAnd256 b1.2.2 (by omega), b1.1]
  have le : (h / 2 &&& M1) ≤ h := Nat.le_trans Nat.and_le_left (by omega)
  have s2 : a + 256 * h - ((a / 2 &&& 0x55) + 256 * (h / 2 &&& M1)) = (a - (a / 2 &&& 0x55)) + 256 * (h - (h / 2 &&& M1)) := by omega
  have b3 := zByte3 a ha
  have b4 := zByte4 a ha
  have b6 := zByte5 a ha
  unfold zPA zQ2 at *
  rw [s1, s2]
  generalize hu : a - (a / 2 &&& 0x55) = u at *
  generalize h - (h / 2 &&& M1) = v at *
  have hu2 : u < 256 := by omega
  have b2 := zByte2 u hu2 (v % 4) (by omega)
  have s3 : ((u + 256 * v) / 4 &&& (0x33 + 256 * M2)) = (u / 4 &&& 0x33) + 256 * (v / 4 &&& M2) := by
    rw [show (u + 256 * v) / 4 = (u / 4 + 64 * (v % 4)) + 256 * (v / 4) by omega, zAnd256 b2.2.1 (by omega), b2.1]
  rw [s3, zAnd256 hu2 (by omega)]
  generalize hq : (v &&& M2) + (v / 4 &&& M2) = q
  rw [show (u &&& 0x33) + 256 * (v &&& M2) + ((u / 4 &&& 0x33) + 256 * (v / 4 &&& M2)) = ((u &&& 0x33) + (u / 4 &&& 0x33)) + 256 * q by omega]
  generalize (u &&& 0x33) + (u / 4 &&& 0x33) = t at *
  rw [hq] at hq0
  have b5 := b3 (q % 16) hq0
  refine ⟨?_, by omega⟩
  rw [show (t + 256 * q) + (t + 256 * q) / 16 = (t + t / 16 + 16 * (q % 16)) + 256 * (q + q / 16) by omega, zAnd256 b5.1 (by omega), b5.2, b4]
theorem zPop_8 {n a h : Nat} (ha : a < 256) : zPop (n + 8) (a + 256 * h) = zPop 8 a + zPop n h := by
  show (a + 256 * h) % 2 + ((a + 256 * h) / 2 % 2 + ((a + 256 * h) / 2 / 2 % 2 + ((a + 256 * h) / 2 / 2 / 2 % 2 + ((a + 256 * h) / 2 / 2 / 2 / 2 % 2 + ((a + 256 * h) / 2 / 2 / 2 / 2 / 2 % 2 + ((a + 256 * h) / 2 / 2 / 2 / 2 / 2 / 2 % 2 + ((a + 256 * h) / 2 / 2 / 2 / 2 / 2 / 2 / 2 % 2 + zPop n ((a + 256 * h) / 2 / 2 / 2 / 2 / 2 / 2 / 2 / 2)))))))) = a % 2 + (a / 2 % 2 + (a / 2 / 2 % 2 + (a / 2 / 2 / 2 % 2 + (a / 2 / 2 / 2 / 2 % 2 + (a / 2 / 2 / 2 / 2 / 2 % 2 + (a / 2 / 2 / 2 / 2 / 2 / 2 % 2 + (a / 2 / 2 / 2 / 2 / 2 / 2 / 2 % 2 + 0))))))) + zPop n h
  rw [show (a + 256 * h) / 2 / 2 / 2 / 2 / 2 / 2 / 2 / 2 = h by omega]
  omega
theorem zPop_le : ∀ n x, zPop n x ≤ n := by
  intro n
  induction n with
  | zero => intro x; exact Nat.le_refl 0
  | succ n ih => intro x; have := ih (x / 2); show x % 2 + zPop n (x / 2) ≤ n + 1; omega
/-- the count of the properties that hold is the number of the bits -/
theorem zPop_C : ∀ (n x : Nat) (P : Int → Prop), (∀ k : Nat, k < n → (x / 2 ^ k % 2 = 1 ↔ P k)) → zC P 0 (n : Int) = (zPop n x : Nat) := by
  intro n
  induction n with
  | zero => intro x P h; exact zC_nil P (Int.le_refl 0)
  | succ n ih =>
    intro x P h
    have e1 : zC P 0 ((n + 1 : Nat) : Int) = zB (P 0) + zS (fun k => zB (P k)) 1 ((n : Int) + 1) := by
      have := zS_head (fun k => zB (P k)) (a := 0) (b := ((n + 1 : Nat) : Int)) (by omega)
      rw [show (0 : Int) + 1 = 1 by omega, show ((n + 1 : Nat) : Int) = (n : Int) + 1 by omega] at this
      rw [show ((n + 1 : Nat) : Int) = (n : Int) + 1 by omega]
      exact this
    have e2 := zS_shift (fun k => zB (P k)) 0 (n : Int) 1
    rw [show (0 : Int) + 1 = 1 by omega] at e2
    have e3 : zS (fun k => zB (P (k + 1))) 0 (n : Int) = (zPop n (x / 2) : Nat) := ih (x / 2) (fun k => P (k + 1)) (fun k hk => by
      have := h (k + 1) (by omega)
      rw [Nat.pow_succ, Nat.mul_comm, ← Nat.div_div_eq_div_mul] at this
      rw [this]
      rw [show ((k + 1 : Nat) : Int) = (k : Int) + 1 by omega])
    have e4 : zB (P 0) = ((x % 2 : Nat) : Int) := by
      have := h 0 (by omega)
      rw [show x / 2 ^ 0 = x by simp] at this
      rcases Classical.em (P 0) with q | q
      · rw [zB_t q]; have := this.mpr q; omega
      · rw [zB_f q]; have : ¬ x % 2 = 1 := fun z => q (this.mp z); omega
    show zC P 0 ((n + 1 : Nat) : Int) = ((x % 2 + zPop n (x / 2) : Nat) : Int)
    rw [e1, ← e2, e3, e4]; omega
-- the machine's numbers by natural ones
def zN (x : Nat) : Int32 := Int32.ofNat x
theorem zN_add (x y : Nat) : zN x + zN y = zN (x + y) := (Int32.ofNat_add x y).symm
theorem zN_I (x : Nat) : zN x = zI x := zI_nat x
theorem zN_sub {x y : Nat} (h : y ≤ x) : zN x - zN y = zN (x - y) := by
  rw [zN_I, zN_I, zN_I, zI_sub]; congr 1; omega
theorem zN_bv (x : Nat) : (zN x).toBitVec = BitVec.ofNat 32 x := rfl
theorem zN_and {x y : Nat} (hx : x < 4294967296) (hy : y < 4294967296) : zN x &&& zN y = zN (x &&& y) := by
  apply Int32.toBitVec_inj.mp
  apply BitVec.eq_of_toNat_eq
  show ((BitVec.ofNat 32 x) &&& (BitVec.ofNat 32 y)).toNat = (BitVec.ofNat 32 (x &&& y)).toNat
  have : x &&& y ≤ x := Nat.and_le_left
  rw [BitVec.toNat_and, BitVec.toNat_ofNat, BitVec.toNat_ofNat, BitVec.toNat_ofNat, Nat.mod_eq_of_lt hx, Nat.mod_eq_of_lt hy, Nat.mod_eq_of_lt (by omega)]
theorem zN_shr {x : Nat} (hx : x < 4294967296) (k : Nat) (y : Int32) (hy : (y.toUInt32 &&& Int32.toUInt32 31).toBitVec.toNat = k) (hk : k < 32) : ((zN x).toUInt32 >>> (y.toUInt32 &&& Int32.toUInt32 31)).toInt32 = zN (x / 2 ^ k) := by
  apply Int32.toBitVec_inj.mp
  apply BitVec.eq_of_toNat_eq
  show ((BitVec.ofNat 32 x) >>> ((y.toUInt32 &&& Int32.toUInt32 31).toBitVec % 32#32)).toNat = (BitVec.ofNat 32 (x / 2 ^ k)).toNat
  have h2 : ((y.toUInt32 &&& Int32.toUInt32 31).toBitVec % 32#32).toNat = k := by
    rw [BitVec.toNat_umod, hy]; exact Nat.mod_eq_of_lt hk
  have h3 : x / 2 ^ k ≤ x := Nat.div_le_self _ _
  rw [BitVec.ushiftRight_eq', BitVec.toNat_ushiftRight, h2, BitVec.toNat_ofNat, BitVec.toNat_ofNat, Nat.mod_eq_of_lt hx, Nat.mod_eq_of_lt (by omega), Nat.shiftRight_eq_div_pow]

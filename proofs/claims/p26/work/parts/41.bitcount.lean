theorem mJ6_bitCount_0f7a4_265 : (Cond.constant RJ6 265 (1431655765)) ∈ wsJ6_bitCount_0f7a4 := by decide +kernel
theorem mJ6_bitCount_0f7a4_266 : (Cond.constant RJ6 266 (858993459)) ∈ wsJ6_bitCount_0f7a4 := by decide +kernel
theorem mJ6_bitCount_0f7a4_267 : (Cond.constant RJ6 267 (252645135)) ∈ wsJ6_bitCount_0f7a4 := by decide +kernel
set_option maxHeartbeats 1000000 in
set_option maxRecDepth 100000 in
theorem kJ6_bitCount_0f7a4 (l : Launch) (g : zG) (X : Int32) (P : Int → Prop) (hP : zBi X P) : Met l yJ6_bitCount_0f7a4 wsJ6_bitCount_0f7a4 (zRm 0 0) (zP g [.int X] (fun _ => True)) (vp_Si (fun r => r = zI (zC P 0 32))) 0 0 (fun _ => False) := by
  obtain ⟨x, hx, rfl⟩ := zN_of X
  have hq := zBi_N hP
  refine Met.ofZ (cc := cJ6_bitCount_0f7a4) (maxL := 1) (ret := (some .int)) (by decide) rfl (Nat.le_of_ble_eq_true rfl) ?_
  intro p e s m args below meth c ls hx0 hb hr hlocks S hin hK hpic hl
  have hown := S.2.2.2.1
  have hts := S.2.2.2.2
  have hl : lv_has ls 1 [(0, .int (zN x))] := hl
  refine lv_iload_n hx0 hb dJ6_bitCount_0f7a4_0 rfl (lv_at hl 0 rfl) ?_
  refine lv_iload_n hx0 hb dJ6_bitCount_0f7a4_1 rfl (lv_at hl 0 rfl) ?_
  refine zv_iconst hx0 hb dJ6_bitCount_0f7a4_2 ?_
  refine lv_iushr (v := zN (x / 2 ^ 1)) hx0 hb dJ6_bitCount_0f7a4_3 (zN_shr (by omega) 1 _ (by decide +kernel) (by decide)) ?_
  rw [show x / 2 ^ 1 = x / 2 from rfl]
  refine lv_ldcw (own := RJ6) (v := zN 1431655765) hx0 hb hown (hts _ mJ6_bitCount_0f7a4_265) dJ6_bitCount_0f7a4_4 ?_
  refine lv_iand hx0 hb dJ6_bitCount_0f7a4_7 ?_
  rw [zN_and (by omega) (by omega)]
  have g1 : ((x / 2) &&& 1431655765) ≤ x / 2 := Nat.and_le_left
  have h1 : ((x / 2) &&& 1431655765) ≤ 1431655765 := Nat.and_le_right
  obtain ⟨y1, e1⟩ : ∃ y, y = ((x / 2) &&& 1431655765) := ⟨_, rfl⟩
  rw [← e1]
  rw [← e1] at g1 h1
  refine lv_isub hx0 hb dJ6_bitCount_0f7a4_8 ?_
  rw [zN_sub (by omega)]
  obtain ⟨z9, w9⟩ : ∃ z, z = x - y1 := ⟨_, rfl⟩
  rw [← w9]
  refine lv_istore_n (lv' := [(0, .int (zN z9))]) hx0 hb dJ6_bitCount_0f7a4_9 rfl hl (by decide) rfl (fun ls hl => ?_)
  refine lv_iload_n hx0 hb dJ6_bitCount_0f7a4_10 rfl (lv_at hl 0 rfl) ?_
  refine lv_ldcw (own := RJ6) (v := zN 858993459) hx0 hb hown (hts _ mJ6_bitCount_0f7a4_266) dJ6_bitCount_0f7a4_11 ?_
  refine lv_iand hx0 hb dJ6_bitCount_0f7a4_14 ?_
  rw [zN_and (by omega) (by omega)]
  have g2 : (z9 &&& 858993459) ≤ z9 := Nat.and_le_left
  have h2 : (z9 &&& 858993459) ≤ 858993459 := Nat.and_le_right
  obtain ⟨y2, e2⟩ : ∃ y, y = (z9 &&& 858993459) := ⟨_, rfl⟩
  rw [← e2]
  rw [← e2] at g2 h2
  refine lv_iload_n hx0 hb dJ6_bitCount_0f7a4_15 rfl (lv_at hl 0 rfl) ?_
  refine zv_iconst hx0 hb dJ6_bitCount_0f7a4_16 ?_
  refine lv_iushr (v := zN (z9 / 2 ^ 2)) hx0 hb dJ6_bitCount_0f7a4_17 (zN_shr (by omega) 2 _ (by decide +kernel) (by decide)) ?_
  rw [show z9 / 2 ^ 2 = z9 / 4 from rfl]
  refine lv_ldcw (own := RJ6) (v := zN 858993459) hx0 hb hown (hts _ mJ6_bitCount_0f7a4_266) dJ6_bitCount_0f7a4_18 ?_
  refine lv_iand hx0 hb dJ6_bitCount_0f7a4_21 ?_
  rw [zN_and (by omega) (by omega)]
  have g3 : ((z9 / 4) &&& 858993459) ≤ z9 / 4 := Nat.and_le_left
  have h3 : ((z9 / 4) &&& 858993459) ≤ 858993459 := Nat.and_le_right
  obtain ⟨y3, e3⟩ : ∃ y, y = ((z9 / 4) &&& 858993459) := ⟨_, rfl⟩
  rw [← e3]
  rw [← e3] at g3 h3
  refine lv_iadd hx0 hb dJ6_bitCount_0f7a4_22 ?_
  rw [zN_add]
  obtain ⟨z23, w23⟩ : ∃ z, z = y2 + y3 := ⟨_, rfl⟩
  rw [← w23]
  refine lv_istore_n (lv' := [(0, .int (zN z23))]) hx0 hb dJ6_bitCount_0f7a4_23 rfl hl (by decide) rfl (fun ls hl => ?_)
  refine lv_iload_n hx0 hb dJ6_bitCount_0f7a4_24 rfl (lv_at hl 0 rfl) ?_
  refine lv_iload_n hx0 hb dJ6_bitCount_0f7a4_25 rfl (lv_at hl 0 rfl) ?_
  refine zv_iconst hx0 hb dJ6_bitCount_0f7a4_26 ?_
  refine lv_iushr (v := zN (z23 / 2 ^ 4)) hx0 hb dJ6_bitCount_0f7a4_27 (zN_shr (by omega) 4 _ (by decide +kernel) (by decide)) ?_
  rw [show z23 / 2 ^ 4 = z23 / 16 from rfl]
  refine lv_iadd hx0 hb dJ6_bitCount_0f7a4_28 ?_
  rw [zN_add]
  refine lv_ldcw (own := RJ6) (v := zN 252645135) hx0 hb hown (hts _ mJ6_bitCount_0f7a4_267) dJ6_bitCount_0f7a4_29 ?_
  refine lv_iand hx0 hb dJ6_bitCount_0f7a4_32 ?_
  rw [zN_and (by omega) (by omega)]
  have g4 : ((z23 + (z23 / 16)) &&& 252645135) ≤ z23 + (z23 / 16) := Nat.and_le_left
  have h4 : ((z23 + (z23 / 16)) &&& 252645135) ≤ 252645135 := Nat.and_le_right
  obtain ⟨y4, e4⟩ : ∃ y, y = ((z23 + (z23 / 16)) &&& 252645135) := ⟨_, rfl⟩
  rw [← e4]
  rw [← e4] at g4 h4
  obtain ⟨z33, w33⟩ : ∃ z, z = y4 := ⟨_, rfl⟩
  rw [← w33]
  refine lv_istore_n (lv' := [(0, .int (zN z33))]) hx0 hb dJ6_bitCount_0f7a4_33 rfl hl (by decide) rfl (fun ls hl => ?_)
  have hz : z33 = zPA 0x55555555 0x33333333 0x0f0f0f0f x := by unfold zPA; rw [w33, e4, w23, e2, e3, w9, e1]
  obtain ⟨p0, p1, p2, p3, i0, i1, i2, i3, hpa, hpp⟩ := zPA_4 hx
  rw [hpa] at hz
  refine lv_iload_n hx0 hb dJ6_bitCount_0f7a4_34 rfl (lv_at hl 0 rfl) ?_
  refine lv_iload_n hx0 hb dJ6_bitCount_0f7a4_35 rfl (lv_at hl 0 rfl) ?_
  refine zv_bipush hx0 hb dJ6_bitCount_0f7a4_36 (by decide +kernel) ?_
  refine lv_iushr (v := zN (z33 / 2 ^ 8)) hx0 hb dJ6_bitCount_0f7a4_38 (zN_shr (by omega) 8 _ (by decide +kernel) (by decide)) ?_
  rw [show z33 / 2 ^ 8 = z33 / 256 from rfl]
  refine lv_iadd hx0 hb dJ6_bitCount_0f7a4_39 ?_
  rw [zN_add]
  obtain ⟨z40, w40⟩ : ∃ z, z = z33 + (z33 / 256) := ⟨_, rfl⟩
  rw [← w40]
  refine lv_istore_n (lv' := [(0, .int (zN z40))]) hx0 hb dJ6_bitCount_0f7a4_40 rfl hl (by decide) rfl (fun ls hl => ?_)
  refine lv_iload_n hx0 hb dJ6_bitCount_0f7a4_41 rfl (lv_at hl 0 rfl) ?_
  refine lv_iload_n hx0 hb dJ6_bitCount_0f7a4_42 rfl (lv_at hl 0 rfl) ?_
  refine zv_bipush hx0 hb dJ6_bitCount_0f7a4_43 (by decide +kernel) ?_
  refine lv_iushr (v := zN (z40 / 2 ^ 16)) hx0 hb dJ6_bitCount_0f7a4_45 (zN_shr (by omega) 16 _ (by decide +kernel) (by decide)) ?_
  rw [show z40 / 2 ^ 16 = z40 / 65536 from rfl]
  refine lv_iadd hx0 hb dJ6_bitCount_0f7a4_46 ?_
  rw [zN_add]
  obtain ⟨z47, w47⟩ : ∃ z, z = z40 + (z40 / 65536) := ⟨_, rfl⟩
  rw [← w47]
  refine lv_istore_n (lv' := [(0, .int (zN z47))]) hx0 hb dJ6_bitCount_0f7a4_47 rfl hl (by decide) rfl (fun ls hl => ?_)
  refine lv_iload_n hx0 hb dJ6_bitCount_0f7a4_48 rfl (lv_at hl 0 rfl) ?_
  refine zv_bipush hx0 hb dJ6_bitCount_0f7a4_49 (by decide +kernel) ?_
  refine lv_iand hx0 hb dJ6_bitCount_0f7a4_51 ?_
  rw [show zI 63 = zN 63 from rfl]
  rw [zN_and (by omega) (by omega)]
  have g5 : (z47 &&& 63) ≤ z47 := Nat.and_le_left
  have h5 : (z47 &&& 63) ≤ 63 := Nat.and_le_right
  have d2 := zSum4 ⟨i0, i1, i2, i3⟩ hz w40 w47
  clear hz w40 w47
  exact zr_i hx0 hb hr hlocks dJ6_bitCount_0f7a4_52 (by rw [zN_I, zPop_Cm (n := 32) (m := 32) (by omega) x P hq, hpp, zAnd63]; exact congrArg zI (congrArg Int.ofNat d2))

theorem mJ13_bitCount_95d88_314 : (Cond.constantLong RJ13 314 (6148914691236517205)) ∈ wsJ13_bitCount_95d88 := by decide +kernel
theorem mJ13_bitCount_95d88_316 : (Cond.constantLong RJ13 316 (3689348814741910323)) ∈ wsJ13_bitCount_95d88 := by decide +kernel
theorem mJ13_bitCount_95d88_318 : (Cond.constantLong RJ13 318 (1085102592571150095)) ∈ wsJ13_bitCount_95d88 := by decide +kernel
set_option maxHeartbeats 1000000 in
set_option maxRecDepth 100000 in
theorem kJ13_bitCount_95d88 (l : Launch) (g : zG) (X : Int64) (P : Int → Prop) (hP : zBt X P) : Met l yJ13_bitCount_95d88 wsJ13_bitCount_95d88 (zRm 0 0) (zP g [.long X] (fun _ => True)) (vp_Si (fun r => r = zI (zC P 0 64))) 0 0 (fun _ => False) := by
  obtain ⟨x, hx, rfl⟩ := zNL_of X
  have hq := zBt_N hP
  refine Met.ofZ (cc := cJ13_bitCount_95d88) (maxL := 2) (ret := (some .int)) (by decide) rfl (Nat.le_of_ble_eq_true rfl) ?_
  intro p e s m args below meth c ls hx0 hb hr hlocks S hin hK hpic hl
  have hown := S.2.2.2.1
  have hts := S.2.2.2.2
  have hl : lv_has ls 2 [(0, .long (zNL x))] := hl
  refine lv_lload_n hx0 hb dJ13_bitCount_95d88_0 rfl (lv_at hl 0 rfl) ?_
  refine lv_lload_n hx0 hb dJ13_bitCount_95d88_1 rfl (lv_at hl 0 rfl) ?_
  refine zv_iconst hx0 hb dJ13_bitCount_95d88_2 ?_
  refine lv_lushr (v := zNL (x / 2 ^ 1)) hx0 hb dJ13_bitCount_95d88_3 (zNL_shr (by omega) 1 _ (by decide +kernel) (by decide)) ?_
  rw [show x / 2 ^ 1 = x / 2 from rfl]
  refine lv_ldc2 (own := RJ13) (v := zNL 6148914691236517205) hx0 hb hown (hts _ mJ13_bitCount_95d88_314) dJ13_bitCount_95d88_4 ?_
  refine lv_land hx0 hb dJ13_bitCount_95d88_7 ?_
  rw [zNL_and (by omega) (by omega)]
  have g1 : ((x / 2) &&& 6148914691236517205) ≤ x / 2 := Nat.and_le_left
  have h1 : ((x / 2) &&& 6148914691236517205) ≤ 6148914691236517205 := Nat.and_le_right
  obtain ⟨y1, e1⟩ : ∃ y, y = ((x / 2) &&& 6148914691236517205) := ⟨_, rfl⟩
  rw [← e1]
  rw [← e1] at g1 h1
  refine lv_lsub hx0 hb dJ13_bitCount_95d88_8 ?_
  rw [zNL_sub (by omega)]
  obtain ⟨z9, w9⟩ : ∃ z, z = x - y1 := ⟨_, rfl⟩
  rw [← w9]
  refine lv_lstore_n (lv' := [(0, .long (zNL z9))]) hx0 hb dJ13_bitCount_95d88_9 rfl hl (by decide) rfl (fun ls hl => ?_)
  refine lv_lload_n hx0 hb dJ13_bitCount_95d88_10 rfl (lv_at hl 0 rfl) ?_
  refine lv_ldc2 (own := RJ13) (v := zNL 3689348814741910323) hx0 hb hown (hts _ mJ13_bitCount_95d88_316) dJ13_bitCount_95d88_11 ?_
  refine lv_land hx0 hb dJ13_bitCount_95d88_14 ?_
  rw [zNL_and (by omega) (by omega)]
  have g2 : (z9 &&& 3689348814741910323) ≤ z9 := Nat.and_le_left
  have h2 : (z9 &&& 3689348814741910323) ≤ 3689348814741910323 := Nat.and_le_right
  obtain ⟨y2, e2⟩ : ∃ y, y = (z9 &&& 3689348814741910323) := ⟨_, rfl⟩
  rw [← e2]
  rw [← e2] at g2 h2
  refine lv_lload_n hx0 hb dJ13_bitCount_95d88_15 rfl (lv_at hl 0 rfl) ?_
  refine zv_iconst hx0 hb dJ13_bitCount_95d88_16 ?_
  refine lv_lushr (v := zNL (z9 / 2 ^ 2)) hx0 hb dJ13_bitCount_95d88_17 (zNL_shr (by omega) 2 _ (by decide +kernel) (by decide)) ?_
  rw [show z9 / 2 ^ 2 = z9 / 4 from rfl]
  refine lv_ldc2 (own := RJ13) (v := zNL 3689348814741910323) hx0 hb hown (hts _ mJ13_bitCount_95d88_316) dJ13_bitCount_95d88_18 ?_
  refine lv_land hx0 hb dJ13_bitCount_95d88_21 ?_
  rw [zNL_and (by omega) (by omega)]
  have g3 : ((z9 / 4) &&& 3689348814741910323) ≤ z9 / 4 := Nat.and_le_left
  have h3 : ((z9 / 4) &&& 3689348814741910323) ≤ 3689348814741910323 := Nat.and_le_right
  obtain ⟨y3, e3⟩ : ∃ y, y = ((z9 / 4) &&& 3689348814741910323) := ⟨_, rfl⟩
  rw [← e3]
  rw [← e3] at g3 h3
  refine lv_ladd hx0 hb dJ13_bitCount_95d88_22 ?_
  rw [zNL_add]
  obtain ⟨z23, w23⟩ : ∃ z, z = y2 + y3 := ⟨_, rfl⟩
  rw [← w23]
  refine lv_lstore_n (lv' := [(0, .long (zNL z23))]) hx0 hb dJ13_bitCount_95d88_23 rfl hl (by decide) rfl (fun ls hl => ?_)
  refine lv_lload_n hx0 hb dJ13_bitCount_95d88_24 rfl (lv_at hl 0 rfl) ?_
  refine lv_lload_n hx0 hb dJ13_bitCount_95d88_25 rfl (lv_at hl 0 rfl) ?_
  refine zv_iconst hx0 hb dJ13_bitCount_95d88_26 ?_
  refine lv_lushr (v := zNL (z23 / 2 ^ 4)) hx0 hb dJ13_bitCount_95d88_27 (zNL_shr (by omega) 4 _ (by decide +kernel) (by decide)) ?_
  rw [show z23 / 2 ^ 4 = z23 / 16 from rfl]
  refine lv_ladd hx0 hb dJ13_bitCount_95d88_28 ?_
  rw [zNL_add]
  refine lv_ldc2 (own := RJ13) (v := zNL 1085102592571150095) hx0 hb hown (hts _ mJ13_bitCount_95d88_318) dJ13_bitCount_95d88_29 ?_
  refine lv_land hx0 hb dJ13_bitCount_95d88_32 ?_
  rw [zNL_and (by omega) (by omega)]
  have g4 : ((z23 + (z23 / 16)) &&& 1085102592571150095) ≤ z23 + (z23 / 16) := Nat.and_le_left
  have h4 : ((z23 + (z23 / 16)) &&& 1085102592571150095) ≤ 1085102592571150095 := Nat.and_le_right
  obtain ⟨y4, e4⟩ : ∃ y, y = ((z23 + (z23 / 16)) &&& 1085102592571150095) := ⟨_, rfl⟩
  rw [← e4]
  rw [← e4] at g4 h4
  obtain ⟨z33, w33⟩ : ∃ z, z = y4 := ⟨_, rfl⟩
  rw [← w33]
  refine lv_lstore_n (lv' := [(0, .long (zNL z33))]) hx0 hb dJ13_bitCount_95d88_33 rfl hl (by decide) rfl (fun ls hl => ?_)
  have hz : z33 = zPA 0x5555555555555555 0x3333333333333333 0x0f0f0f0f0f0f0f0f x := by unfold zPA; rw [w33, e4, w23, e2, e3, w9, e1]
  obtain ⟨p0, p1, p2, p3, p4, p5, p6, p7, ⟨i0, i1, i2, i3, i4, i5, i6, i7⟩, hpa, hpp⟩ := zPA_8 hx
  rw [hpa] at hz
  refine lv_lload_n hx0 hb dJ13_bitCount_95d88_34 rfl (lv_at hl 0 rfl) ?_
  refine lv_lload_n hx0 hb dJ13_bitCount_95d88_35 rfl (lv_at hl 0 rfl) ?_
  refine zv_bipush hx0 hb dJ13_bitCount_95d88_36 (by decide +kernel) ?_
  refine lv_lushr (v := zNL (z33 / 2 ^ 8)) hx0 hb dJ13_bitCount_95d88_38 (zNL_shr (by omega) 8 _ (by decide +kernel) (by decide)) ?_
  rw [show z33 / 2 ^ 8 = z33 / 256 from rfl]
  refine lv_ladd hx0 hb dJ13_bitCount_95d88_39 ?_
  rw [zNL_add]
  obtain ⟨z40, w40⟩ : ∃ z, z = z33 + (z33 / 256) := ⟨_, rfl⟩
  rw [← w40]
  refine lv_lstore_n (lv' := [(0, .long (zNL z40))]) hx0 hb dJ13_bitCount_95d88_40 rfl hl (by decide) rfl (fun ls hl => ?_)
  refine lv_lload_n hx0 hb dJ13_bitCount_95d88_41 rfl (lv_at hl 0 rfl) ?_
  refine lv_lload_n hx0 hb dJ13_bitCount_95d88_42 rfl (lv_at hl 0 rfl) ?_
  refine zv_bipush hx0 hb dJ13_bitCount_95d88_43 (by decide +kernel) ?_
  refine lv_lushr (v := zNL (z40 / 2 ^ 16)) hx0 hb dJ13_bitCount_95d88_45 (zNL_shr (by omega) 16 _ (by decide +kernel) (by decide)) ?_
  rw [show z40 / 2 ^ 16 = z40 / 65536 from rfl]
  refine lv_ladd hx0 hb dJ13_bitCount_95d88_46 ?_
  rw [zNL_add]
  obtain ⟨z47, w47⟩ : ∃ z, z = z40 + (z40 / 65536) := ⟨_, rfl⟩
  rw [← w47]
  refine lv_lstore_n (lv' := [(0, .long (zNL z47))]) hx0 hb dJ13_bitCount_95d88_47 rfl hl (by decide) rfl (fun ls hl => ?_)
  refine lv_lload_n hx0 hb dJ13_bitCount_95d88_48 rfl (lv_at hl 0 rfl) ?_
  refine lv_lload_n hx0 hb dJ13_bitCount_95d88_49 rfl (lv_at hl 0 rfl) ?_
  refine zv_bipush hx0 hb dJ13_bitCount_95d88_50 (by decide +kernel) ?_
  refine lv_lushr (v := zNL (z47 / 2 ^ 32)) hx0 hb dJ13_bitCount_95d88_52 (zNL_shr (by omega) 32 _ (by decide +kernel) (by decide)) ?_
  rw [show z47 / 2 ^ 32 = z47 / 4294967296 from rfl]
  refine lv_ladd hx0 hb dJ13_bitCount_95d88_53 ?_
  rw [zNL_add]
  obtain ⟨z54, w54⟩ : ∃ z, z = z47 + (z47 / 4294967296) := ⟨_, rfl⟩
  rw [← w54]
  refine lv_lstore_n (lv' := [(0, .long (zNL z54))]) hx0 hb dJ13_bitCount_95d88_54 rfl hl (by decide) rfl (fun ls hl => ?_)
  refine lv_lload_n hx0 hb dJ13_bitCount_95d88_55 rfl (lv_at hl 0 rfl) ?_
  refine lv_l2i (v := zN (z54 % 4294967296)) hx0 hb dJ13_bitCount_95d88_56 (zNL_int _) ?_
  refine zv_bipush hx0 hb dJ13_bitCount_95d88_57 (by decide +kernel) ?_
  refine lv_iand hx0 hb dJ13_bitCount_95d88_59 ?_
  rw [show zI 127 = zN 127 from rfl]
  rw [zN_and (by omega) (by omega)]
  have g5 : ((z54 % 4294967296) &&& 127) ≤ z54 % 4294967296 := Nat.and_le_left
  have h5 : ((z54 % 4294967296) &&& 127) ≤ 127 := Nat.and_le_right
  have d2 := zSum8 ⟨i0, i1, i2, i3, i4, i5, i6, i7⟩ hz w40 w47 w54
  clear hz w40 w47
  exact zr_i hx0 hb hr hlocks dJ13_bitCount_95d88_60 (by rw [zN_I, zPop_Cm (n := 64) (m := 64) (by omega) x P hq, hpp, zAnd127]; exact congrArg zI (congrArg Int.ofNat d2))

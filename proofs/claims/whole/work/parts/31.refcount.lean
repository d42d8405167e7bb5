theorem mX10_count_0 : ∀ w ∈ wsX100, w ∈ wsX10_count := by decide +kernel
theorem mX10_count_1 : (Cond.fieldLink RX10 7 "BorderRunsModel" "s" "[I") ∈ wsX10_count := by decide +kernel
theorem mX10_count_2 : (Cond.fieldLink RX10 20 "BorderRunsModel" "states" "I") ∈ wsX10_count := by decide +kernel
theorem mX10_count_3 : (Cond.fieldLink RX10 88 "BorderRunsModel" "typed" "I") ∈ wsX10_count := by decide +kernel
set_option maxHeartbeats 4000000 in
set_option maxRecDepth 100000 in
/-- X10_count -/
theorem kX10_count (l : Launch) (g : zG) (y sa ta oa : Nat) (f gt od : Int → Int) (sv ik tp : Int) (w : Int → Int) (n : Int) (hs : SL f 0 w n) (q : Int) (hq : -2147483648 ≤ q ∧ q < 2147483648) : Met l yX10_count wsX10_count (zRm 6 143) (zP g [.ref y, .int (zI q)] (RM g y sa ta oa f gt od sv ik tp)) (vp_Si (fun v => v = zI (zCnt w n sv tp q))) 0 0 (fun _ => False) := by
  refine Met.ofZ (cc := cX10_count) (maxL := 2) (ret := (some .int)) (by decide) rfl (Nat.le_of_ble_eq_true rfl) ?_
  intro p e s m args below meth c ls hx hb hr hlocks S hin hK hpic hl
  have hown := S.2.2.2.1
  have hts := S.2.2.2.2
  have hl : lv_has ls 2 [(0, .ref y), (1, .int (zI q))] := hl
  obtain ⟨F, G, O, hP, hF, hG, hO, hdis, hrg⟩ := id hpic
  have hn := hs.2.1
  refine lv_iload_n hx hb dX10_count_0 rfl (lv_at hl 1 rfl) ?_
  rcases (show q = 0 ∨ q = 1 ∨ q = 2 ∨ q = 3 ∨ q = 4 ∨ q = 5 ∨ q = 6 ∨ q = 7 ∨ q = 8 ∨ q = 9 ∨ q = 10 ∨ q = 11 ∨ (q < 0 ∨ 11 < q) by omega) with c1 | c1 | c1 | c1 | c1 | c1 | c1 | c1 | c1 | c1 | c1 | c1 | c1
  · subst c1
    refine zv_tableIn (a := 0) (tgt := 64) hx hb dX10_count_1 (by omega) (by omega) (by omega) rfl (by decide) ?_
    refine lv_aload_n hx hb dX10_count_64 rfl (lv_at hl 0 rfl) ?_
    refine va_get (D := g.1) (ci := 5) (v := .ref sa) (C := RX10) (T := TX10) (N := 6) hx hb hts mX10_count_0 hown hK hP 0 rfl rfl 0 (by decide) (hts _ mX10_count_1) (fun _ h9 => h9) rfl dX10_count_65 ?_
    refine zv_iconst hx hb dX10_count_68 ?_
    refine va_iald (D := g.1) hx hb hK hP 1 0 rfl rfl (zI_in (by omega) (by decide)) dX10_count_69 ?_
    rw [zI_cl (by omega)]
    rw [(hF 0 (by omega) (by omega)).1.trans (congrArg zI hs.1)]
    exact zr_i hx hb hr hlocks dX10_count_70 (by unfold zCnt; rw [zIf_t rfl])
  · subst c1
    refine zv_tableIn (a := 1) (tgt := 71) hx hb dX10_count_1 (by omega) (by omega) (by omega) rfl (by decide) ?_
    refine lv_aload_n hx hb dX10_count_71 rfl (lv_at hl 0 rfl) ?_
    refine zc_V (As := []) (rest := []) S hK (kX10_letters l g y sa ta oa f gt od sv ik tp w n hs  ) (cwV 0 hts gX10_count_X10_letters rfl rfl rfl (by decide +kernel) ⟨Nat.le_of_ble_eq_true rfl, Nat.le_of_ble_eq_true rfl⟩) (hpic) (hpic.recv hK) rfl hl.1 rfl (Nat.le_of_ble_eq_true rfl) dX10_count_72 ⟨Nat.zero_le _, Nat.zero_le _⟩ (fun r72 hr72 => ?_)
    obtain ⟨z72, rfl, hz72⟩ := hr72
    exact zr_i hx hb hr hlocks dX10_count_75 (by unfold zCnt; rw [zIf_f (by omega), zIf_t rfl]; exact congrArg zI hz72.1)
  · subst c1
    refine zv_tableIn (a := 2) (tgt := 76) hx hb dX10_count_1 (by omega) (by omega) (by omega) rfl (by decide) ?_
    refine lv_aload_n hx hb dX10_count_76 rfl (lv_at hl 0 rfl) ?_
    refine zv_iconst hx hb dX10_count_77 ?_
    refine lv_aload_n hx hb dX10_count_78 rfl (lv_at hl 0 rfl) ?_
    refine va_get (D := g.1) (ci := 5) (v := .ref sa) (C := RX10) (T := TX10) (N := 6) hx hb hts mX10_count_0 hown hK hP 0 rfl rfl 0 (by decide) (hts _ mX10_count_1) (fun _ h9 => h9) rfl dX10_count_79 ?_
    refine zv_iconst hx hb dX10_count_82 ?_
    refine va_iald (D := g.1) hx hb hK hP 1 0 rfl rfl (zI_in (by omega) (by decide)) dX10_count_83 ?_
    rw [zI_cl (by omega)]
    rw [(hF 0 (by omega) (by omega)).1.trans (congrArg zI hs.1)]
    refine zc_V (As := [.int (zI 0), .int (zI n)]) (rest := []) S hK (kX10_kinds l g y sa ta oa f gt od sv ik tp 0 w n (by omega) hs n (by omega)) (cwV 2 hts gX10_count_X10_kinds rfl rfl rfl (by decide +kernel) ⟨Nat.le_of_ble_eq_true rfl, Nat.le_of_ble_eq_true rfl⟩) (hpic) (hpic.recv hK) rfl hl.1 rfl (Nat.le_of_ble_eq_true rfl) dX10_count_84 ⟨Nat.zero_le _, Nat.zero_le _⟩ (fun r84 hr84 => ?_)
    obtain ⟨z84, rfl, hz84⟩ := hr84
    exact zr_i hx hb hr hlocks dX10_count_87 (by unfold zCnt; rw [zIf_f (by omega), zIf_f (by omega), zIf_t rfl]; exact congrArg zI hz84.1)
  · subst c1
    refine zv_tableIn (a := 3) (tgt := 88) hx hb dX10_count_1 (by omega) (by omega) (by omega) rfl (by decide) ?_
    refine lv_aload_n hx hb dX10_count_88 rfl (lv_at hl 0 rfl) ?_
    refine zc_V (As := []) (rest := []) S hK (kX10_classes l g y sa ta oa f gt od sv ik tp w n hs  ) (cwV 0 hts gX10_count_X10_classes rfl rfl rfl (by decide +kernel) ⟨Nat.le_of_ble_eq_true rfl, Nat.le_of_ble_eq_true rfl⟩) (hpic) (hpic.recv hK) rfl hl.1 rfl (Nat.le_of_ble_eq_true rfl) dX10_count_89 ⟨Nat.zero_le _, Nat.zero_le _⟩ (fun r89 hr89 => ?_)
    obtain ⟨z89, rfl, hz89⟩ := hr89
    exact zr_i hx hb hr hlocks dX10_count_92 (by unfold zCnt; rw [zIf_f (by omega), zIf_f (by omega), zIf_f (by omega), zIf_t rfl]; exact congrArg zI hz89.1)
  · subst c1
    refine zv_tableIn (a := 4) (tgt := 93) hx hb dX10_count_1 (by omega) (by omega) (by omega) rfl (by decide) ?_
    refine lv_aload_n hx hb dX10_count_93 rfl (lv_at hl 0 rfl) ?_
    refine zv_iconst hx hb dX10_count_94 ?_
    refine zv_iconst hx hb dX10_count_95 ?_
    refine zc_V (As := [.int (zI 0), .int (zI (-1))]) (rest := []) S hK (kX10_squares l g y sa ta oa f gt od sv ik tp 0 w n (by omega) hs (-1) (by omega)) (cwV 2 hts gX10_count_X10_squares rfl rfl rfl (by decide +kernel) ⟨Nat.le_of_ble_eq_true rfl, Nat.le_of_ble_eq_true rfl⟩) (hpic) (hpic.recv hK) rfl hl.1 rfl (Nat.le_of_ble_eq_true rfl) dX10_count_96 ⟨Nat.zero_le _, Nat.zero_le _⟩ (fun r96 hr96 => ?_)
    obtain ⟨z96, rfl, hz96⟩ := hr96
    exact zr_i hx hb hr hlocks dX10_count_99 (by unfold zCnt; rw [zIf_f (by omega), zIf_f (by omega), zIf_f (by omega), zIf_f (by omega), zIf_t rfl]; exact congrArg zI (hz96.1.trans (zSsP_all w (by omega))))
  · subst c1
    refine zv_tableIn (a := 5) (tgt := 100) hx hb dX10_count_1 (by omega) (by omega) (by omega) rfl (by decide) ?_
    refine lv_aload_n hx hb dX10_count_100 rfl (lv_at hl 0 rfl) ?_
    refine zv_iconst hx hb dX10_count_101 ?_
    refine zc_V (As := [.int (zI 0)]) (rest := []) S hK (kX10_runs l g y sa ta oa f gt od sv ik tp 0 w n (by omega) hs  ) (cwV 1 hts gX10_count_X10_runs rfl rfl rfl (by decide +kernel) ⟨Nat.le_of_ble_eq_true rfl, Nat.le_of_ble_eq_true rfl⟩) (hpic) (hpic.recv hK) rfl hl.1 rfl (Nat.le_of_ble_eq_true rfl) dX10_count_102 ⟨Nat.zero_le _, Nat.zero_le _⟩ (fun r102 hr102 => ?_)
    obtain ⟨z102, rfl, hz102⟩ := hr102
    exact zr_i hx hb hr hlocks dX10_count_105 (by unfold zCnt; rw [zIf_f (by omega), zIf_f (by omega), zIf_f (by omega), zIf_f (by omega), zIf_f (by omega), zIf_t rfl]; exact congrArg zI hz102.1)
  · subst c1
    refine zv_tableIn (a := 6) (tgt := 106) hx hb dX10_count_1 (by omega) (by omega) (by omega) rfl (by decide) ?_
    refine lv_aload_n hx hb dX10_count_106 rfl (lv_at hl 0 rfl) ?_
    refine zv_iconst hx hb dX10_count_107 ?_
    refine zv_iconst hx hb dX10_count_108 ?_
    refine lv_aload_n hx hb dX10_count_109 rfl (lv_at hl 0 rfl) ?_
    refine va_get (D := g.1) (ci := 5) (v := .ref sa) (C := RX10) (T := TX10) (N := 6) hx hb hts mX10_count_0 hown hK hP 0 rfl rfl 0 (by decide) (hts _ mX10_count_1) (fun _ h9 => h9) rfl dX10_count_110 ?_
    refine zv_iconst hx hb dX10_count_113 ?_
    refine va_iald (D := g.1) hx hb hK hP 1 0 rfl rfl (zI_in (by omega) (by decide)) dX10_count_114 ?_
    rw [zI_cl (by omega)]
    rw [(hF 0 (by omega) (by omega)).1.trans (congrArg zI hs.1)]
    refine lv_aload_n hx hb dX10_count_115 rfl (lv_at hl 0 rfl) ?_
    refine va_get (D := g.1) (ci := 5) (v := .ref sa) (C := RX10) (T := TX10) (N := 6) hx hb hts mX10_count_0 hown hK hP 0 rfl rfl 0 (by decide) (hts _ mX10_count_1) (fun _ h9 => h9) rfl dX10_count_116 ?_
    refine zv_iconst hx hb dX10_count_119 ?_
    refine va_iald (D := g.1) hx hb hK hP 1 0 rfl rfl (zI_in (by omega) (by decide)) dX10_count_120 ?_
    rw [zI_cl (by omega)]
    rw [(hF 0 (by omega) (by omega)).1.trans (congrArg zI hs.1)]
    refine zc_V (As := [.int (zI 0), .int (zI 0), .int (zI n), .int (zI n)]) (rest := []) S hK (kX10_edge l g y sa ta oa f gt od sv ik tp 0 w n (by omega) hs 0 n n (by omega)) (cwV 4 hts gX10_count_X10_edge rfl rfl rfl (by decide +kernel) ⟨Nat.le_of_ble_eq_true rfl, Nat.le_of_ble_eq_true rfl⟩) (hpic) (hpic.recv hK) rfl hl.1 rfl (Nat.le_of_ble_eq_true rfl) dX10_count_121 ⟨Nat.zero_le _, Nat.zero_le _⟩ (fun r121 hr121 => ?_)
    obtain ⟨z121, rfl, hz121⟩ := hr121
    exact zr_i hx hb hr hlocks dX10_count_124 (by unfold zCnt; rw [zIf_f (by omega), zIf_f (by omega), zIf_f (by omega), zIf_f (by omega), zIf_f (by omega), zIf_f (by omega), zIf_t rfl]; exact congrArg zI hz121.1)
  · subst c1
    refine zv_tableIn (a := 7) (tgt := 125) hx hb dX10_count_1 (by omega) (by omega) (by omega) rfl (by decide) ?_
    refine lv_aload_n hx hb dX10_count_125 rfl (lv_at hl 0 rfl) ?_
    refine va_get (D := g.1) (ci := 5) (v := .ref sa) (C := RX10) (T := TX10) (N := 6) hx hb hts mX10_count_0 hown hK hP 0 rfl rfl 0 (by decide) (hts _ mX10_count_1) (fun _ h9 => h9) rfl dX10_count_126 ?_
    refine zv_iconst hx hb dX10_count_129 ?_
    refine va_iald (D := g.1) hx hb hK hP 1 0 rfl rfl (zI_in (by omega) (by decide)) dX10_count_130 ?_
    rw [zI_cl (by omega)]
    rw [(hF 0 (by omega) (by omega)).1.trans (congrArg zI hs.1)]
    refine zv_if_ne (tgt := 138) hx hb dX10_count_131 (by decide) (by omega) (fun c131 => ?_) (fun c131 => ?_)
    · refine lv_aload_n hx hb dX10_count_138 rfl (lv_at hl 0 rfl) ?_
      refine zv_iconst hx hb dX10_count_139 ?_
      refine zv_iconst hx hb dX10_count_140 ?_
      refine lv_aload_n hx hb dX10_count_141 rfl (lv_at hl 0 rfl) ?_
      refine va_get (D := g.1) (ci := 5) (v := .ref sa) (C := RX10) (T := TX10) (N := 6) hx hb hts mX10_count_0 hown hK hP 0 rfl rfl 0 (by decide) (hts _ mX10_count_1) (fun _ h9 => h9) rfl dX10_count_142 ?_
      refine zv_iconst hx hb dX10_count_145 ?_
      refine va_iald (D := g.1) hx hb hK hP 1 0 rfl rfl (zI_in (by omega) (by decide)) dX10_count_146 ?_
      rw [zI_cl (by omega)]
      rw [(hF 0 (by omega) (by omega)).1.trans (congrArg zI hs.1)]
      refine zc_V (As := [.int (zI 0), .int (zI 0), .int (zI n)]) (rest := []) S hK (kX10_period l g y sa ta oa f gt od sv ik tp 0 w n (by omega) hs 0 n (by omega)) (cwV 3 hts gX10_count_X10_period rfl rfl rfl (by decide +kernel) ⟨Nat.le_of_ble_eq_true rfl, Nat.le_of_ble_eq_true rfl⟩) (hpic) (hpic.recv hK) rfl hl.1 rfl (Nat.le_of_ble_eq_true rfl) dX10_count_147 ⟨Nat.zero_le _, Nat.zero_le _⟩ (fun r147 hr147 => ?_)
      obtain ⟨z147, rfl, hz147⟩ := hr147
      exact zr_i hx hb hr hlocks dX10_count_150 (by unfold zCnt; rw [zIf_f (by omega), zIf_f (by omega), zIf_f (by omega), zIf_f (by omega), zIf_f (by omega), zIf_f (by omega), zIf_f (by omega), zIf_t rfl]; exact congrArg zI hz147.1)
    · refine zv_iconst hx hb dX10_count_134 ?_
      refine lv_goto (tgt := 150) hx hb dX10_count_135 (by decide) ?_
      exact zr_i hx hb hr hlocks dX10_count_150 (by unfold zCnt; rw [zIf_f (by omega), zIf_f (by omega), zIf_f (by omega), zIf_f (by omega), zIf_f (by omega), zIf_f (by omega), zIf_f (by omega), zIf_t rfl]; exact congrArg zI (zLP_nil w (by omega)).symm)
  · subst c1
    refine zv_tableIn (a := 8) (tgt := 151) hx hb dX10_count_1 (by omega) (by omega) (by omega) rfl (by decide) ?_
    refine lv_aload_n hx hb dX10_count_151 rfl (lv_at hl 0 rfl) ?_
    refine zc_V (As := []) (rest := []) S hK (kX10_longestTwice l g y sa ta oa f gt od sv ik tp w n hs  ) (cwV 0 hts gX10_count_X10_longestTwice rfl rfl rfl (by decide +kernel) ⟨Nat.le_of_ble_eq_true rfl, Nat.le_of_ble_eq_true rfl⟩) (hpic) (hpic.recv hK) rfl hl.1 rfl (Nat.le_of_ble_eq_true rfl) dX10_count_152 ⟨Nat.zero_le _, Nat.zero_le _⟩ (fun r152 hr152 => ?_)
    obtain ⟨z152, rfl, hz152⟩ := hr152
    exact zr_i hx hb hr hlocks dX10_count_155 (by unfold zCnt; rw [zIf_f (by omega), zIf_f (by omega), zIf_f (by omega), zIf_f (by omega), zIf_f (by omega), zIf_f (by omega), zIf_f (by omega), zIf_f (by omega), zIf_t rfl]; exact congrArg zI hz152.1)
  · subst c1
    refine zv_tableIn (a := 9) (tgt := 156) hx hb dX10_count_1 (by omega) (by omega) (by omega) rfl (by decide) ?_
    refine lv_aload_n hx hb dX10_count_156 rfl (lv_at hl 0 rfl) ?_
    refine zc_V (As := []) (rest := []) S hK (kX10_unlikeSquares l g y sa ta oa f gt od sv ik tp w n hs  ) (cwV 0 hts gX10_count_X10_unlikeSquares rfl rfl rfl (by decide +kernel) ⟨Nat.le_of_ble_eq_true rfl, Nat.le_of_ble_eq_true rfl⟩) (hpic) (hpic.recv hK) rfl hl.1 rfl (Nat.le_of_ble_eq_true rfl) dX10_count_157 ⟨Nat.zero_le _, Nat.zero_le _⟩ (fun r157 hr157 => ?_)
    obtain ⟨z157, rfl, hz157⟩ := hr157
    exact zr_i hx hb hr hlocks dX10_count_160 (by unfold zCnt; rw [zIf_f (by omega), zIf_f (by omega), zIf_f (by omega), zIf_f (by omega), zIf_f (by omega), zIf_f (by omega), zIf_f (by omega), zIf_f (by omega), zIf_f (by omega), zIf_t rfl]; exact congrArg zI hz157.1)
  · subst c1
    refine zv_tableIn (a := 10) (tgt := 161) hx hb dX10_count_1 (by omega) (by omega) (by omega) rfl (by decide) ?_
    refine lv_aload_n hx hb dX10_count_161 rfl (lv_at hl 0 rfl) ?_
    refine va_get (D := g.1) (ci := 5) (v := .int (zI sv)) (C := RX10) (T := TX10) (N := 6) hx hb hts mX10_count_0 hown hK hP 0 rfl rfl 1 (by decide) (hts _ mX10_count_2) (fun _ h9 => h9) rfl dX10_count_162 ?_
    exact zr_i hx hb hr hlocks dX10_count_165 (by unfold zCnt; rw [zIf_f (by omega), zIf_f (by omega), zIf_f (by omega), zIf_f (by omega), zIf_f (by omega), zIf_f (by omega), zIf_f (by omega), zIf_f (by omega), zIf_f (by omega), zIf_f (by omega), zIf_t rfl])
  · subst c1
    refine zv_tableIn (a := 11) (tgt := 166) hx hb dX10_count_1 (by omega) (by omega) (by omega) rfl (by decide) ?_
    refine lv_aload_n hx hb dX10_count_166 rfl (lv_at hl 0 rfl) ?_
    refine va_get (D := g.1) (ci := 5) (v := .int (zI tp)) (C := RX10) (T := TX10) (N := 6) hx hb hts mX10_count_0 hown hK hP 0 rfl rfl 4 (by decide) (hts _ mX10_count_3) (fun _ h9 => h9) rfl dX10_count_167 ?_
    exact zr_i hx hb hr hlocks dX10_count_170 (by unfold zCnt; rw [zIf_f (by omega), zIf_f (by omega), zIf_f (by omega), zIf_f (by omega), zIf_f (by omega), zIf_f (by omega), zIf_f (by omega), zIf_f (by omega), zIf_f (by omega), zIf_f (by omega), zIf_f (by omega), zIf_t rfl])
  · refine zv_tableOut (tgt := 171) hx hb dX10_count_1 (by omega) (by omega) (by decide) ?_
    refine zv_bipush hx hb dX10_count_171 (by decide +kernel) ?_
    exact zr_i hx hb hr hlocks dX10_count_173 (by unfold zCnt; rw [zIf_f (by omega), zIf_f (by omega), zIf_f (by omega), zIf_f (by omega), zIf_f (by omega), zIf_f (by omega), zIf_f (by omega), zIf_f (by omega), zIf_f (by omega), zIf_f (by omega), zIf_f (by omega), zIf_f (by omega)])

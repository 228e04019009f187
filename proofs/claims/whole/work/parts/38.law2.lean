/-! THE LAW'S CASES, by program (wip/whole/z1.py): dancer, lift, firstClash, sleep -/
theorem aw_695 : Cond.methodLink RL 64 yL_dancer ∈ AW := aw_of (List.mem_of_getElem? (i := 188) (by decide +kernel)) (by decide +kernel)
set_option maxRecDepth 100000 in
theorem aw_696 : Cond.codeWith yL_dancer cL_dancer 5 (some .int) [(0, 10, 13, 13), (0, 10, 17, 15)] ∈ AW := aw_of (List.mem_of_getElem? (i := 190) rfl) (by decide +kernel)
theorem aw_697 : Cond.static yL_dancer ∈ AW := aw_of (List.mem_of_getElem? (i := 189) (by decide +kernel)) (by decide +kernel)
theorem ch_RL_64 : e_cwH RL 64 yL_dancer cL_dancer 5 [(0, 10, 13, 13), (0, 10, 17, 15)] 4 := ⟨aw_695, aw_697, aw_598, aw_696, by decide +kernel, by decide +kernel, by decide +kernel⟩
theorem aw_699 : Cond.methodLink RL 69 yX4_dancer ∈ AW := aw_of (List.mem_of_getElem? (i := 775) (by decide +kernel)) (by decide +kernel)
theorem aw_700 : Cond.instanceMethod yX4_dancer ∈ AW := aw_of (List.mem_of_getElem? (i := 776) (by decide +kernel)) (by decide +kernel)
theorem aw_701 : Cond.selects RX4 yX4_dancer yX4_dancer ∈ AW := aw_of (List.mem_of_getElem? (i := 777) (by decide +kernel)) (by decide +kernel)
set_option maxRecDepth 100000 in
theorem aw_702 : Cond.code yX4_dancer cX4_dancer 6 (some .int) ∈ AW := aw_of (List.mem_of_getElem? (i := 778) rfl) (by decide +kernel)
theorem cw_RL_69 : e_cwV RL 69 RX4 yX4_dancer cX4_dancer 6 (some .int) 2 := ⟨aw_699, aw_700, aw_701, aw_4, aw_702, rfl, by decide +kernel, by decide +kernel, by decide +kernel⟩
theorem aw_704 : Cond.methodLink RL 93 yL_lift ∈ AW := aw_of (List.mem_of_getElem? (i := 482) (by decide +kernel)) (by decide +kernel)
set_option maxRecDepth 100000 in
theorem aw_705 : Cond.codeWith yL_lift cL_lift 7 (some .int) [(0, 14, 17, 13), (0, 14, 21, 21), (0, 14, 25, 15)] ∈ AW := aw_of (List.mem_of_getElem? (i := 484) rfl) (by decide +kernel)
theorem aw_706 : Cond.static yL_lift ∈ AW := aw_of (List.mem_of_getElem? (i := 483) (by decide +kernel)) (by decide +kernel)
theorem ch_RL_93 : e_cwH RL 93 yL_lift cL_lift 7 [(0, 14, 17, 13), (0, 14, 21, 21), (0, 14, 25, 15)] 6 := ⟨aw_704, aw_706, aw_598, aw_705, by decide +kernel, by decide +kernel, by decide +kernel⟩
theorem aw_708 : Cond.methodLink RL 95 yX4_lift ∈ AW := aw_of (List.mem_of_getElem? (i := 831) (by decide +kernel)) (by decide +kernel)
theorem aw_709 : Cond.instanceMethod yX4_lift ∈ AW := aw_of (List.mem_of_getElem? (i := 832) (by decide +kernel)) (by decide +kernel)
theorem aw_710 : Cond.selects RX4 yX4_lift yX4_lift ∈ AW := aw_of (List.mem_of_getElem? (i := 833) (by decide +kernel)) (by decide +kernel)
set_option maxRecDepth 100000 in
theorem aw_711 : Cond.code yX4_lift cX4_lift 7 (some .int) ∈ AW := aw_of (List.mem_of_getElem? (i := 834) rfl) (by decide +kernel)
theorem cw_RL_95 : e_cwV RL 95 RX4 yX4_lift cX4_lift 7 (some .int) 4 := ⟨aw_708, aw_709, aw_710, aw_4, aw_711, rfl, by decide +kernel, by decide +kernel, by decide +kernel⟩
theorem aw_713 : Cond.methodLink RL 89 yX3_firstClash ∈ AW := aw_of (List.mem_of_getElem? (i := 127) (by decide +kernel)) (by decide +kernel)
theorem aw_714 : Cond.instanceMethod yX3_firstClash ∈ AW := aw_of (List.mem_of_getElem? (i := 128) (by decide +kernel)) (by decide +kernel)
theorem aw_715 : Cond.selects RX3 yX3_firstClash yX3_firstClash ∈ AW := aw_of (List.mem_of_getElem? (i := 129) (by decide +kernel)) (by decide +kernel)
set_option maxRecDepth 100000 in
theorem aw_716 : Cond.code yX3_firstClash cX3_firstClash 2 (some .int) ∈ AW := aw_of (List.mem_of_getElem? (i := 130) rfl) (by decide +kernel)
theorem cw_RL_89 : e_cwV RL 89 RX3 yX3_firstClash cX3_firstClash 2 (some .int) 0 := ⟨aw_713, aw_714, aw_715, aw_162, aw_716, rfl, by decide +kernel, by decide +kernel, by decide +kernel⟩
theorem aw_718 : Cond.methodLink RL 92 yX4_firstClash ∈ AW := aw_of (List.mem_of_getElem? (i := 827) (by decide +kernel)) (by decide +kernel)
theorem aw_719 : Cond.instanceMethod yX4_firstClash ∈ AW := aw_of (List.mem_of_getElem? (i := 828) (by decide +kernel)) (by decide +kernel)
theorem aw_720 : Cond.selects RX4 yX4_firstClash yX4_firstClash ∈ AW := aw_of (List.mem_of_getElem? (i := 829) (by decide +kernel)) (by decide +kernel)
set_option maxRecDepth 100000 in
theorem aw_721 : Cond.code yX4_firstClash cX4_firstClash 2 (some .int) ∈ AW := aw_of (List.mem_of_getElem? (i := 830) rfl) (by decide +kernel)
theorem cw_RL_92 : e_cwV RL 92 RX4 yX4_firstClash cX4_firstClash 2 (some .int) 0 := ⟨aw_718, aw_719, aw_720, aw_4, aw_721, rfl, by decide +kernel, by decide +kernel, by decide +kernel⟩
theorem aw_723 : Cond.methodLink RL 117 yX3_sleep ∈ AW := aw_of (List.mem_of_getElem? (i := 181) (by decide +kernel)) (by decide +kernel)
theorem aw_724 : Cond.instanceMethod yX3_sleep ∈ AW := aw_of (List.mem_of_getElem? (i := 182) (by decide +kernel)) (by decide +kernel)
theorem aw_725 : Cond.selects RX3 yX3_sleep yX3_sleep ∈ AW := aw_of (List.mem_of_getElem? (i := 183) (by decide +kernel)) (by decide +kernel)
set_option maxRecDepth 100000 in
theorem aw_726 : Cond.code yX3_sleep cX3_sleep 3 (some .int) ∈ AW := aw_of (List.mem_of_getElem? (i := 184) rfl) (by decide +kernel)
theorem cw_RL_117 : e_cwV RL 117 RX3 yX3_sleep cX3_sleep 3 (some .int) 0 := ⟨aw_723, aw_724, aw_725, aw_162, aw_726, rfl, by decide +kernel, by decide +kernel, by decide +kernel⟩
theorem aw_728 : Cond.methodLink RL 120 yX4_sleep ∈ AW := aw_of (List.mem_of_getElem? (i := 909) (by decide +kernel)) (by decide +kernel)
theorem aw_729 : Cond.instanceMethod yX4_sleep ∈ AW := aw_of (List.mem_of_getElem? (i := 910) (by decide +kernel)) (by decide +kernel)
theorem aw_730 : Cond.selects RX4 yX4_sleep yX4_sleep ∈ AW := aw_of (List.mem_of_getElem? (i := 911) (by decide +kernel)) (by decide +kernel)
set_option maxRecDepth 100000 in
theorem aw_731 : Cond.code yX4_sleep cX4_sleep 2 (some .int) ∈ AW := aw_of (List.mem_of_getElem? (i := 912) rfl) (by decide +kernel)
theorem cw_RL_120 : e_cwV RL 120 RX4 yX4_sleep cX4_sleep 2 (some .int) 0 := ⟨aw_728, aw_729, aw_730, aw_4, aw_731, rfl, by decide +kernel, by decide +kernel, by decide +kernel⟩
set_option maxRecDepth 100000 in
set_option maxHeartbeats 4000000 in
theorem law_dancer {p : Program} {l : Launch} {e : Env} {s : State} {m : MethodId} {below : List Frame} {meth : Method} {c : Code} {b L : Nat} {xs : Nat → Int32} {X : eD} {t0 mi i k : Nat} (F : lFix p l s m c b L xs X t0 mi) (hi : i + 4 < L) (hk : k < 599) (next : lGo p l e s m below meth c b X t0 i (k + 1) 1102) : lGo p l e s m below meth c b X t0 i k 112 := by
  intro dn ln ad v H locs ls hWd hl
  obtain ⟨hx, hb, hml, hown, hts, hX, hbl, hl9, hK, hT, hL, hN, hL0⟩ := id F
  obtain ⟨hz, hP, hI, hS, hR, h11⟩ := hWd
  have h8 := hR.d8
  have h12 := hR.l12
  obtain ⟨ad, hP, hI, h11, hl, q3, q4⟩ := fr_d (a0 := H.size) h8 h12 hP hI h11 hl
  rcases Nat.eq_zero_or_pos dn with rfl | hpos
  · skip
    obtain ⟨v9, h0, h1⟩ : ∃ v9 : eV, (cDancerC v 0 (xs (i + 1)) (xs (i + 2)) = 0 → e_set (e_z (e_set (vD v (20 + 7 * 0) (xs (i + 1)) (xs (i + 2))) 1 0 (vD v (20 + 7 * 0) (xs (i + 1)) (xs (i + 2)) 1 0 + 1)) 8) 120 0 (nI 0) = v9) ∧ (¬ cDancerC v 0 (xs (i + 1)) (xs (i + 2)) = 0 → v = v9) := ex_v _ _
    obtain ⟨n9, g0, g1⟩ : ∃ n9 : Nat, (cDancerC v 0 (xs (i + 1)) (xs (i + 2)) = 0 → 0 + 1 = n9) ∧ (¬ cDancerC v 0 (xs (i + 1)) (xs (i + 2)) = 0 → 0 = n9) := ex_v _ _
    refine lv_aload_n hx hb dL_law_112 rfl (lv_at hl 1 rfl) ?_
    refine l_arg (j := 1) F dL_law_113 dL_law_114 dL_law_116 dL_law_117 dL_law_118 (by decide) hi hl (lv_sub hl [0, 4] rfl) hS ?_
    refine l_arg (j := 2) F dL_law_119 dL_law_120 dL_law_122 dL_law_123 dL_law_124 (by decide) hi hl (lv_sub hl [0, 4] rfl) hS ?_
    refine lv_aload_n hx hb dL_law_125 rfl (lv_at hl 3 rfl) ?_
    refine e_cSH (As := [.ref (ad 0), .int (xs (i + 1)), .int (xs (i + 2)), .ref (ad 120)]) (rest := []) (kd' := KD n9 ln) (sp' := SP n9 ln) (v' := v9) hx hb hml hown hts hT hL hN (c_L_dancer_dancer0 (l := l) hl9 (v := v) (t0 := t0) (mi := mi) (a0 := H.size) (KD_cK h8 h12) (xs (i + 1)) (xs (i + 2)) (fun h k hk => KD_d0 (dn := 0) h8 (by show 20 + 7 * 0 ≤ 20 + 7 * 0 + k; omega) (by show 20 + 7 * 0 + k < 80; omega)) q3 (KD_u6 h8 h12) rfl rfl (fun m hm => by have := (KD_u7 h8 h12 m hm).2; omega) rfl rfl h11 (q4 rfl) rfl (kd9 := KD n9 ln) (sp9 := SP n9 ln) (v9 := v9) (fun g => ⟨by rw [← g0 g]; exact KD_dancer0, by rw [← g0 g]; exact SP_dancer0, h0 g⟩) (fun g => ⟨by rw [← g1 g], by rw [← g1 g], h1 g⟩)) ch_RL_64 (Nat.le_of_ble_eq_true rfl) (Nat.le_of_ble_eq_true rfl) hz hP hI hK hS rfl hl.1 rfl (Nat.le_of_ble_eq_true rfl) ⟨by show 40 + 60 * k + 60 ≤ 603072; omega, by show 2000 + 2000 * k + 2000 ≤ 7219306; omega⟩ dL_law_126 (fun H locs hz1 hP hI hS => ?_)
    have hz := Nat.le_trans hz hz1
    refine W.widen (k := 40 + 60 * (k + 1)) (n := 2000 + 2000 * (k + 1)) (by omega) (by omega) ?_
    obtain ⟨s1, s2, s3, s4⟩ := s_dancer hR (xs (i + 1)) (xs (i + 2)) (C := e_z (e_set (vD v (20 + 7 * 0) (xs (i + 1)) (xs (i + 2))) 1 0 (vD v (20 + 7 * 0) (xs (i + 1)) (xs (i + 2)) 1 0 + 1)) 8) (fun g => ⟨fun n n1 n2 => (e_z_n n2).trans (es_ne n1), (h0 g).symm⟩) h1
    refine lv_istore (lv' := [(5, .int (cDancerC v 0 (xs (i + 1)) (xs (i + 2)))), (0, .ref b), (1, .ref (ad 0)), (2, .ref (ad 100)), (3, .ref (ad 120)), (4, .int (nI i))]) hx hb dL_law_129 hl (by decide) rfl (fun ls hl => ?_)
    refine lv_aload_n hx hb dL_law_131 rfl (lv_at hl 3 rfl) ?_
    skip
    refine l_arg (j := 1) F dL_law_132 dL_law_133 dL_law_135 dL_law_136 dL_law_137 (by decide) hi hl (lv_sub hl [1, 5] rfl) hS ?_
    refine l_arg (j := 2) F dL_law_138 dL_law_139 dL_law_141 dL_law_142 dL_law_143 (by decide) hi hl (lv_sub hl [1, 5] rfl) hS ?_
    refine e_cVM (As := [.int (xs (i + 1)), .int (xs (i + 2))]) (rest := []) hx hb hml hown hts 100 (c_X4_dancer (l := l) (v := v9) 0 ln KD_mK s1 (xs (i + 1)) (xs (i + 2))) cw_RL_69 (Nat.le_of_ble_eq_true rfl) (Nat.le_of_ble_eq_true rfl) hz hP hI hK hS (KD_mK 100 (by decide) (by decide)) (by decide) rfl rfl rfl hl.1 rfl (Nat.le_of_ble_eq_true rfl) ⟨by show 40 + 60 * (k + 1) + 0 ≤ 603072; omega, by show 2000 + 2000 * (k + 1) + 0 ≤ 7219306; omega⟩ dL_law_144 (fun H locs hz hP hS => ?_)
    refine lv_istore (lv' := [(6, .int (mDancerV v9 0 (xs (i + 1)) (xs (i + 2)))), (5, .int (cDancerC v 0 (xs (i + 1)) (xs (i + 2)))), (0, .ref b), (1, .ref (ad 0)), (2, .ref (ad 100)), (3, .ref (ad 120)), (4, .int (nI i))]) hx hb dL_law_147 hl (by decide) rfl (fun ls hl => ?_)
    refine l_tail F dL_law_149 dL_law_150 dL_law_153 dL_law_155 dL_law_160 dL_law_162 dL_law_165 dL_law_166 dL_law_167 dL_law_168 dL_law_170 dL_law_171 dL_law_172 dL_law_177 (by decide) (by omega) cw_RL_70 hz hP hI KD_mK rfl s2 (fun g => (s3 g).1) (lv_sub hl [0, 1, 4, 5] rfl) ?_
    by_cases g : cDancerC v 0 (xs (i + 1)) (xs (i + 2)) = 0
    · obtain rfl := g0 g
      exact next (0 + 1) ln ad _ H locs ls ⟨hz, hP, hI, hS, (s3 g).2, h11⟩ (lv_sub hl [2, 3, 4, 5, 6] rfl)
    · obtain rfl := g1 g
      exact next 0 ln ad _ H locs ls ⟨hz, hP, hI, hS, s4 g, h11⟩ (lv_sub hl [2, 3, 4, 5, 6] rfl)
  · skip
    obtain ⟨v9, h0, h1⟩ : ∃ v9 : eV, (cDancerC v dn (xs (i + 1)) (xs (i + 2)) = 0 → e_set (e_set (vD v (20 + 7 * dn) (xs (i + 1)) (xs (i + 2))) 1 0 (vD v (20 + 7 * dn) (xs (i + 1)) (xs (i + 2)) 1 0 + 1)) 120 0 (nI dn) = v9) ∧ (¬ cDancerC v dn (xs (i + 1)) (xs (i + 2)) = 0 → v = v9) := ex_v _ _
    obtain ⟨n9, g0, g1⟩ : ∃ n9 : Nat, (cDancerC v dn (xs (i + 1)) (xs (i + 2)) = 0 → dn + 1 = n9) ∧ (¬ cDancerC v dn (xs (i + 1)) (xs (i + 2)) = 0 → dn = n9) := ex_v _ _
    refine lv_aload_n hx hb dL_law_112 rfl (lv_at hl 1 rfl) ?_
    refine l_arg (j := 1) F dL_law_113 dL_law_114 dL_law_116 dL_law_117 dL_law_118 (by decide) hi hl (lv_sub hl [0, 4] rfl) hS ?_
    refine l_arg (j := 2) F dL_law_119 dL_law_120 dL_law_122 dL_law_123 dL_law_124 (by decide) hi hl (lv_sub hl [0, 4] rfl) hS ?_
    refine lv_aload_n hx hb dL_law_125 rfl (lv_at hl 3 rfl) ?_
    refine e_cSH (As := [.ref (ad 0), .int (xs (i + 1)), .int (xs (i + 2)), .ref (ad 120)]) (rest := []) (kd' := KD n9 ln) (sp' := SP n9 ln) (v' := v9) hx hb hml hown hts hT hL hN (c_L_dancer_dancer1 (l := l) hl9 (v := v) (t0 := t0) (mi := mi) (a0 := H.size) (KD_cK h8 h12) (xs (i + 1)) (xs (i + 2)) (fun h k hk => KD_d0 (dn := dn) h8 (by show 20 + 7 * dn ≤ 20 + 7 * dn + k; omega) (by have h : dn < 8 := h; show 20 + 7 * dn + k < 80; omega)) q3 (KD_u6 h8 h12) rfl hpos (fun m hm => (KD_u7 h8 h12 m hm).1.trans (if_pos hpos).symm) (if_pos hpos) rfl (kd9 := KD n9 ln) (sp9 := SP n9 ln) (v9 := v9) (fun g => ⟨by rw [← g0 g]; exact KD_dancer1 hpos (dc_lt hR g), by rw [← g0 g]; exact SP_dancer1 hpos, h0 g⟩) (fun g => ⟨by rw [← g1 g], by rw [← g1 g], h1 g⟩)) ch_RL_64 (Nat.le_of_ble_eq_true rfl) (Nat.le_of_ble_eq_true rfl) hz hP hI hK hS rfl hl.1 rfl (Nat.le_of_ble_eq_true rfl) ⟨by show 40 + 60 * k + 60 ≤ 603072; omega, by show 2000 + 2000 * k + 2000 ≤ 7219306; omega⟩ dL_law_126 (fun H locs hz1 hP hI hS => ?_)
    have hz := Nat.le_trans hz hz1
    refine W.widen (k := 40 + 60 * (k + 1)) (n := 2000 + 2000 * (k + 1)) (by omega) (by omega) ?_
    obtain ⟨s1, s2, s3, s4⟩ := s_dancer hR (xs (i + 1)) (xs (i + 2)) (C := e_set (vD v (20 + 7 * dn) (xs (i + 1)) (xs (i + 2))) 1 0 (vD v (20 + 7 * dn) (xs (i + 1)) (xs (i + 2)) 1 0 + 1)) (fun g => ⟨fun n n1 n2 => es_ne n1, (h0 g).symm⟩) h1
    refine lv_istore (lv' := [(5, .int (cDancerC v dn (xs (i + 1)) (xs (i + 2)))), (0, .ref b), (1, .ref (ad 0)), (2, .ref (ad 100)), (3, .ref (ad 120)), (4, .int (nI i))]) hx hb dL_law_129 hl (by decide) rfl (fun ls hl => ?_)
    refine lv_aload_n hx hb dL_law_131 rfl (lv_at hl 3 rfl) ?_
    skip
    refine l_arg (j := 1) F dL_law_132 dL_law_133 dL_law_135 dL_law_136 dL_law_137 (by decide) hi hl (lv_sub hl [1, 5] rfl) hS ?_
    refine l_arg (j := 2) F dL_law_138 dL_law_139 dL_law_141 dL_law_142 dL_law_143 (by decide) hi hl (lv_sub hl [1, 5] rfl) hS ?_
    refine e_cVM (As := [.int (xs (i + 1)), .int (xs (i + 2))]) (rest := []) hx hb hml hown hts 100 (c_X4_dancer (l := l) (v := v9) dn ln KD_mK s1 (xs (i + 1)) (xs (i + 2))) cw_RL_69 (Nat.le_of_ble_eq_true rfl) (Nat.le_of_ble_eq_true rfl) hz hP hI hK hS (KD_mK 100 (by decide) (by decide)) (by decide) rfl rfl rfl hl.1 rfl (Nat.le_of_ble_eq_true rfl) ⟨by show 40 + 60 * (k + 1) + 0 ≤ 603072; omega, by show 2000 + 2000 * (k + 1) + 0 ≤ 7219306; omega⟩ dL_law_144 (fun H locs hz hP hS => ?_)
    refine lv_istore (lv' := [(6, .int (mDancerV v9 dn (xs (i + 1)) (xs (i + 2)))), (5, .int (cDancerC v dn (xs (i + 1)) (xs (i + 2)))), (0, .ref b), (1, .ref (ad 0)), (2, .ref (ad 100)), (3, .ref (ad 120)), (4, .int (nI i))]) hx hb dL_law_147 hl (by decide) rfl (fun ls hl => ?_)
    refine l_tail F dL_law_149 dL_law_150 dL_law_153 dL_law_155 dL_law_160 dL_law_162 dL_law_165 dL_law_166 dL_law_167 dL_law_168 dL_law_170 dL_law_171 dL_law_172 dL_law_177 (by decide) (by omega) cw_RL_70 hz hP hI KD_mK rfl s2 (fun g => (s3 g).1) (lv_sub hl [0, 1, 4, 5] rfl) ?_
    by_cases g : cDancerC v dn (xs (i + 1)) (xs (i + 2)) = 0
    · obtain rfl := g0 g
      exact next (dn + 1) ln ad _ H locs ls ⟨hz, hP, hI, hS, (s3 g).2, h11⟩ (lv_sub hl [2, 3, 4, 5, 6] rfl)
    · obtain rfl := g1 g
      exact next dn ln ad _ H locs ls ⟨hz, hP, hI, hS, s4 g, h11⟩ (lv_sub hl [2, 3, 4, 5, 6] rfl)
set_option maxRecDepth 100000 in
set_option maxHeartbeats 4000000 in
theorem law_lift {p : Program} {l : Launch} {e : Env} {s : State} {m : MethodId} {below : List Frame} {meth : Method} {c : Code} {b L : Nat} {xs : Nat → Int32} {X : eD} {t0 mi i k : Nat} (F : lFix p l s m c b L xs X t0 mi) (hi : i + 4 < L) (hk : k < 599) (next : lGo p l e s m below meth c b X t0 i (k + 1) 1102) : lGo p l e s m below meth c b X t0 i k 533 := by
  intro dn ln ad v H locs ls hWd hl
  obtain ⟨hx, hb, hml, hown, hts, hX, hbl, hl9, hK, hT, hL, hN, hL0⟩ := id F
  obtain ⟨hz, hP, hI, hS, hR, h11⟩ := hWd
  have h8 := hR.d8
  have h12 := hR.l12
  obtain ⟨ad, hP, hI, h11, hl, q3, q4, q5⟩ := fr_l (a0 := H.size) h8 h12 hP hI h11 hl
  by_cases e0 : ln = 0
  · subst e0
    obtain ⟨v9, h0, h1⟩ : ∃ v9 : eV, (cLiftC v dn 0 (xs (i + 1)) (xs (i + 2)) (xs (i + 3)) (xs (i + 4)) = 0 → e_set (e_z (e_set (vL v (80 + 0) (xs (i + 1)) (xs (i + 2)) (xs (i + 3)) (xs (i + 4))) 2 0 (vL v (80 + 0) (xs (i + 1)) (xs (i + 2)) (xs (i + 3)) (xs (i + 4)) 2 0 + 1)) 9) 120 0 (nI 0) = v9) ∧ (¬ cLiftC v dn 0 (xs (i + 1)) (xs (i + 2)) (xs (i + 3)) (xs (i + 4)) = 0 → v = v9) := ex_v _ _
    obtain ⟨n9, g0, g1⟩ : ∃ n9 : Nat, (cLiftC v dn 0 (xs (i + 1)) (xs (i + 2)) (xs (i + 3)) (xs (i + 4)) = 0 → 0 + 1 = n9) ∧ (¬ cLiftC v dn 0 (xs (i + 1)) (xs (i + 2)) (xs (i + 3)) (xs (i + 4)) = 0 → 0 = n9) := ex_v _ _
    refine lv_aload_n hx hb dL_law_533 rfl (lv_at hl 1 rfl) ?_
    refine l_arg (j := 1) F dL_law_534 dL_law_535 dL_law_537 dL_law_538 dL_law_539 (by decide) hi hl (lv_sub hl [0, 4] rfl) hS ?_
    refine l_arg (j := 2) F dL_law_540 dL_law_541 dL_law_543 dL_law_544 dL_law_545 (by decide) hi hl (lv_sub hl [0, 4] rfl) hS ?_
    refine l_arg (j := 3) F dL_law_546 dL_law_547 dL_law_549 dL_law_550 dL_law_551 (by decide) hi hl (lv_sub hl [0, 4] rfl) hS ?_
    refine l_arg (j := 4) F dL_law_552 dL_law_553 dL_law_555 dL_law_556 dL_law_557 (by decide) hi hl (lv_sub hl [0, 4] rfl) hS ?_
    refine lv_aload_n hx hb dL_law_558 rfl (lv_at hl 3 rfl) ?_
    refine e_cSH (As := [.ref (ad 0), .int (xs (i + 1)), .int (xs (i + 2)), .int (xs (i + 3)), .int (xs (i + 4)), .ref (ad 120)]) (rest := []) (kd' := KD dn n9) (sp' := SP dn n9) (v' := v9) hx hb hml hown hts hT hL hN (c_L_lift_lift0 (l := l) hl9 (v := v) (t0 := t0) (mi := mi) (a0 := H.size) (KD_cK h8 h12) hR.cI (xs (i + 1)) (xs (i + 2)) (xs (i + 3)) (xs (i + 4)) (fun h => KD_l0 (ln := 0) (Nat.le_refl _) (show 80 + 0 < 100 by decide)) q3 (KD_u8 h8 h12) rfl rfl (fun m hm => by have := (KD_u9 h8 h12 m hm).1; omega) rfl rfl h11 (q4 rfl) rfl (kd9 := KD dn n9) (sp9 := SP dn n9) (v9 := v9) (fun g => ⟨by rw [← g0 g]; exact KD_lift0, by rw [← g0 g]; exact SP_lift0, h0 g⟩) (fun g => ⟨by rw [← g1 g], by rw [← g1 g], h1 g⟩)) ch_RL_93 (Nat.le_of_ble_eq_true rfl) (Nat.le_of_ble_eq_true rfl) hz hP hI hK hS rfl hl.1 rfl (Nat.le_of_ble_eq_true rfl) ⟨by show 40 + 60 * k + 60 ≤ 603072; omega, by show 2000 + 2000 * k + 2000 ≤ 7219306; omega⟩ dL_law_559 (fun H locs hz1 hP hI hS => ?_)
    have hz := Nat.le_trans hz hz1
    refine W.widen (k := 40 + 60 * (k + 1)) (n := 2000 + 2000 * (k + 1)) (by omega) (by omega) ?_
    obtain ⟨s1, s2, s3, s4⟩ := s_lift hR (xs (i + 1)) (xs (i + 2)) (xs (i + 3)) (xs (i + 4)) (C := e_z (e_set (vL v (80 + 0) (xs (i + 1)) (xs (i + 2)) (xs (i + 3)) (xs (i + 4))) 2 0 (vL v (80 + 0) (xs (i + 1)) (xs (i + 2)) (xs (i + 3)) (xs (i + 4)) 2 0 + 1)) 9) (fun g => ⟨fun n n1 n2 n3 => (e_z_n n2).trans (es_ne n1), (h0 g).symm⟩) h1
    refine lv_istore (lv' := [(5, .int (cLiftC v dn 0 (xs (i + 1)) (xs (i + 2)) (xs (i + 3)) (xs (i + 4)))), (0, .ref b), (1, .ref (ad 0)), (2, .ref (ad 100)), (3, .ref (ad 120)), (4, .int (nI i))]) hx hb dL_law_562 hl (by decide) rfl (fun ls hl => ?_)
    refine lv_aload_n hx hb dL_law_564 rfl (lv_at hl 3 rfl) ?_
    skip
    refine l_arg (j := 1) F dL_law_565 dL_law_566 dL_law_568 dL_law_569 dL_law_570 (by decide) hi hl (lv_sub hl [1, 5] rfl) hS ?_
    refine l_arg (j := 2) F dL_law_571 dL_law_572 dL_law_574 dL_law_575 dL_law_576 (by decide) hi hl (lv_sub hl [1, 5] rfl) hS ?_
    refine l_arg (j := 3) F dL_law_577 dL_law_578 dL_law_580 dL_law_581 dL_law_582 (by decide) hi hl (lv_sub hl [1, 5] rfl) hS ?_
    refine l_arg (j := 4) F dL_law_583 dL_law_584 dL_law_586 dL_law_587 dL_law_588 (by decide) hi hl (lv_sub hl [1, 5] rfl) hS ?_
    refine e_cVM (As := [.int (xs (i + 1)), .int (xs (i + 2)), .int (xs (i + 3)), .int (xs (i + 4))]) (rest := []) hx hb hml hown hts 100 (c_X4_lift (l := l) (v := v9) dn 0 KD_mK s1 (xs (i + 1)) (xs (i + 2)) (xs (i + 3)) (xs (i + 4))) cw_RL_95 (Nat.le_of_ble_eq_true rfl) (Nat.le_of_ble_eq_true rfl) hz hP hI hK hS (KD_mK 100 (by decide) (by decide)) (by decide) rfl rfl rfl hl.1 rfl (Nat.le_of_ble_eq_true rfl) ⟨by show 40 + 60 * (k + 1) + 0 ≤ 603072; omega, by show 2000 + 2000 * (k + 1) + 0 ≤ 7219306; omega⟩ dL_law_589 (fun H locs hz hP hS => ?_)
    refine lv_istore (lv' := [(6, .int (mLiftV v9 dn 0 (xs (i + 1)) (xs (i + 2)) (xs (i + 3)) (xs (i + 4)))), (5, .int (cLiftC v dn 0 (xs (i + 1)) (xs (i + 2)) (xs (i + 3)) (xs (i + 4)))), (0, .ref b), (1, .ref (ad 0)), (2, .ref (ad 100)), (3, .ref (ad 120)), (4, .int (nI i))]) hx hb dL_law_592 hl (by decide) rfl (fun ls hl => ?_)
    refine l_tail F dL_law_594 dL_law_595 dL_law_598 dL_law_600 dL_law_605 dL_law_607 dL_law_610 dL_law_611 dL_law_612 dL_law_613 dL_law_615 dL_law_616 dL_law_617 dL_law_622 (by decide) (by omega) cw_RL_70 hz hP hI KD_mK rfl s2 (fun g => (s3 g).1) (lv_sub hl [0, 1, 4, 5] rfl) ?_
    by_cases g : cLiftC v dn 0 (xs (i + 1)) (xs (i + 2)) (xs (i + 3)) (xs (i + 4)) = 0
    · obtain rfl := g0 g
      exact next dn (0 + 1) ad _ H locs ls ⟨hz, hP, hI, hS, (s3 g).2, h11⟩ (lv_sub hl [2, 3, 4, 5, 6] rfl)
    · obtain rfl := g1 g
      exact next dn 0 ad _ H locs ls ⟨hz, hP, hI, hS, s4 g, h11⟩ (lv_sub hl [2, 3, 4, 5, 6] rfl)
  by_cases e10 : ln = 10
  · subst e10
    obtain ⟨v9, h0, h1⟩ : ∃ v9 : eV, (cLiftC v dn 10 (xs (i + 1)) (xs (i + 2)) (xs (i + 3)) (xs (i + 4)) = 0 → e_set (e_z (e_set (vL v (80 + 10) (xs (i + 1)) (xs (i + 2)) (xs (i + 3)) (xs (i + 4))) 2 0 (vL v (80 + 10) (xs (i + 1)) (xs (i + 2)) (xs (i + 3)) (xs (i + 4)) 2 0 + 1)) 10) 120 0 (nI 10) = v9) ∧ (¬ cLiftC v dn 10 (xs (i + 1)) (xs (i + 2)) (xs (i + 3)) (xs (i + 4)) = 0 → v = v9) := ex_v _ _
    obtain ⟨n9, g0, g1⟩ : ∃ n9 : Nat, (cLiftC v dn 10 (xs (i + 1)) (xs (i + 2)) (xs (i + 3)) (xs (i + 4)) = 0 → 10 + 1 = n9) ∧ (¬ cLiftC v dn 10 (xs (i + 1)) (xs (i + 2)) (xs (i + 3)) (xs (i + 4)) = 0 → 10 = n9) := ex_v _ _
    refine lv_aload_n hx hb dL_law_533 rfl (lv_at hl 1 rfl) ?_
    refine l_arg (j := 1) F dL_law_534 dL_law_535 dL_law_537 dL_law_538 dL_law_539 (by decide) hi hl (lv_sub hl [0, 4] rfl) hS ?_
    refine l_arg (j := 2) F dL_law_540 dL_law_541 dL_law_543 dL_law_544 dL_law_545 (by decide) hi hl (lv_sub hl [0, 4] rfl) hS ?_
    refine l_arg (j := 3) F dL_law_546 dL_law_547 dL_law_549 dL_law_550 dL_law_551 (by decide) hi hl (lv_sub hl [0, 4] rfl) hS ?_
    refine l_arg (j := 4) F dL_law_552 dL_law_553 dL_law_555 dL_law_556 dL_law_557 (by decide) hi hl (lv_sub hl [0, 4] rfl) hS ?_
    refine lv_aload_n hx hb dL_law_558 rfl (lv_at hl 3 rfl) ?_
    refine e_cSH (As := [.ref (ad 0), .int (xs (i + 1)), .int (xs (i + 2)), .int (xs (i + 3)), .int (xs (i + 4)), .ref (ad 120)]) (rest := []) (kd' := KD dn n9) (sp' := SP dn n9) (v' := v9) hx hb hml hown hts hT hL hN (c_L_lift_lift2 (l := l) hl9 (v := v) (t0 := t0) (mi := mi) (a0 := H.size) (KD_cK h8 h12) hR.cI (xs (i + 1)) (xs (i + 2)) (xs (i + 3)) (xs (i + 4)) (fun h => KD_l0 (ln := 10) (Nat.le_refl _) (show 80 + 10 < 100 by decide)) q3 (KD_u8 h8 h12) rfl rfl rfl rfl rfl (fun m hm => (KD_u9 h8 h12 m hm).2) (KD_u16 h8 h12) rfl rfl (fun i hi => KD_l (ln := 10) (by decide) hi) (q5 rfl) rfl (kd9 := KD dn n9) (sp9 := SP dn n9) (v9 := v9) (fun g => ⟨by rw [← g0 g]; exact KD_lift2, by rw [← g0 g]; exact SP_lift2, h0 g⟩) (fun g => ⟨by rw [← g1 g], by rw [← g1 g], h1 g⟩)) ch_RL_93 (Nat.le_of_ble_eq_true rfl) (Nat.le_of_ble_eq_true rfl) hz hP hI hK hS rfl hl.1 rfl (Nat.le_of_ble_eq_true rfl) ⟨by show 40 + 60 * k + 60 ≤ 603072; omega, by show 2000 + 2000 * k + 2000 ≤ 7219306; omega⟩ dL_law_559 (fun H locs hz1 hP hI hS => ?_)
    have hz := Nat.le_trans hz hz1
    refine W.widen (k := 40 + 60 * (k + 1)) (n := 2000 + 2000 * (k + 1)) (by omega) (by omega) ?_
    obtain ⟨s1, s2, s3, s4⟩ := s_lift hR (xs (i + 1)) (xs (i + 2)) (xs (i + 3)) (xs (i + 4)) (C := e_z (e_set (vL v (80 + 10) (xs (i + 1)) (xs (i + 2)) (xs (i + 3)) (xs (i + 4))) 2 0 (vL v (80 + 10) (xs (i + 1)) (xs (i + 2)) (xs (i + 3)) (xs (i + 4)) 2 0 + 1)) 10) (fun g => ⟨fun n n1 n2 n3 => (e_z_n n3).trans (es_ne n1), (h0 g).symm⟩) h1
    refine lv_istore (lv' := [(5, .int (cLiftC v dn 10 (xs (i + 1)) (xs (i + 2)) (xs (i + 3)) (xs (i + 4)))), (0, .ref b), (1, .ref (ad 0)), (2, .ref (ad 100)), (3, .ref (ad 120)), (4, .int (nI i))]) hx hb dL_law_562 hl (by decide) rfl (fun ls hl => ?_)
    refine lv_aload_n hx hb dL_law_564 rfl (lv_at hl 3 rfl) ?_
    skip
    refine l_arg (j := 1) F dL_law_565 dL_law_566 dL_law_568 dL_law_569 dL_law_570 (by decide) hi hl (lv_sub hl [1, 5] rfl) hS ?_
    refine l_arg (j := 2) F dL_law_571 dL_law_572 dL_law_574 dL_law_575 dL_law_576 (by decide) hi hl (lv_sub hl [1, 5] rfl) hS ?_
    refine l_arg (j := 3) F dL_law_577 dL_law_578 dL_law_580 dL_law_581 dL_law_582 (by decide) hi hl (lv_sub hl [1, 5] rfl) hS ?_
    refine l_arg (j := 4) F dL_law_583 dL_law_584 dL_law_586 dL_law_587 dL_law_588 (by decide) hi hl (lv_sub hl [1, 5] rfl) hS ?_
    refine e_cVM (As := [.int (xs (i + 1)), .int (xs (i + 2)), .int (xs (i + 3)), .int (xs (i + 4))]) (rest := []) hx hb hml hown hts 100 (c_X4_lift (l := l) (v := v9) dn 10 KD_mK s1 (xs (i + 1)) (xs (i + 2)) (xs (i + 3)) (xs (i + 4))) cw_RL_95 (Nat.le_of_ble_eq_true rfl) (Nat.le_of_ble_eq_true rfl) hz hP hI hK hS (KD_mK 100 (by decide) (by decide)) (by decide) rfl rfl rfl hl.1 rfl (Nat.le_of_ble_eq_true rfl) ⟨by show 40 + 60 * (k + 1) + 0 ≤ 603072; omega, by show 2000 + 2000 * (k + 1) + 0 ≤ 7219306; omega⟩ dL_law_589 (fun H locs hz hP hS => ?_)
    refine lv_istore (lv' := [(6, .int (mLiftV v9 dn 10 (xs (i + 1)) (xs (i + 2)) (xs (i + 3)) (xs (i + 4)))), (5, .int (cLiftC v dn 10 (xs (i + 1)) (xs (i + 2)) (xs (i + 3)) (xs (i + 4)))), (0, .ref b), (1, .ref (ad 0)), (2, .ref (ad 100)), (3, .ref (ad 120)), (4, .int (nI i))]) hx hb dL_law_592 hl (by decide) rfl (fun ls hl => ?_)
    refine l_tail F dL_law_594 dL_law_595 dL_law_598 dL_law_600 dL_law_605 dL_law_607 dL_law_610 dL_law_611 dL_law_612 dL_law_613 dL_law_615 dL_law_616 dL_law_617 dL_law_622 (by decide) (by omega) cw_RL_70 hz hP hI KD_mK rfl s2 (fun g => (s3 g).1) (lv_sub hl [0, 1, 4, 5] rfl) ?_
    by_cases g : cLiftC v dn 10 (xs (i + 1)) (xs (i + 2)) (xs (i + 3)) (xs (i + 4)) = 0
    · obtain rfl := g0 g
      exact next dn (10 + 1) ad _ H locs ls ⟨hz, hP, hI, hS, (s3 g).2, h11⟩ (lv_sub hl [2, 3, 4, 5, 6] rfl)
    · obtain rfl := g1 g
      exact next dn 10 ad _ H locs ls ⟨hz, hP, hI, hS, s4 g, h11⟩ (lv_sub hl [2, 3, 4, 5, 6] rfl)
  have hpos : 0 < ln := by omega
  obtain ⟨v9, h0, h1⟩ : ∃ v9 : eV, (cLiftC v dn ln (xs (i + 1)) (xs (i + 2)) (xs (i + 3)) (xs (i + 4)) = 0 → e_set (e_set (vL v (80 + ln) (xs (i + 1)) (xs (i + 2)) (xs (i + 3)) (xs (i + 4))) 2 0 (vL v (80 + ln) (xs (i + 1)) (xs (i + 2)) (xs (i + 3)) (xs (i + 4)) 2 0 + 1)) 120 0 (nI ln) = v9) ∧ (¬ cLiftC v dn ln (xs (i + 1)) (xs (i + 2)) (xs (i + 3)) (xs (i + 4)) = 0 → v = v9) := ex_v _ _
  obtain ⟨n9, g0, g1⟩ : ∃ n9 : Nat, (cLiftC v dn ln (xs (i + 1)) (xs (i + 2)) (xs (i + 3)) (xs (i + 4)) = 0 → ln + 1 = n9) ∧ (¬ cLiftC v dn ln (xs (i + 1)) (xs (i + 2)) (xs (i + 3)) (xs (i + 4)) = 0 → ln = n9) := ex_v _ _
  refine lv_aload_n hx hb dL_law_533 rfl (lv_at hl 1 rfl) ?_
  refine l_arg (j := 1) F dL_law_534 dL_law_535 dL_law_537 dL_law_538 dL_law_539 (by decide) hi hl (lv_sub hl [0, 4] rfl) hS ?_
  refine l_arg (j := 2) F dL_law_540 dL_law_541 dL_law_543 dL_law_544 dL_law_545 (by decide) hi hl (lv_sub hl [0, 4] rfl) hS ?_
  refine l_arg (j := 3) F dL_law_546 dL_law_547 dL_law_549 dL_law_550 dL_law_551 (by decide) hi hl (lv_sub hl [0, 4] rfl) hS ?_
  refine l_arg (j := 4) F dL_law_552 dL_law_553 dL_law_555 dL_law_556 dL_law_557 (by decide) hi hl (lv_sub hl [0, 4] rfl) hS ?_
  refine lv_aload_n hx hb dL_law_558 rfl (lv_at hl 3 rfl) ?_
  refine e_cSH (As := [.ref (ad 0), .int (xs (i + 1)), .int (xs (i + 2)), .int (xs (i + 3)), .int (xs (i + 4)), .ref (ad 120)]) (rest := []) (kd' := KD dn n9) (sp' := SP dn n9) (v' := v9) hx hb hml hown hts hT hL hN (c_L_lift_lift1 (l := l) hl9 (v := v) (t0 := t0) (mi := mi) (a0 := H.size) (KD_cK h8 h12) hR.cI (xs (i + 1)) (xs (i + 2)) (xs (i + 3)) (xs (i + 4)) (fun h => KD_l0 (ln := ln) (Nat.le_refl _) (by show 80 + ln < 100; omega)) q3 (KD_u8 h8 h12) hpos (fun h => by show ln < if ln ≤ 10 then 10 else 15; have h : ln < 12 := h; split <;> omega) (fun m hm => (KD_u9 h8 h12 m hm).2.trans (if_neg e0).symm) (by show (if ln = 0 then 11 else if ln ≤ 10 then 9 else 10) = 9 ∨ (if ln = 0 then 11 else if ln ≤ 10 then 9 else 10) = 10; rw [if_neg e0]; split <;> simp) rfl (kd9 := KD dn n9) (sp9 := SP dn n9) (v9 := v9) (fun g => ⟨by rw [← g0 g]; exact KD_lift1 hpos (lc_lt hR g) e10, by rw [← g0 g]; exact SP_lift1 hpos e10, h0 g⟩) (fun g => ⟨by rw [← g1 g], by rw [← g1 g], h1 g⟩)) ch_RL_93 (Nat.le_of_ble_eq_true rfl) (Nat.le_of_ble_eq_true rfl) hz hP hI hK hS rfl hl.1 rfl (Nat.le_of_ble_eq_true rfl) ⟨by show 40 + 60 * k + 60 ≤ 603072; omega, by show 2000 + 2000 * k + 2000 ≤ 7219306; omega⟩ dL_law_559 (fun H locs hz1 hP hI hS => ?_)
  have hz := Nat.le_trans hz hz1
  refine W.widen (k := 40 + 60 * (k + 1)) (n := 2000 + 2000 * (k + 1)) (by omega) (by omega) ?_
  obtain ⟨s1, s2, s3, s4⟩ := s_lift hR (xs (i + 1)) (xs (i + 2)) (xs (i + 3)) (xs (i + 4)) (C := e_set (vL v (80 + ln) (xs (i + 1)) (xs (i + 2)) (xs (i + 3)) (xs (i + 4))) 2 0 (vL v (80 + ln) (xs (i + 1)) (xs (i + 2)) (xs (i + 3)) (xs (i + 4)) 2 0 + 1)) (fun g => ⟨fun n n1 n2 n3 => es_ne n1, (h0 g).symm⟩) h1
  refine lv_istore (lv' := [(5, .int (cLiftC v dn ln (xs (i + 1)) (xs (i + 2)) (xs (i + 3)) (xs (i + 4)))), (0, .ref b), (1, .ref (ad 0)), (2, .ref (ad 100)), (3, .ref (ad 120)), (4, .int (nI i))]) hx hb dL_law_562 hl (by decide) rfl (fun ls hl => ?_)
  refine lv_aload_n hx hb dL_law_564 rfl (lv_at hl 3 rfl) ?_
  skip
  refine l_arg (j := 1) F dL_law_565 dL_law_566 dL_law_568 dL_law_569 dL_law_570 (by decide) hi hl (lv_sub hl [1, 5] rfl) hS ?_
  refine l_arg (j := 2) F dL_law_571 dL_law_572 dL_law_574 dL_law_575 dL_law_576 (by decide) hi hl (lv_sub hl [1, 5] rfl) hS ?_
  refine l_arg (j := 3) F dL_law_577 dL_law_578 dL_law_580 dL_law_581 dL_law_582 (by decide) hi hl (lv_sub hl [1, 5] rfl) hS ?_
  refine l_arg (j := 4) F dL_law_583 dL_law_584 dL_law_586 dL_law_587 dL_law_588 (by decide) hi hl (lv_sub hl [1, 5] rfl) hS ?_
  refine e_cVM (As := [.int (xs (i + 1)), .int (xs (i + 2)), .int (xs (i + 3)), .int (xs (i + 4))]) (rest := []) hx hb hml hown hts 100 (c_X4_lift (l := l) (v := v9) dn ln KD_mK s1 (xs (i + 1)) (xs (i + 2)) (xs (i + 3)) (xs (i + 4))) cw_RL_95 (Nat.le_of_ble_eq_true rfl) (Nat.le_of_ble_eq_true rfl) hz hP hI hK hS (KD_mK 100 (by decide) (by decide)) (by decide) rfl rfl rfl hl.1 rfl (Nat.le_of_ble_eq_true rfl) ⟨by show 40 + 60 * (k + 1) + 0 ≤ 603072; omega, by show 2000 + 2000 * (k + 1) + 0 ≤ 7219306; omega⟩ dL_law_589 (fun H locs hz hP hS => ?_)
  refine lv_istore (lv' := [(6, .int (mLiftV v9 dn ln (xs (i + 1)) (xs (i + 2)) (xs (i + 3)) (xs (i + 4)))), (5, .int (cLiftC v dn ln (xs (i + 1)) (xs (i + 2)) (xs (i + 3)) (xs (i + 4)))), (0, .ref b), (1, .ref (ad 0)), (2, .ref (ad 100)), (3, .ref (ad 120)), (4, .int (nI i))]) hx hb dL_law_592 hl (by decide) rfl (fun ls hl => ?_)
  refine l_tail F dL_law_594 dL_law_595 dL_law_598 dL_law_600 dL_law_605 dL_law_607 dL_law_610 dL_law_611 dL_law_612 dL_law_613 dL_law_615 dL_law_616 dL_law_617 dL_law_622 (by decide) (by omega) cw_RL_70 hz hP hI KD_mK rfl s2 (fun g => (s3 g).1) (lv_sub hl [0, 1, 4, 5] rfl) ?_
  by_cases g : cLiftC v dn ln (xs (i + 1)) (xs (i + 2)) (xs (i + 3)) (xs (i + 4)) = 0
  · obtain rfl := g0 g
    exact next dn (ln + 1) ad _ H locs ls ⟨hz, hP, hI, hS, (s3 g).2, h11⟩ (lv_sub hl [2, 3, 4, 5, 6] rfl)
  · obtain rfl := g1 g
    exact next dn ln ad _ H locs ls ⟨hz, hP, hI, hS, s4 g, h11⟩ (lv_sub hl [2, 3, 4, 5, 6] rfl)
set_option maxRecDepth 100000 in
set_option maxHeartbeats 4000000 in
theorem law_firstClash {p : Program} {l : Launch} {e : Env} {s : State} {m : MethodId} {below : List Frame} {meth : Method} {c : Code} {b L : Nat} {xs : Nat → Int32} {X : eD} {t0 mi i k : Nat} (F : lFix p l s m c b L xs X t0 mi) (hi : i + 4 < L) (hk : k < 599) (next : lGo p l e s m below meth c b X t0 i (k + 1) 1102) : lGo p l e s m below meth c b X t0 i k 520 := by
  intro dn ln ad v H locs ls hWd hl
  obtain ⟨hx, hb, hml, hown, hts, hX, hbl, hl9, hK, hT, hL, hN, hL0⟩ := id F
  obtain ⟨hz, hP, hI, hS, hR, h11⟩ := hWd
  have h8 := hR.d8
  have h12 := hR.l12
  refine lv_aload_n hx hb dL_law_520 rfl (lv_at hl 1 rfl) ?_
  refine e_cV (K := 5) (As := []) (rest := []) hx hb hml hown hts 0 (c_X3_firstClash (l := l) (v := v) (KD_cK h8 h12)) cw_RL_89 (Nat.le_of_ble_eq_true rfl) (Nat.le_of_ble_eq_true rfl) hz hP hI hK rfl (by decide) rfl rfl rfl hl.1 rfl (Nat.le_of_ble_eq_true rfl) ⟨by show 40 + 60 * k + 0 ≤ 603072; omega, by show 2000 + 2000 * k + 0 ≤ 7219306; omega⟩ dL_law_521 ?_
  refine lv_aload_n hx hb dL_law_524 rfl (lv_at hl 2 rfl) ?_
  refine e_cVM (As := []) (rest := [.int (cFirst v dn)]) hx hb hml hown hts 100 (c_X4_firstClash (l := l) (v := v) dn ln KD_mK hR.1) cw_RL_92 (Nat.le_of_ble_eq_true rfl) (Nat.le_of_ble_eq_true rfl) hz hP hI hK hS (KD_mK 100 (by decide) (by decide)) (by decide) rfl rfl rfl hl.1 rfl (Nat.le_of_ble_eq_true rfl) ⟨by show 40 + 60 * k + 0 ≤ 603072; omega, by show 2000 + 2000 * k + 0 ≤ 7219306; omega⟩ dL_law_525 (fun H locs hz hP hS => ?_)
  refine lv_icmp_eq (tgt := 1102) hx hb dL_law_528 (by decide) (fun _ => ?_) (fun g => absurd (r_first hR) g)
  refine W.widen (k := 40 + 60 * (k + 1)) (n := 2000 + 2000 * (k + 1)) (by omega) (by omega) ?_
  exact next dn ln ad _ H locs ls ⟨hz, hP, hI, hS, st_T hR 0, h11⟩ hl
set_option maxRecDepth 100000 in
set_option maxHeartbeats 4000000 in
theorem law_sleep {p : Program} {l : Launch} {e : Env} {s : State} {m : MethodId} {below : List Frame} {meth : Method} {c : Code} {b L : Nat} {xs : Nat → Int32} {X : eD} {t0 mi i k : Nat} (F : lFix p l s m c b L xs X t0 mi) (hi : i + 4 < L) (hk : k < 599) (next : lGo p l e s m below meth c b X t0 i (k + 1) 1102) : lGo p l e s m below meth c b X t0 i k 1089 := by
  intro dn ln ad v H locs ls hWd hl
  obtain ⟨hx, hb, hml, hown, hts, hX, hbl, hl9, hK, hT, hL, hN, hL0⟩ := id F
  obtain ⟨hz, hP, hI, hS, hR, h11⟩ := hWd
  have h8 := hR.d8
  have h12 := hR.l12
  obtain ⟨s1, s2⟩ := s_sleep hR
  refine lv_aload_n hx hb dL_law_1089 rfl (lv_at hl 1 rfl) ?_
  refine e_cVM (K := 5) (As := []) (rest := []) hx hb hml hown hts 0 (c_X3_sleep (l := l) (v := v) (KD_cK h8 h12)) cw_RL_117 (Nat.le_of_ble_eq_true rfl) (Nat.le_of_ble_eq_true rfl) hz hP hI hK hS rfl (by decide) rfl rfl rfl hl.1 rfl (Nat.le_of_ble_eq_true rfl) ⟨by show 40 + 60 * k + 0 ≤ 603072; omega, by show 2000 + 2000 * k + 0 ≤ 7219306; omega⟩ dL_law_1090 (fun H locs hz hP hS => ?_)
  refine lv_aload_n hx hb dL_law_1093 rfl (lv_at hl 2 rfl) ?_
  refine e_cVM (As := []) (rest := [.int (cRest (cFreeR v 3) dn 0 4 + 1)]) hx hb hml hown hts 100 (c_X4_sleep (l := l) (v := cSleepS v dn) KD_mK) cw_RL_120 (Nat.le_of_ble_eq_true rfl) (Nat.le_of_ble_eq_true rfl) hz hP hI hK hS (KD_mK 100 (by decide) (by decide)) (by decide) rfl rfl rfl hl.1 rfl (Nat.le_of_ble_eq_true rfl) ⟨by show 40 + 60 * k + 0 ≤ 603072; omega, by show 2000 + 2000 * k + 0 ≤ 7219306; omega⟩ dL_law_1094 (fun H locs hz hP hS => ?_)
  refine lv_icmp_eq (tgt := 1102) hx hb dL_law_1097 (by decide) (fun _ => ?_) (fun g => absurd s1 g)
  refine W.widen (k := 40 + 60 * (k + 1)) (n := 2000 + 2000 * (k + 1)) (by omega) (by omega) ?_
  exact next dn ln ad _ H locs ls ⟨hz, hP, hI, hS, s2, h11⟩ hl

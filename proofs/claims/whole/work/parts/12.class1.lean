theorem aw_120 : Cond.fieldLink RJx4a65c 48 "java/util/ArrayList" "size" "I" ∈ AW := aw_of (List.mem_of_getElem? (i := 90) (by decide +kernel)) (by decide +kernel)
theorem aw_121 : Cond.methodLink RJ15 105 yJ3_checkIndex_8e157 ∈ AW := aw_of (List.mem_of_getElem? (i := 146) (by decide +kernel)) (by decide +kernel)
theorem aw_122 : Cond.static yJ3_checkIndex_8e157 ∈ AW := aw_of (List.mem_of_getElem? (i := 147) (by decide +kernel)) (by decide +kernel)
theorem aw_123 : Cond.initialized RJ3 ∈ AW := aw_of (List.mem_of_getElem? (i := 58) (by decide +kernel)) (by decide +kernel)
set_option maxRecDepth 100000 in
theorem aw_124 : Cond.code yJ3_checkIndex_8e157 cJ3_checkIndex_8e157 3 (some .int) ∈ AW := aw_of (List.mem_of_getElem? (i := 148) rfl) (by decide +kernel)
theorem cw_RJ15_105 : e_cwS RJ15 105 yJ3_checkIndex_8e157 cJ3_checkIndex_8e157 3 (some .int) 3 := ⟨aw_121, aw_122, aw_123, aw_124, by decide +kernel, by decide +kernel, by decide +kernel⟩
theorem aw_126 : Cond.fieldLink RJx4a65c 9 "java/util/ArrayList" "elementData" "[Ljava/lang/Object;" ∈ AW := aw_of (List.mem_of_getElem? (i := 89) (by decide +kernel)) (by decide +kernel)
theorem aw_127 : Cond.methodLink RJx4a65c 118 yJ15_checkIndex_7cf53 ∈ AW := aw_of (List.mem_of_getElem? (i := 143) (by decide +kernel)) (by decide +kernel)
theorem aw_128 : Cond.static yJ15_checkIndex_7cf53 ∈ AW := aw_of (List.mem_of_getElem? (i := 144) (by decide +kernel)) (by decide +kernel)
theorem aw_129 : Cond.initialized RJ15 ∈ AW := aw_of (List.mem_of_getElem? (i := 57) (by decide +kernel)) (by decide +kernel)
set_option maxRecDepth 100000 in
theorem aw_130 : Cond.code yJ15_checkIndex_7cf53 cJ15_checkIndex_7cf53 2 (some .int) ∈ AW := aw_of (List.mem_of_getElem? (i := 145) rfl) (by decide +kernel)
theorem cw_RJx4a65c_118 : e_cwS RJx4a65c 118 yJ15_checkIndex_7cf53 cJ15_checkIndex_7cf53 2 (some .int) 2 := ⟨aw_127, aw_128, aw_129, aw_130, by decide +kernel, by decide +kernel, by decide +kernel⟩
theorem aw_132 : Cond.methodLink RJx4a65c 123 yJx4a65c_elementData_915e3 ∈ AW := aw_of (List.mem_of_getElem? (i := 149) (by decide +kernel)) (by decide +kernel)
theorem aw_133 : Cond.instanceMethod yJx4a65c_elementData_915e3 ∈ AW := aw_of (List.mem_of_getElem? (i := 150) (by decide +kernel)) (by decide +kernel)
theorem aw_134 : Cond.selects RJx4a65c yJx4a65c_elementData_915e3 yJx4a65c_elementData_915e3 ∈ AW := aw_of (List.mem_of_getElem? (i := 151) (by decide +kernel)) (by decide +kernel)
theorem aw_135 : Cond.initialized RJx4a65c ∈ AW := aw_of (List.mem_of_getElem? (i := 47) (by decide +kernel)) (by decide +kernel)
set_option maxRecDepth 100000 in
theorem aw_136 : Cond.code yJx4a65c_elementData_915e3 cJx4a65c_elementData_915e3 2 (some (.object "java/lang/Object")) ∈ AW := aw_of (List.mem_of_getElem? (i := 152) rfl) (by decide +kernel)
theorem cw_RJx4a65c_123 : e_cwV RJx4a65c 123 RJx4a65c yJx4a65c_elementData_915e3 cJx4a65c_elementData_915e3 2 (some (.object "java/lang/Object")) 1 := ⟨aw_132, aw_133, aw_134, aw_135, aw_136, rfl, by decide +kernel, by decide +kernel, by decide +kernel⟩
theorem aw_138 : Cond.fieldLink RX1 20 "Stepscript$Lift" "one" "I" ∈ AW := aw_of (List.mem_of_getElem? (i := 505) (by decide +kernel)) (by decide +kernel)
theorem aw_139 : Cond.fieldLink RX1 23 "Stepscript$Lift" "other" "I" ∈ AW := aw_of (List.mem_of_getElem? (i := 507) (by decide +kernel)) (by decide +kernel)
theorem aw_140 : Cond.fieldLink RX1 17 "Stepscript$Lift" "lifted" "I" ∈ AW := aw_of (List.mem_of_getElem? (i := 503) (by decide +kernel)) (by decide +kernel)
theorem aw_141 : Cond.methodLink RX1 26 yX1_isBy ∈ AW := aw_of (List.mem_of_getElem? (i := 547) (by decide +kernel)) (by decide +kernel)
theorem aw_142 : Cond.instanceMethod yX1_isBy ∈ AW := aw_of (List.mem_of_getElem? (i := 548) (by decide +kernel)) (by decide +kernel)
theorem aw_143 : Cond.selects RX1 yX1_isBy yX1_isBy ∈ AW := aw_of (List.mem_of_getElem? (i := 549) (by decide +kernel)) (by decide +kernel)
theorem aw_144 : Cond.initialized RX1 ∈ AW := aw_of (List.mem_of_getElem? (i := 65) (by decide +kernel)) (by decide +kernel)
set_option maxRecDepth 100000 in
theorem aw_145 : Cond.code yX1_isBy cX1_isBy 2 (some .boolean) ∈ AW := aw_of (List.mem_of_getElem? (i := 550) rfl) (by decide +kernel)
theorem cw_RX1_26 : e_cwV RX1 26 RX1 yX1_isBy cX1_isBy 2 (some .boolean) 1 := ⟨aw_141, aw_142, aw_143, aw_144, aw_145, rfl, by decide +kernel, by decide +kernel, by decide +kernel⟩
theorem aw_147 : Cond.fieldLink RX2 18 "Stepscript$Track" "first" "I" ∈ AW := aw_of (List.mem_of_getElem? (i := 321) (by decide +kernel)) (by decide +kernel)
theorem aw_148 : Cond.fieldLink RX2 15 "Stepscript$Track" "places" "[I" ∈ AW := aw_of (List.mem_of_getElem? (i := 325) (by decide +kernel)) (by decide +kernel)
theorem aw_149 : Cond.fieldLink RX2 9 "Stepscript$Track" "moves" "[I" ∈ AW := aw_of (List.mem_of_getElem? (i := 323) (by decide +kernel)) (by decide +kernel)
theorem aw_150 : Cond.methodLink RX2 28 yJ9_abs_0f7a4 ∈ AW := aw_of (List.mem_of_getElem? (i := 634) (by decide +kernel)) (by decide +kernel)
set_option maxRecDepth 100000 in
theorem aw_151 : Cond.code yJ9_abs_0f7a4 cJ9_abs_0f7a4 1 (some .int) ∈ AW := aw_of (List.mem_of_getElem? (i := 562) rfl) (by decide +kernel)
theorem em_code_abs : Cond.code Lib.Math.abs.name Lib.Math.abs.code 1 (some .int) ∈ AW := aw_151
theorem aw_153 : Cond.static yJ9_abs_0f7a4 ∈ AW := aw_of (List.mem_of_getElem? (i := 561) (by decide +kernel)) (by decide +kernel)
theorem aw_154 : Cond.initialized RJ9 ∈ AW := aw_of (List.mem_of_getElem? (i := 62) (by decide +kernel)) (by decide +kernel)
theorem aw_155 : Cond.methodLink RX2 34 yX2_wayTo ∈ AW := aw_of (List.mem_of_getElem? (i := 694) (by decide +kernel)) (by decide +kernel)
theorem aw_156 : Cond.instanceMethod yX2_wayTo ∈ AW := aw_of (List.mem_of_getElem? (i := 166) (by decide +kernel)) (by decide +kernel)
theorem aw_157 : Cond.selects RX2 yX2_wayTo yX2_wayTo ∈ AW := aw_of (List.mem_of_getElem? (i := 167) (by decide +kernel)) (by decide +kernel)
theorem aw_158 : Cond.initialized RX2 ∈ AW := aw_of (List.mem_of_getElem? (i := 60) (by decide +kernel)) (by decide +kernel)
set_option maxRecDepth 100000 in
theorem aw_159 : Cond.code yX2_wayTo cX2_wayTo 3 (some .int) ∈ AW := aw_of (List.mem_of_getElem? (i := 168) rfl) (by decide +kernel)
theorem cw_RX2_34 : e_cwV RX2 34 RX2 yX2_wayTo cX2_wayTo 3 (some .int) 2 := ⟨aw_155, aw_156, aw_157, aw_158, aw_159, rfl, by decide +kernel, by decide +kernel, by decide +kernel⟩
theorem aw_161 : Cond.static yX3_isMove ∈ AW := aw_of (List.mem_of_getElem? (i := 426) (by decide +kernel)) (by decide +kernel)
theorem aw_162 : Cond.initialized RX3 ∈ AW := aw_of (List.mem_of_getElem? (i := 44) (by decide +kernel)) (by decide +kernel)
set_option maxRecDepth 100000 in
theorem aw_163 : Cond.code yX3_isMove cX3_isMove 1 (some .boolean) ∈ AW := aw_of (List.mem_of_getElem? (i := 427) rfl) (by decide +kernel)
theorem aw_164 : Cond.fieldLink RX0 24 "Stepscript$Dancer" "columns" "LStepscript$Track;" ∈ AW := aw_of (List.mem_of_getElem? (i := 335) (by decide +kernel)) (by decide +kernel)
theorem aw_165 : Cond.fieldLink RX0 28 "Stepscript$Dancer" "rows" "LStepscript$Track;" ∈ AW := aw_of (List.mem_of_getElem? (i := 337) (by decide +kernel)) (by decide +kernel)
theorem aw_166 : Cond.fieldLink RX0 31 "Stepscript$Track" "moves" "[I" ∈ AW := aw_of (List.mem_of_getElem? (i := 324) (by decide +kernel)) (by decide +kernel)
theorem aw_167 : Cond.fieldLink RX0 35 "Stepscript$Track" "places" "[I" ∈ AW := aw_of (List.mem_of_getElem? (i := 326) (by decide +kernel)) (by decide +kernel)
theorem aw_168 : Cond.static yX3_isOnStage ∈ AW := aw_of (List.mem_of_getElem? (i := 159) (by decide +kernel)) (by decide +kernel)
set_option maxRecDepth 100000 in
theorem aw_169 : Cond.code yX3_isOnStage cX3_isOnStage 1 (some .boolean) ∈ AW := aw_of (List.mem_of_getElem? (i := 160) rfl) (by decide +kernel)
theorem aw_170 : Cond.methodLink RX0 42 yX2_wayTo ∈ AW := aw_of (List.mem_of_getElem? (i := 165) (by decide +kernel)) (by decide +kernel)
theorem cw_RX0_42 : e_cwV RX0 42 RX2 yX2_wayTo cX2_wayTo 3 (some .int) 2 := ⟨aw_170, aw_156, aw_157, aw_158, aw_159, rfl, by decide +kernel, by decide +kernel, by decide +kernel⟩
theorem aw_172 : Cond.methodLink RX0 46 yX0_isWith ∈ AW := aw_of (List.mem_of_getElem? (i := 559) (by decide +kernel)) (by decide +kernel)
theorem aw_173 : Cond.instanceMethod yX0_isWith ∈ AW := aw_of (List.mem_of_getElem? (i := 162) (by decide +kernel)) (by decide +kernel)
theorem aw_174 : Cond.selects RX0 yX0_isWith yX0_isWith ∈ AW := aw_of (List.mem_of_getElem? (i := 163) (by decide +kernel)) (by decide +kernel)
theorem aw_175 : Cond.initialized RX0 ∈ AW := aw_of (List.mem_of_getElem? (i := 59) (by decide +kernel)) (by decide +kernel)
set_option maxRecDepth 100000 in
theorem aw_176 : Cond.code yX0_isWith cX0_isWith 3 (some .boolean) ∈ AW := aw_of (List.mem_of_getElem? (i := 164) rfl) (by decide +kernel)
theorem cw_RX0_46 : e_cwV RX0 46 RX0 yX0_isWith cX0_isWith 3 (some .boolean) 2 := ⟨aw_172, aw_173, aw_174, aw_175, aw_176, rfl, by decide +kernel, by decide +kernel, by decide +kernel⟩
theorem aw_178 : Cond.methodLink RX0 50 yJ9_abs_0f7a4 ∈ AW := aw_of (List.mem_of_getElem? (i := 560) (by decide +kernel)) (by decide +kernel)
theorem aw_179 : Cond.methodLink RX0 59 yX2_placeAheadOf ∈ AW := aw_of (List.mem_of_getElem? (i := 177) (by decide +kernel)) (by decide +kernel)
theorem aw_180 : Cond.instanceMethod yX2_placeAheadOf ∈ AW := aw_of (List.mem_of_getElem? (i := 178) (by decide +kernel)) (by decide +kernel)
theorem aw_181 : Cond.selects RX2 yX2_placeAheadOf yX2_placeAheadOf ∈ AW := aw_of (List.mem_of_getElem? (i := 179) (by decide +kernel)) (by decide +kernel)
set_option maxRecDepth 100000 in
theorem aw_182 : Cond.code yX2_placeAheadOf cX2_placeAheadOf 2 (some .int) ∈ AW := aw_of (List.mem_of_getElem? (i := 180) rfl) (by decide +kernel)
theorem cw_RX0_59 : e_cwV RX0 59 RX2 yX2_placeAheadOf cX2_placeAheadOf 2 (some .int) 1 := ⟨aw_179, aw_180, aw_181, aw_158, aw_182, rfl, by decide +kernel, by decide +kernel, by decide +kernel⟩
theorem aw_184 : Cond.methodLink RX0 56 yX0_takesPlaceOf ∈ AW := aw_of (List.mem_of_getElem? (i := 173) (by decide +kernel)) (by decide +kernel)
theorem aw_185 : Cond.instanceMethod yX0_takesPlaceOf ∈ AW := aw_of (List.mem_of_getElem? (i := 174) (by decide +kernel)) (by decide +kernel)
theorem aw_186 : Cond.selects RX0 yX0_takesPlaceOf yX0_takesPlaceOf ∈ AW := aw_of (List.mem_of_getElem? (i := 175) (by decide +kernel)) (by decide +kernel)
set_option maxRecDepth 100000 in
theorem aw_187 : Cond.code yX0_takesPlaceOf cX0_takesPlaceOf 3 (some .boolean) ∈ AW := aw_of (List.mem_of_getElem? (i := 176) rfl) (by decide +kernel)
theorem cw_RX0_56 : e_cwV RX0 56 RX0 yX0_takesPlaceOf cX0_takesPlaceOf 3 (some .boolean) 2 := ⟨aw_184, aw_185, aw_186, aw_175, aw_187, rfl, by decide +kernel, by decide +kernel, by decide +kernel⟩
theorem aw_189 : Cond.methodLink RX0 62 yX2_canVisit ∈ AW := aw_of (List.mem_of_getElem? (i := 690) (by decide +kernel)) (by decide +kernel)
theorem aw_190 : Cond.instanceMethod yX2_canVisit ∈ AW := aw_of (List.mem_of_getElem? (i := 691) (by decide +kernel)) (by decide +kernel)
theorem aw_191 : Cond.selects RX2 yX2_canVisit yX2_canVisit ∈ AW := aw_of (List.mem_of_getElem? (i := 692) (by decide +kernel)) (by decide +kernel)
set_option maxRecDepth 100000 in
theorem aw_192 : Cond.code yX2_canVisit cX2_canVisit 4 (some .boolean) ∈ AW := aw_of (List.mem_of_getElem? (i := 693) rfl) (by decide +kernel)
theorem cw_RX0_62 : e_cwV RX0 62 RX2 yX2_canVisit cX2_canVisit 4 (some .boolean) 2 := ⟨aw_189, aw_190, aw_191, aw_158, aw_192, rfl, by decide +kernel, by decide +kernel, by decide +kernel⟩
set_option maxRecDepth 100000 in
set_option maxHeartbeats 4000000 in
theorem c_Jx4a65c_size_8abf5_1 {l : Launch} {X : eD} {z0 : Nat} {ad kd sp : Nat → Nat} {v : eV} (hc : cK kd sp) : ePu l yJx4a65c_size_8abf5 cJx4a65c_size_8abf5 1 (some .int) 0 [.ref (ad 1)] (e_W X z0 ad kd sp v) (some (.int (nI (sp 0)))) := by
  refine e_pureI (by decide +kernel) (Nat.le_of_ble_eq_true rfl) rfl ?_
  intro p e s m args below meth c hx hb hml hown hts hW Q hret ls hl
  obtain ⟨hz, hP, hI, hK⟩ := hW
  have hl : lv_has ls 1 [(0, .ref (ad 1))] := hl
  refine lv_aload_n hx hb dJx4a65c_size_8abf5_0 rfl (lv_at hl 0 rfl) ?_
  refine e_getf hx hb hts inJx4a65c hown hK hP 1 6 hc.1.2.1 (by decide) rfl rfl 2 (by decide) aw_120 (fun _ h => h) rfl dJx4a65c_size_8abf5_1 ?_
  exact e_nrm (show (nI (sp 0)) = nI (sp 0) from (by first | (simp [bI]; done) | (exfalso; simp_all; done))) (hret _ _ dJx4a65c_size_8abf5_4)

set_option maxRecDepth 100000 in
set_option maxHeartbeats 4000000 in
theorem c_Jx4a65c_size_8abf5_2 {l : Launch} {X : eD} {z0 : Nat} {ad kd sp : Nat → Nat} {v : eV} (hc : cK kd sp) : ePu l yJx4a65c_size_8abf5 cJx4a65c_size_8abf5 1 (some .int) 0 [.ref (ad 2)] (e_W X z0 ad kd sp v) (some (.int (nI (sp 1)))) := by
  refine e_pureI (by decide +kernel) (Nat.le_of_ble_eq_true rfl) rfl ?_
  intro p e s m args below meth c hx hb hml hown hts hW Q hret ls hl
  obtain ⟨hz, hP, hI, hK⟩ := hW
  have hl : lv_has ls 1 [(0, .ref (ad 2))] := hl
  refine lv_aload_n hx hb dJx4a65c_size_8abf5_0 rfl (lv_at hl 0 rfl) ?_
  refine e_getf hx hb hts inJx4a65c hown hK hP 2 8 hc.1.2.2.1 (by decide) rfl rfl 2 (by decide) aw_120 (fun _ h => h) rfl dJx4a65c_size_8abf5_1 ?_
  exact e_nrm (show (nI (sp 1)) = nI (sp 1) from (by first | (simp [bI]; done) | (exfalso; simp_all; done))) (hret _ _ dJx4a65c_size_8abf5_4)

set_option maxRecDepth 100000 in
set_option maxHeartbeats 4000000 in
theorem c_J3_checkIndex_8e157 {l : Launch} {X : eD} {z0 : Nat} {ad kd sp : Nat → Nat} {v : eV} (i n : Nat) (hi : i < n) (hn : n < 1000) : ePu l yJ3_checkIndex_8e157 cJ3_checkIndex_8e157 3 (some .int) 3 [.int (nI i), .int (nI n), .null] (e_W X z0 ad kd sp v) (some (.int (nI i))) := by
  refine e_pureI (by decide +kernel) (Nat.le_of_ble_eq_true rfl) rfl ?_
  intro p e s m args below meth c hx hb hml hown hts hW Q hret ls hl
  obtain ⟨hz, hP, hI, hK⟩ := hW
  have hl : lv_has ls 3 [(0, .int (nI i)), (1, .int (nI n)), (2, .null)] := hl
  refine lv_iload_n hx hb dJ3_checkIndex_8e157_0 rfl (lv_at hl 0 rfl) ?_
  refine lv_if_lt (tgt := 9) hx hb dJ3_checkIndex_8e157_1 (by decide) (fun c_1 => ?_) (fun c_1 => ?_)
  · skip
    exact absurd c_1 (nI_pos (by omega))
  · skip
    refine lv_iload_n hx hb dJ3_checkIndex_8e157_4 rfl (lv_at hl 0 rfl) ?_
    refine lv_iload_n hx hb dJ3_checkIndex_8e157_5 rfl (lv_at hl 1 rfl) ?_
    refine lv_icmp_lt (tgt := 16) hx hb dJ3_checkIndex_8e157_6 (by decide) (fun c_2 => ?_) (fun c_2 => ?_)
    · have nc_2 : i < n := hi
      refine lv_iload_n hx hb dJ3_checkIndex_8e157_16 rfl (lv_at hl 0 rfl) ?_
      exact e_nrm (show (nI i) = nI i from (by first | (simp [bI, c_1, nc_2]; done) | (exfalso; simp_all; done))) (hret _ _ dJ3_checkIndex_8e157_17)
    · have nc_2 : ¬ i < n := fun h => c_2 ((nI_ltI (by omega) (by omega)).mpr h)
      exact absurd hi nc_2

set_option maxRecDepth 100000 in
set_option maxHeartbeats 4000000 in
theorem c_J15_checkIndex_7cf53 {l : Launch} {X : eD} {z0 : Nat} {ad kd sp : Nat → Nat} {v : eV} (i n : Nat) (hi : i < n) (hn : n < 1000) : ePu l yJ15_checkIndex_7cf53 cJ15_checkIndex_7cf53 2 (some .int) 4 [.int (nI i), .int (nI n)] (e_W X z0 ad kd sp v) (some (.int (nI i))) := by
  refine e_pureI (by decide +kernel) (Nat.le_of_ble_eq_true rfl) rfl ?_
  intro p e s m args below meth c hx hb hml hown hts hW Q hret ls hl
  obtain ⟨hz, hP, hI, hK⟩ := hW
  have hl : lv_has ls 2 [(0, .int (nI i)), (1, .int (nI n))] := hl
  refine lv_iload_n hx hb dJ15_checkIndex_7cf53_0 rfl (lv_at hl 0 rfl) ?_
  refine lv_iload_n hx hb dJ15_checkIndex_7cf53_1 rfl (lv_at hl 1 rfl) ?_
  refine lv_null hx hb dJ15_checkIndex_7cf53_2 ?_
  refine e_cS (As := [.int (nI i), .int (nI n), .null]) (rest := []) hx hb hml hown hts (c_J3_checkIndex_8e157 (l := l) i n (by omega) (by omega)) cw_RJ15_105 (by decide) (by decide) hz hP hI hK rfl hl.1 rfl (Nat.le_of_ble_eq_true rfl) ⟨Nat.zero_le _, Nat.zero_le _⟩ dJ15_checkIndex_7cf53_3 ?_
  exact e_nrm (show (nI i) = nI i from (by first | (simp [bI]; done) | (exfalso; simp_all; done))) (hret _ _ dJ15_checkIndex_7cf53_6)

set_option maxRecDepth 100000 in
set_option maxHeartbeats 4000000 in
theorem c_Jx4a65c_elementData_915e3_1 {l : Launch} {X : eD} {z0 : Nat} {ad kd sp : Nat → Nat} {v : eV} (hc : cK kd sp) (i : Nat) (hi : i < sp 0) : ePu l yJx4a65c_elementData_915e3 cJx4a65c_elementData_915e3 2 (some (.object "java/lang/Object")) 0 [.ref (ad 1), .int (nI i)] (e_W X z0 ad kd sp v) (some (.ref (ad (20 + 7 * i)))) := by
  refine e_pureR (by decide +kernel) (Nat.le_of_ble_eq_true rfl) (Or.inl ⟨_, rfl⟩) ?_
  intro p e s m args below meth c hx hb hml hown hts hW Q hret ls hl
  obtain ⟨hz, hP, hI, hK⟩ := hW
  have hl : lv_has ls 2 [(0, .ref (ad 1)), (1, .int (nI i))] := hl
  have hc0 := hc.2.2.2.2.2
  have hs8 := hc0.1
  have hs12 := hc0.2.1
  have hq2 := hc0.2.2.1
  have hq3 := hc0.2.2.2.1
  have hq4 := hc0.2.2.2.2.1
  have hq5 := hc0.2.2.2.2.2.1
  have hq6 := hc0.2.2.2.2.2.2.1
  have hq7 := hc0.2.2.2.2.2.2.2
  refine lv_aload_n hx hb dJx4a65c_elementData_915e3_0 rfl (lv_at hl 0 rfl) ?_
  refine e_getf hx hb hts inJx4a65c hown hK hP 1 6 hc.1.2.1 (by decide) rfl rfl 1 (by decide) aw_126 (fun _ h => h) rfl dJx4a65c_elementData_915e3_1 ?_
  refine lv_iload_n hx hb dJx4a65c_elementData_915e3_4 rfl (lv_at hl 1 rfl) ?_
  refine e_aald hx hb hK hP (sp 5) 7 (hc.2.1 (by omega)) (by decide) rfl 1 rfl (Or.inl rfl) i rfl (by omega) (by omega) (if_pos (by omega)) dJx4a65c_elementData_915e3_5 ?_
  exact hret _ _ dJx4a65c_elementData_915e3_6

set_option maxRecDepth 100000 in
set_option maxHeartbeats 4000000 in
theorem c_Jx4a65c_elementData_915e3_2 {l : Launch} {X : eD} {z0 : Nat} {ad kd sp : Nat → Nat} {v : eV} (hc : cK kd sp) (i : Nat) (hi : i < sp 1) : ePu l yJx4a65c_elementData_915e3 cJx4a65c_elementData_915e3 2 (some (.object "java/lang/Object")) 0 [.ref (ad 2), .int (nI i)] (e_W X z0 ad kd sp v) (some (.ref (ad (80 + i)))) := by
  refine e_pureR (by decide +kernel) (Nat.le_of_ble_eq_true rfl) (Or.inl ⟨_, rfl⟩) ?_
  intro p e s m args below meth c hx hb hml hown hts hW Q hret ls hl
  obtain ⟨hz, hP, hI, hK⟩ := hW
  have hl : lv_has ls 2 [(0, .ref (ad 2)), (1, .int (nI i))] := hl
  have hc0 := hc.2.2.2.2.2
  have hs8 := hc0.1
  have hs12 := hc0.2.1
  have hq2 := hc0.2.2.1
  have hq3 := hc0.2.2.2.1
  have hq4 := hc0.2.2.2.2.1
  have hq5 := hc0.2.2.2.2.2.1
  have hq6 := hc0.2.2.2.2.2.2.1
  have hq7 := hc0.2.2.2.2.2.2.2
  refine lv_aload_n hx hb dJx4a65c_elementData_915e3_0 rfl (lv_at hl 0 rfl) ?_
  refine e_getf hx hb hts inJx4a65c hown hK hP 2 8 hc.1.2.2.1 (by decide) rfl rfl 1 (by decide) aw_126 (fun _ h => h) rfl dJx4a65c_elementData_915e3_1 ?_
  refine lv_iload_n hx hb dJx4a65c_elementData_915e3_4 rfl (lv_at hl 1 rfl) ?_
  refine e_aald hx hb hK hP (sp 6) 9 (hc.2.2.1 (by omega)) (by decide) rfl 1 rfl (Or.inl rfl) i rfl (by omega) (by omega) (if_pos (by omega)) dJx4a65c_elementData_915e3_5 ?_
  exact hret _ _ dJx4a65c_elementData_915e3_6

set_option maxRecDepth 100000 in
set_option maxHeartbeats 4000000 in
theorem c_Jx4a65c_get_915e3_1 {l : Launch} {X : eD} {z0 : Nat} {ad kd sp : Nat → Nat} {v : eV} (hc : cK kd sp) (i : Nat) (hi : i < sp 0) : ePu l yJx4a65c_get_915e3 cJx4a65c_get_915e3 2 (some (.object "java/lang/Object")) 5 [.ref (ad 1), .int (nI i)] (e_W X z0 ad kd sp v) (some (.ref (ad (20 + 7 * i)))) := by
  refine e_pureR (by decide +kernel) (Nat.le_of_ble_eq_true rfl) (Or.inl ⟨_, rfl⟩) ?_
  intro p e s m args below meth c hx hb hml hown hts hW Q hret ls hl
  obtain ⟨hz, hP, hI, hK⟩ := hW
  have hl : lv_has ls 2 [(0, .ref (ad 1)), (1, .int (nI i))] := hl
  have hc0 := hc.2.2.2.2.2
  have hs8 := hc0.1
  have hs12 := hc0.2.1
  have hq2 := hc0.2.2.1
  have hq3 := hc0.2.2.2.1
  have hq4 := hc0.2.2.2.2.1
  have hq5 := hc0.2.2.2.2.2.1
  have hq6 := hc0.2.2.2.2.2.2.1
  have hq7 := hc0.2.2.2.2.2.2.2
  refine lv_iload_n hx hb dJx4a65c_get_915e3_0 rfl (lv_at hl 1 rfl) ?_
  refine lv_aload_n hx hb dJx4a65c_get_915e3_1 rfl (lv_at hl 0 rfl) ?_
  refine e_getf hx hb hts inJx4a65c hown hK hP 1 6 hc.1.2.1 (by decide) rfl rfl 2 (by decide) aw_120 (fun _ h => h) rfl dJx4a65c_get_915e3_2 ?_
  refine e_cS (As := [.int (nI i), .int (nI (sp 0))]) (rest := []) hx hb hml hown hts (c_J15_checkIndex_7cf53 (l := l) i (sp 0) (by omega) (by omega)) cw_RJx4a65c_118 (by decide) (by decide) hz hP hI hK rfl hl.1 rfl (Nat.le_of_ble_eq_true rfl) ⟨Nat.zero_le _, Nat.zero_le _⟩ dJx4a65c_get_915e3_5 ?_
  refine lv_pop hx hb dJx4a65c_get_915e3_8 rfl ?_
  refine lv_aload_n hx hb dJx4a65c_get_915e3_9 rfl (lv_at hl 0 rfl) ?_
  refine lv_iload_n hx hb dJx4a65c_get_915e3_10 rfl (lv_at hl 1 rfl) ?_
  refine e_cV (As := [.int (nI i)]) (rest := []) hx hb hml hown hts 1 (c_Jx4a65c_elementData_915e3_1 (l := l) hc i (by omega)) cw_RJx4a65c_123 (by decide) (by decide) hz hP hI hK hc.1.2.1 (by decide) rfl rfl rfl hl.1 rfl (Nat.le_of_ble_eq_true rfl) ⟨Nat.zero_le _, Nat.zero_le _⟩ dJx4a65c_get_915e3_11 ?_
  exact hret _ _ dJx4a65c_get_915e3_14

set_option maxRecDepth 100000 in
set_option maxHeartbeats 4000000 in
theorem c_Jx4a65c_get_915e3_2 {l : Launch} {X : eD} {z0 : Nat} {ad kd sp : Nat → Nat} {v : eV} (hc : cK kd sp) (i : Nat) (hi : i < sp 1) : ePu l yJx4a65c_get_915e3 cJx4a65c_get_915e3 2 (some (.object "java/lang/Object")) 5 [.ref (ad 2), .int (nI i)] (e_W X z0 ad kd sp v) (some (.ref (ad (80 + i)))) := by
  refine e_pureR (by decide +kernel) (Nat.le_of_ble_eq_true rfl) (Or.inl ⟨_, rfl⟩) ?_
  intro p e s m args below meth c hx hb hml hown hts hW Q hret ls hl
  obtain ⟨hz, hP, hI, hK⟩ := hW
  have hl : lv_has ls 2 [(0, .ref (ad 2)), (1, .int (nI i))] := hl
  have hc0 := hc.2.2.2.2.2
  have hs8 := hc0.1
  have hs12 := hc0.2.1
  have hq2 := hc0.2.2.1
  have hq3 := hc0.2.2.2.1
  have hq4 := hc0.2.2.2.2.1
  have hq5 := hc0.2.2.2.2.2.1
  have hq6 := hc0.2.2.2.2.2.2.1
  have hq7 := hc0.2.2.2.2.2.2.2
  refine lv_iload_n hx hb dJx4a65c_get_915e3_0 rfl (lv_at hl 1 rfl) ?_
  refine lv_aload_n hx hb dJx4a65c_get_915e3_1 rfl (lv_at hl 0 rfl) ?_
  refine e_getf hx hb hts inJx4a65c hown hK hP 2 8 hc.1.2.2.1 (by decide) rfl rfl 2 (by decide) aw_120 (fun _ h => h) rfl dJx4a65c_get_915e3_2 ?_
  refine e_cS (As := [.int (nI i), .int (nI (sp 1))]) (rest := []) hx hb hml hown hts (c_J15_checkIndex_7cf53 (l := l) i (sp 1) (by omega) (by omega)) cw_RJx4a65c_118 (by decide) (by decide) hz hP hI hK rfl hl.1 rfl (Nat.le_of_ble_eq_true rfl) ⟨Nat.zero_le _, Nat.zero_le _⟩ dJx4a65c_get_915e3_5 ?_
  refine lv_pop hx hb dJx4a65c_get_915e3_8 rfl ?_
  refine lv_aload_n hx hb dJx4a65c_get_915e3_9 rfl (lv_at hl 0 rfl) ?_
  refine lv_iload_n hx hb dJx4a65c_get_915e3_10 rfl (lv_at hl 1 rfl) ?_
  refine e_cV (As := [.int (nI i)]) (rest := []) hx hb hml hown hts 2 (c_Jx4a65c_elementData_915e3_2 (l := l) hc i (by omega)) cw_RJx4a65c_123 (by decide) (by decide) hz hP hI hK hc.1.2.2.1 (by decide) rfl rfl rfl hl.1 rfl (Nat.le_of_ble_eq_true rfl) ⟨Nat.zero_le _, Nat.zero_le _⟩ dJx4a65c_get_915e3_11 ?_
  exact hret _ _ dJx4a65c_get_915e3_14

set_option maxRecDepth 100000 in
set_option maxHeartbeats 4000000 in
theorem c_J7_fill_53178 {l : Launch} {X : eD} {z0 : Nat} {ad kd sp : Nat → Nat} {v : eV} (n N : Nat) (x : Int32) (hk : kd n = N + 20) (hN : N < 1000) : eMu l yJ7_fill_53178 cJ7_fill_53178 4 none 0 [.ref (ad n), .int x] X z0 ad kd sp v none (cFill v n x N) := by
  refine e_mutV (by decide +kernel) (Nat.le_of_ble_eq_true rfl) ?_
  intro p e s m args below meth c hx hb hml hown hts hW Q hret ls hl
  obtain ⟨hz, hP, hI, hK⟩ := hW
  have hl : lv_has ls 4 [(0, .ref (ad n)), (1, .int x)] := hl
  have hS : va_S (e_A z0) s.heap s.heap [] := va_S.rf
  refine lv_iconst (v := 0) hx hb dJ7_fill_53178_0 (by decide) ?_
  refine lv_istore_n (lv' := [(2, .int 0), (0, .ref (ad n)), (1, .int x)]) hx hb dJ7_fill_53178_1 rfl hl (by decide) rfl (fun ls hl => ?_)
  refine lv_aload_n hx hb dJ7_fill_53178_2 rfl (lv_at hl 1 rfl) ?_
  refine e_alen hx hb hK hP n N hk dJ7_fill_53178_3 ?_
  refine lv_istore_n (lv' := [(3, .int (nI N)), (2, .int 0), (0, .ref (ad n)), (1, .int x)]) hx hb dJ7_fill_53178_4 rfl hl (by decide) rfl (fun ls hl => ?_)
  have L5 : ∀ (k5 : Nat) (i : Nat) (u : eV), N - i < k5 → (i ≤ N) → (u = cFill v n x i) → ∀ (H : Heap) (locs : List Loc), z0 ≤ H.size → e_P X ad kd sp u H → va_S (e_A z0) s.heap H locs →  ∀ ls : Array Slot, lv_has ls 4 [(3, .int (nI N)), (2, .int (nI i)), (0, .ref (ad n)), (1, .int x)] → W p l e (e_rm 0 0 0) s m args below meth c H locs 0 0 Q (F0 m 5 ls []) := by
    intro k5
    induction k5 with
    | zero => intro i u hk; exact absurd hk (Nat.not_lt_zero _)
    | succ k5 ih5 =>
      intro i u hk5 hi eu H locs hz hP hS ls hl
      refine lv_iload_n hx hb dJ7_fill_53178_5 rfl (lv_at hl 1 rfl) ?_
      refine lv_iload_n hx hb dJ7_fill_53178_6 rfl (lv_at hl 0 rfl) ?_
      refine lv_icmp_ge (tgt := 20) hx hb dJ7_fill_53178_7 (by decide) (fun c_1 => ?_) (fun c_1 => ?_)
      · have nc_1 : N ≤ i := (nI_leI (a := N) (b := i) (by omega) (by omega)).mp c_1
        exact hret _ _ _ _ _ (show u = cFill v n x N from by rw [eu, show i = N by omega]) hP hS dJ7_fill_53178_20
      · have nc_1 : ¬ N ≤ i := fun h => c_1 ((nI_leI (a := N) (b := i) (by omega) (by omega)).mpr h)
        refine lv_aload_n hx hb dJ7_fill_53178_10 rfl (lv_at hl 2 rfl) ?_
        refine lv_iload_n hx hb dJ7_fill_53178_11 rfl (lv_at hl 1 rfl) ?_
        refine lv_iload_n hx hb dJ7_fill_53178_12 rfl (lv_at hl 3 rfl) ?_
        refine e_iast hx hb hK hP hI hS n N hk i rfl (by omega) (by omega) dJ7_fill_53178_13 (fun H locs hz1 hP hS => ?_)
        have hz := Nat.le_trans hz (Nat.le_of_eq hz1.symm)
        refine lv_iinc (v := (nI (i + 1))) (lv' := [(2, .int (nI (i + 1))), (3, .int (nI N)), (0, .ref (ad n)), (1, .int x)]) hx hb dJ7_fill_53178_14 hl (k := 1) rfl (nI_add i 1) (by decide) rfl (fun ls hl => ?_)
        refine lv_goto (tgt := 5) hx hb dJ7_fill_53178_17 (by decide) ?_
        exact ih5 (i + 1) (e_set u n i x) (by omega) (by omega) (by rw [eu]; rfl) _ _ hz hP hS ls (lv_sub hl [1, 0, 2, 3] rfl)
  exact L5 _ 0 v (Nat.lt_succ_self _) (Nat.zero_le _) (rfl) _ _ hz hP hS ls (lv_sub hl [0, 1, 2, 3] rfl)

set_option maxRecDepth 100000 in
set_option maxHeartbeats 4000000 in
theorem c_X3_isOnStage {l : Launch} {X : eD} {z0 : Nat} {ad kd sp : Nat → Nat} {v : eV} (x : Int32) : ePu l yX3_isOnStage cX3_isOnStage 1 (some .boolean) 0 [.int x] (e_W X z0 ad kd sp v) (some (.int (bI (cOn x)))) := by
  refine e_pureI (by decide +kernel) (Nat.le_of_ble_eq_true rfl) (bI_nar _) ?_
  intro p e s m args below meth c hx hb hml hown hts hW Q hret ls hl
  obtain ⟨hz, hP, hI, hK⟩ := hW
  have hl : lv_has ls 1 [(0, .int x)] := hl
  refine lv_iload_n hx hb dX3_isOnStage_0 rfl (lv_at hl 0 rfl) ?_
  refine lv_if_lt (tgt := 14) hx hb dX3_isOnStage_1 (by decide) (fun c_1 => ?_) (fun c_1 => ?_)
  · skip
    refine lv_iconst (v := 0) hx hb dX3_isOnStage_14 (by decide) ?_
    exact e_nrm (show 0 = bI (cOn x) from (by first | (simp [cOn, bI, c_1]; done) | (exfalso; simp_all; done))) (hret _ _ dX3_isOnStage_15)
  · skip
    refine lv_iload_n hx hb dX3_isOnStage_4 rfl (lv_at hl 0 rfl) ?_
    refine lv_bipush (v := 8) hx hb dX3_isOnStage_5 (by decide) ?_
    refine lv_icmp_ge (tgt := 14) hx hb dX3_isOnStage_7 (by decide) (fun c_2 => ?_) (fun c_2 => ?_)
    · have nc_2 : ¬ x < 8 := Int32.not_lt.mpr c_2
      refine lv_iconst (v := 0) hx hb dX3_isOnStage_14 (by decide) ?_
      exact e_nrm (show 0 = bI (cOn x) from (by first | (simp [cOn, bI, c_1, nc_2]; done) | (exfalso; simp_all; done))) (hret _ _ dX3_isOnStage_15)
    · have nc_2 : x < 8 := Int32.not_le.mp c_2
      refine lv_iconst (v := 1) hx hb dX3_isOnStage_10 (by decide) ?_
      refine lv_goto (tgt := 15) hx hb dX3_isOnStage_11 (by decide) ?_
      exact e_nrm (show 1 = bI (cOn x) from (by first | (simp [cOn, bI, c_1, nc_2]; done) | (exfalso; simp_all; done))) (hret _ _ dX3_isOnStage_15)

set_option maxRecDepth 100000 in
set_option maxHeartbeats 4000000 in
theorem c_X3_isMove {l : Launch} {X : eD} {z0 : Nat} {ad kd sp : Nat → Nat} {v : eV} (x : Int32) : ePu l yX3_isMove cX3_isMove 1 (some .boolean) 0 [.int x] (e_W X z0 ad kd sp v) (some (.int (bI (mIn x (-2) 2)))) := by
  refine e_pureI (by decide +kernel) (Nat.le_of_ble_eq_true rfl) (bI_nar _) ?_
  intro p e s m args below meth c hx hb hml hown hts hW Q hret ls hl
  obtain ⟨hz, hP, hI, hK⟩ := hW
  have hl : lv_has ls 1 [(0, .int x)] := hl
  refine lv_iload_n hx hb dX3_isMove_0 rfl (lv_at hl 0 rfl) ?_
  refine lv_bipush (v := (-2)) hx hb dX3_isMove_1 (by decide) ?_
  refine lv_icmp_lt (tgt := 15) hx hb dX3_isMove_3 (by decide) (fun c_1 => ?_) (fun c_1 => ?_)
  · skip
    refine lv_iconst (v := 0) hx hb dX3_isMove_15 (by decide) ?_
    exact e_nrm (show 0 = bI (mIn x (-2) 2) from (by first | (simp [mIn, bI, c_1]; done) | (exfalso; simp_all; done))) (hret _ _ dX3_isMove_16)
  · skip
    refine lv_iload_n hx hb dX3_isMove_6 rfl (lv_at hl 0 rfl) ?_
    refine lv_iconst (v := 2) hx hb dX3_isMove_7 (by decide) ?_
    refine lv_icmp_gt (tgt := 15) hx hb dX3_isMove_8 (by decide) (fun c_2 => ?_) (fun c_2 => ?_)
    · skip
      refine lv_iconst (v := 0) hx hb dX3_isMove_15 (by decide) ?_
      exact e_nrm (show 0 = bI (mIn x (-2) 2) from (by first | (simp [mIn, bI, c_1, c_2]; done) | (exfalso; simp_all; done))) (hret _ _ dX3_isMove_16)
    · skip
      refine lv_iconst (v := 1) hx hb dX3_isMove_11 (by decide) ?_
      refine lv_goto (tgt := 16) hx hb dX3_isMove_12 (by decide) ?_
      exact e_nrm (show 1 = bI (mIn x (-2) 2) from (by first | (simp [mIn, bI, c_1, c_2]; done) | (exfalso; simp_all; done))) (hret _ _ dX3_isMove_16)

set_option maxRecDepth 100000 in
set_option maxHeartbeats 4000000 in
theorem c_X3_takesPart {l : Launch} {X : eD} {z0 : Nat} {ad kd sp : Nat → Nat} {v : eV} (x : Int32) (d : Nat) : ePu l yX3_takesPart cX3_takesPart 2 (some .boolean) 0 [.int x, .int (nI d)] (e_W X z0 ad kd sp v) (some (.int (bI (cTakes x d)))) := by
  refine e_pureI (by decide +kernel) (Nat.le_of_ble_eq_true rfl) (bI_nar _) ?_
  intro p e s m args below meth c hx hb hml hown hts hW Q hret ls hl
  obtain ⟨hz, hP, hI, hK⟩ := hW
  have hl : lv_has ls 2 [(0, .int x), (1, .int (nI d))] := hl
  refine lv_iload_n hx hb dX3_takesPart_0 rfl (lv_at hl 0 rfl) ?_
  refine lv_iload_n hx hb dX3_takesPart_1 rfl (lv_at hl 1 rfl) ?_
  refine lv_ishr hx hb dX3_takesPart_2 ?_
  refine lv_iconst (v := 1) hx hb dX3_takesPart_3 (by decide) ?_
  refine lv_iand hx hb dX3_takesPart_4 ?_
  refine lv_if_eq (tgt := 12) hx hb dX3_takesPart_5 (by decide) (fun c_1 => ?_) (fun c_1 => ?_)
  · skip
    refine lv_iconst (v := 0) hx hb dX3_takesPart_12 (by decide) ?_
    exact e_nrm (show 0 = bI (cTakes x d) from (by first | (simp [cTakes, bI, c_1]; done) | (exfalso; simp_all; done))) (hret _ _ dX3_takesPart_13)
  · skip
    refine lv_iconst (v := 1) hx hb dX3_takesPart_8 (by decide) ?_
    refine lv_goto (tgt := 13) hx hb dX3_takesPart_9 (by decide) ?_
    exact e_nrm (show 1 = bI (cTakes x d) from (by first | (simp [cTakes, bI, c_1]; done) | (exfalso; simp_all; done))) (hret _ _ dX3_takesPart_13)

set_option maxRecDepth 100000 in
set_option maxHeartbeats 4000000 in
theorem c_X1_isBy {l : Launch} {X : eD} {z0 : Nat} {ad kd sp : Nat → Nat} {v : eV} (n : Nat) (hn : kd n = 4) (d : Int32) : ePu l yX1_isBy cX1_isBy 2 (some .boolean) 0 [.ref (ad n), .int d] (e_W X z0 ad kd sp v) (some (.int (bI (cBy v n d)))) := by
  refine e_pureI (by decide +kernel) (Nat.le_of_ble_eq_true rfl) (bI_nar _) ?_
  intro p e s m args below meth c hx hb hml hown hts hW Q hret ls hl
  obtain ⟨hz, hP, hI, hK⟩ := hW
  have hl : lv_has ls 2 [(0, .ref (ad n)), (1, .int d)] := hl
  refine lv_aload_n hx hb dX1_isBy_0 rfl (lv_at hl 0 rfl) ?_
  refine e_getf hx hb hts inX1 hown hK hP n 4 hn (by decide) rfl rfl 2 (by decide) aw_138 (fun _ h => h) rfl dX1_isBy_1 ?_
  refine lv_iload_n hx hb dX1_isBy_4 rfl (lv_at hl 1 rfl) ?_
  refine lv_icmp_eq (tgt := 16) hx hb dX1_isBy_5 (by decide) (fun c_1 => ?_) (fun c_1 => ?_)
  · skip
    refine lv_iconst (v := 1) hx hb dX1_isBy_16 (by decide) ?_
    refine lv_goto (tgt := 21) hx hb dX1_isBy_17 (by decide) ?_
    exact e_nrm (show 1 = bI (cBy v n d) from (by first | (simp [cBy, bI, eq_true c_1]; done) | (exfalso; simp_all; done))) (hret _ _ dX1_isBy_21)
  · skip
    refine lv_aload_n hx hb dX1_isBy_8 rfl (lv_at hl 0 rfl) ?_
    refine e_getf hx hb hts inX1 hown hK hP n 4 hn (by decide) rfl rfl 3 (by decide) aw_139 (fun _ h => h) rfl dX1_isBy_9 ?_
    refine lv_iload_n hx hb dX1_isBy_12 rfl (lv_at hl 1 rfl) ?_
    refine lv_icmp_ne (tgt := 20) hx hb dX1_isBy_13 (by decide) (fun c_2 => ?_) (fun c_2 => ?_)
    · skip
      refine lv_iconst (v := 0) hx hb dX1_isBy_20 (by decide) ?_
      exact e_nrm (show 0 = bI (cBy v n d) from (by first | (simp [cBy, bI, eq_false c_1, eq_false c_2]; done) | (exfalso; simp_all; done))) (hret _ _ dX1_isBy_21)
    · skip
      refine lv_iconst (v := 1) hx hb dX1_isBy_16 (by decide) ?_
      refine lv_goto (tgt := 21) hx hb dX1_isBy_17 (by decide) ?_
      exact e_nrm (show 1 = bI (cBy v n d) from (by first | (simp [cBy, bI, eq_false c_1, eq_true c_2]; done) | (exfalso; simp_all; done))) (hret _ _ dX1_isBy_21)

set_option maxRecDepth 100000 in
set_option maxHeartbeats 4000000 in
theorem c_X1_has {l : Launch} {X : eD} {z0 : Nat} {ad kd sp : Nat → Nat} {v : eV} (n : Nat) (hn : kd n = 4) (d : Int32) : ePu l yX1_has cX1_has 2 (some .boolean) 1 [.ref (ad n), .int d] (e_W X z0 ad kd sp v) (some (.int (bI (cHas v n d)))) := by
  refine e_pureI (by decide +kernel) (Nat.le_of_ble_eq_true rfl) (bI_nar _) ?_
  intro p e s m args below meth c hx hb hml hown hts hW Q hret ls hl
  obtain ⟨hz, hP, hI, hK⟩ := hW
  have hl : lv_has ls 2 [(0, .ref (ad n)), (1, .int d)] := hl
  refine lv_aload_n hx hb dX1_has_0 rfl (lv_at hl 0 rfl) ?_
  refine e_getf hx hb hts inX1 hown hK hP n 4 hn (by decide) rfl rfl 1 (by decide) aw_140 (fun _ h => h) rfl dX1_has_1 ?_
  refine lv_iload_n hx hb dX1_has_4 rfl (lv_at hl 1 rfl) ?_
  refine lv_icmp_eq (tgt := 16) hx hb dX1_has_5 (by decide) (fun c_1 => ?_) (fun c_1 => ?_)
  · skip
    refine lv_iconst (v := 1) hx hb dX1_has_16 (by decide) ?_
    refine lv_goto (tgt := 21) hx hb dX1_has_17 (by decide) ?_
    exact e_nrm (show 1 = bI (cHas v n d) from (by first | (simp [cHas, bI, eq_true c_1]; done) | (exfalso; simp_all; done))) (hret _ _ dX1_has_21)
  · skip
    refine lv_aload_n hx hb dX1_has_8 rfl (lv_at hl 0 rfl) ?_
    refine lv_iload_n hx hb dX1_has_9 rfl (lv_at hl 1 rfl) ?_
    refine e_cV (As := [.int d]) (rest := []) hx hb hml hown hts n (c_X1_isBy (l := l) n hn d) cw_RX1_26 (by decide) (by decide) hz hP hI hK hn (by decide) rfl rfl rfl hl.1 rfl (Nat.le_of_ble_eq_true rfl) ⟨Nat.zero_le _, Nat.zero_le _⟩ dX1_has_10 ?_
    refine lv_if_eq (tgt := 20) hx hb dX1_has_13 (by decide) (fun c_2 => ?_) (fun c_2 => ?_)
    · have nc_2 : (cBy v n d) = false := bI_0.mp c_2
      refine lv_iconst (v := 0) hx hb dX1_has_20 (by decide) ?_
      exact e_nrm (show 0 = bI (cHas v n d) from (by first | (simp [cHas, bI, eq_false c_1, nc_2]; done) | (exfalso; simp_all; done))) (hret _ _ dX1_has_21)
    · have nc_2 : (cBy v n d) = true := bI_n0.mp c_2
      refine lv_iconst (v := 1) hx hb dX1_has_16 (by decide) ?_
      refine lv_goto (tgt := 21) hx hb dX1_has_17 (by decide) ?_
      exact e_nrm (show 1 = bI (cHas v n d) from (by first | (simp [cHas, bI, eq_false c_1, nc_2]; done) | (exfalso; simp_all; done))) (hret _ _ dX1_has_21)

set_option maxRecDepth 100000 in
set_option maxHeartbeats 4000000 in
theorem c_X2_placeAheadOf {l : Launch} {X : eD} {z0 : Nat} {ad kd sp : Nat → Nat} {v : eV} (t : Nat) (ht : isT kd t) (c0 : Nat) (hc9 : c0 < 64) : ePu l yX2_placeAheadOf cX2_placeAheadOf 2 (some .int) 0 [.ref (ad t), .int (nI c0)] (e_W X z0 ad kd sp v) (some (.int (cAhead v t c0))) := by
  refine e_pureI (by decide +kernel) (Nat.le_of_ble_eq_true rfl) rfl ?_
  intro p e s m args below meth c hx hb hml hown hts hW Q hret ls hl
  obtain ⟨hz, hP, hI, hK⟩ := hW
  have hl : lv_has ls 2 [(0, .ref (ad t)), (1, .int (nI c0))] := hl
  refine lv_iload_n hx hb dX2_placeAheadOf_0 rfl (lv_at hl 1 rfl) ?_
  refine lv_if_le (tgt := 15) hx hb dX2_placeAheadOf_1 (by decide) (fun c_1 => ?_) (fun c_1 => ?_)
  · have nc_1 : ¬ 0 < c0 := by have := (nI_leI (a := c0) (b := 0) (by omega) (by omega)).mp c_1; omega
    refine lv_aload_n hx hb dX2_placeAheadOf_15 rfl (lv_at hl 0 rfl) ?_
    refine e_getf hx hb hts inX2 hown hK hP t 2 ht.1 (by decide) rfl rfl 0 (by decide) aw_147 (fun _ h => h) rfl dX2_placeAheadOf_16 ?_
    exact e_nrm (show (v t 0) = cAhead v t c0 from (by first | (simp [cAhead, bI, nc_1]; done) | (exfalso; simp_all; done))) (hret _ _ dX2_placeAheadOf_19)
  · have nc_1 : 0 < c0 := Nat.pos_of_ne_zero (fun h => c_1 ((nI_leI (a := c0) (b := 0) (by omega) (by omega)).mpr (by omega)))
    refine lv_aload_n hx hb dX2_placeAheadOf_4 rfl (lv_at hl 0 rfl) ?_
    refine e_getf hx hb hts inX2 hown hK hP t 2 ht.1 (by decide) rfl rfl 2 (by decide) aw_148 (fun _ h => h) rfl dX2_placeAheadOf_5 ?_
    refine lv_iload_n hx hb dX2_placeAheadOf_8 rfl (lv_at hl 1 rfl) ?_
    refine lv_iconst (v := 1) hx hb dX2_placeAheadOf_9 (by decide) ?_
    refine lv_isub hx hb dX2_placeAheadOf_10 ?_
    refine e_nrm (y := (nI (c0 - 1))) (pk_sub (a := c0) (b := 1) (by omega)) ?_
    refine e_iald hx hb hK hP (t + 2) 64 ht.2.2 (c0 - 1) rfl (by omega) (by decide) dX2_placeAheadOf_11 ?_
    refine lv_goto (tgt := 19) hx hb dX2_placeAheadOf_12 (by decide) ?_
    exact e_nrm (show (v (t + 2) (c0 - 1)) = cAhead v t c0 from (by first | (simp [cAhead, bI, nc_1]; done) | (exfalso; simp_all; done))) (hret _ _ dX2_placeAheadOf_19)

set_option maxRecDepth 100000 in
set_option maxHeartbeats 4000000 in
theorem c_X2_followedTo {l : Launch} {X : eD} {z0 : Nat} {ad kd sp : Nat → Nat} {v : eV} (t : Nat) (ht : isT kd t) (c0 : Nat) (hc9 : c0 < 64) : ePu l yX2_followedTo cX2_followedTo 4 (some .int) 0 [.ref (ad t), .int (nI c0)] (e_W X z0 ad kd sp v) (some (.int (cFollow v t (c0 + 1)))) := by
  refine e_pureI (by decide +kernel) (Nat.le_of_ble_eq_true rfl) rfl ?_
  intro p e s m args below meth c hx hb hml hown hts hW Q hret ls hl
  obtain ⟨hz, hP, hI, hK⟩ := hW
  have hl : lv_has ls 4 [(0, .ref (ad t)), (1, .int (nI c0))] := hl
  refine lv_aload_n hx hb dX2_followedTo_0 rfl (lv_at hl 0 rfl) ?_
  refine e_getf hx hb hts inX2 hown hK hP t 2 ht.1 (by decide) rfl rfl 0 (by decide) aw_147 (fun _ h => h) rfl dX2_followedTo_1 ?_
  refine lv_istore_n (lv' := [(2, .int (v t 0)), (0, .ref (ad t)), (1, .int (nI c0))]) hx hb dX2_followedTo_4 rfl hl (by decide) rfl (fun ls hl => ?_)
  refine lv_iconst (v := 0) hx hb dX2_followedTo_5 (by decide) ?_
  refine lv_istore_n (lv' := [(3, .int 0), (2, .int (v t 0)), (0, .ref (ad t)), (1, .int (nI c0))]) hx hb dX2_followedTo_6 rfl hl (by decide) rfl (fun ls hl => ?_)
  have L7 : ∀ (k7 : Nat) (i : Nat) (x2 : Int32), c0 + 1 - i < k7 → (i ≤ c0 + 1) → (x2 = cFollow v t i) →  ∀ ls : Array Slot, lv_has ls 4 [(3, .int (nI i)), (2, .int x2), (0, .ref (ad t)), (1, .int (nI c0))] → W p l e (e_rm 0 0 0) s m args below meth c s.heap [] 0 0 Q (F0 m 7 ls []) := by
    intro k7
    induction k7 with
    | zero => intro i x2 hk; exact absurd hk (Nat.not_lt_zero _)
    | succ k7 ih7 =>
      intro i x2 hk7 hi ex2 ls hl
      refine lv_iload_n hx hb dX2_followedTo_7 rfl (lv_at hl 0 rfl) ?_
      refine lv_iload_n hx hb dX2_followedTo_8 rfl (lv_at hl 3 rfl) ?_
      refine lv_icmp_gt (tgt := 27) hx hb dX2_followedTo_9 (by decide) (fun c_1 => ?_) (fun c_1 => ?_)
      · have nc_1 : c0 < i := (nI_ltI (a := c0) (b := i) (by omega) (by omega)).mp c_1
        refine lv_iload_n hx hb dX2_followedTo_27 rfl (lv_at hl 1 rfl) ?_
        exact e_nrm (show x2 = cFollow v t (c0 + 1) from by rw [ex2, show i = c0 + 1 by omega]) (hret _ _ dX2_followedTo_28)
      · have nc_1 : ¬ c0 < i := fun h => c_1 ((nI_ltI (a := c0) (b := i) (by omega) (by omega)).mpr h)
        refine lv_iload_n hx hb dX2_followedTo_12 rfl (lv_at hl 1 rfl) ?_
        refine lv_aload_n hx hb dX2_followedTo_13 rfl (lv_at hl 2 rfl) ?_
        refine e_getf hx hb hts inX2 hown hK hP t 2 ht.1 (by decide) rfl rfl 1 (by decide) aw_149 (fun _ h => h) rfl dX2_followedTo_14 ?_
        refine lv_iload_n hx hb dX2_followedTo_17 rfl (lv_at hl 0 rfl) ?_
        refine e_iald hx hb hK hP (t + 1) 64 ht.2.1 i rfl (by omega) (by decide) dX2_followedTo_18 ?_
        refine lv_iadd hx hb dX2_followedTo_19 ?_
        refine lv_istore_n (lv' := [(2, .int (x2 + (v (t + 1) i))), (3, .int (nI i)), (0, .ref (ad t)), (1, .int (nI c0))]) hx hb dX2_followedTo_20 rfl hl (by decide) rfl (fun ls hl => ?_)
        refine lv_iinc (v := (nI (i + 1))) (lv' := [(3, .int (nI (i + 1))), (2, .int (x2 + (v (t + 1) i))), (0, .ref (ad t)), (1, .int (nI c0))]) hx hb dX2_followedTo_21 hl (k := 1) rfl (nI_add i 1) (by decide) rfl (fun ls hl => ?_)
        refine lv_goto (tgt := 7) hx hb dX2_followedTo_24 (by decide) ?_
        exact ih7 (i + 1) (x2 + (v (t + 1) i)) (by omega) (by omega) (by rw [ex2]; unfold cFollow; rw [Int32.add_assoc]; rfl)  ls (lv_sub hl [0, 1, 2, 3] rfl)
  exact L7 _ 0 (v t 0) (Nat.lt_succ_self _) (Nat.zero_le _) (by show _ = _ + 0; rw [Int32.add_zero])  ls (lv_sub hl [0, 1, 2, 3] rfl)

set_option maxRecDepth 100000 in
set_option maxHeartbeats 4000000 in
theorem c_X2_wayIn {l : Launch} {X : eD} {z0 : Nat} {ad kd sp : Nat → Nat} {v : eV} (t : Nat) (ht : isT kd t) (a b : Nat) (ha : a < 64) (hb9 : b < 64) : ePu l yX2_wayIn cX2_wayIn 5 (some .int) 1 [.ref (ad t), .int (nI a), .int (nI b)] (e_W X z0 ad kd sp v) (some (.int (cWayIn v t a (b + 1 - a)))) := by
  refine e_pureI (by decide +kernel) (Nat.le_of_ble_eq_true rfl) rfl ?_
  intro p e s m args below meth c hx hb hml hown hts hW Q hret ls hl
  obtain ⟨hz, hP, hI, hK⟩ := hW
  have hl : lv_has ls 5 [(0, .ref (ad t)), (1, .int (nI a)), (2, .int (nI b))] := hl
  refine lv_iconst (v := 0) hx hb dX2_wayIn_0 (by decide) ?_
  refine lv_istore_n (lv' := [(3, .int 0), (0, .ref (ad t)), (1, .int (nI a)), (2, .int (nI b))]) hx hb dX2_wayIn_1 rfl hl (by decide) rfl (fun ls hl => ?_)
  refine lv_iload_n hx hb dX2_wayIn_2 rfl (lv_at hl 2 rfl) ?_
  refine lv_istore (lv' := [(4, .int (nI a)), (3, .int 0), (0, .ref (ad t)), (1, .int (nI a)), (2, .int (nI b))]) hx hb dX2_wayIn_3 hl (by decide) rfl (fun ls hl => ?_)
  have L5 : ∀ (k5 : Nat) (i : Nat) (x3 : Int32), b + 1 - a - i < k5 → (i ≤ b + 1 - a) → (x3 = cWayIn v t a i) →  ∀ ls : Array Slot, lv_has ls 5 [(4, .int (nI (a + i))), (3, .int x3), (0, .ref (ad t)), (1, .int (nI a)), (2, .int (nI b))] → W p l e (e_rm 1 0 0) s m args below meth c s.heap [] 0 0 Q (F0 m 5 ls []) := by
    intro k5
    induction k5 with
    | zero => intro i x3 hk; exact absurd hk (Nat.not_lt_zero _)
    | succ k5 ih5 =>
      intro i x3 hk5 hi ex3 ls hl
      refine lv_iload hx hb dX2_wayIn_5 (lv_at hl 0 rfl) ?_
      refine lv_iload_n hx hb dX2_wayIn_7 rfl (lv_at hl 4 rfl) ?_
      refine lv_icmp_gt (tgt := 30) hx hb dX2_wayIn_8 (by decide) (fun c_1 => ?_) (fun c_1 => ?_)
      · have nc_1 : b < (a + i) := (nI_ltI (a := b) (b := (a + i)) (by omega) (by omega)).mp c_1
        refine lv_iload_n hx hb dX2_wayIn_30 rfl (lv_at hl 1 rfl) ?_
        exact e_nrm (show x3 = cWayIn v t a (b + 1 - a) from by rw [ex3, show i = b + 1 - a by omega]) (hret _ _ dX2_wayIn_31)
      · have nc_1 : ¬ b < (a + i) := fun h => c_1 ((nI_ltI (a := b) (b := (a + i)) (by omega) (by omega)).mpr h)
        refine lv_iload_n hx hb dX2_wayIn_11 rfl (lv_at hl 1 rfl) ?_
        refine lv_aload_n hx hb dX2_wayIn_12 rfl (lv_at hl 2 rfl) ?_
        refine e_getf hx hb hts inX2 hown hK hP t 2 ht.1 (by decide) rfl rfl 1 (by decide) aw_149 (fun _ h => h) rfl dX2_wayIn_13 ?_
        refine lv_iload hx hb dX2_wayIn_16 (lv_at hl 0 rfl) ?_
        refine e_iald hx hb hK hP (t + 1) 64 ht.2.1 (a + i) rfl (by omega) (by decide) dX2_wayIn_18 ?_
        refine va_mabs hx hb (hml.trans hl.1.symm) hown (hts _ aw_150) (hts _ aw_153) (hts _ aw_154) (hts _ em_code_abs) (by decide) (Nat.le_of_ble_eq_true rfl) (Nat.zero_le _) (Nat.zero_le _) dX2_wayIn_19 ?_
        refine e_nrm (y := mFlat (v (t + 1) (a + i))) e_absF ?_
        refine lv_iadd hx hb dX2_wayIn_22 ?_
        refine lv_istore_n (lv' := [(3, .int (x3 + (mFlat (v (t + 1) (a + i))))), (4, .int (nI (a + i))), (0, .ref (ad t)), (1, .int (nI a)), (2, .int (nI b))]) hx hb dX2_wayIn_23 rfl hl (by decide) rfl (fun ls hl => ?_)
        refine lv_iinc (v := (nI ((a + i) + 1))) (lv' := [(4, .int (nI ((a + i) + 1))), (3, .int (x3 + (mFlat (v (t + 1) (a + i))))), (0, .ref (ad t)), (1, .int (nI a)), (2, .int (nI b))]) hx hb dX2_wayIn_24 hl (k := 1) rfl (nI_add (a + i) 1) (by decide) rfl (fun ls hl => ?_)
        refine lv_goto (tgt := 5) hx hb dX2_wayIn_27 (by decide) ?_
        exact ih5 (i + 1) (x3 + (mFlat (v (t + 1) (a + i)))) (by omega) (by omega) (by rw [ex3]; rfl)  ls (lv_sub hl [0, 1, 2, 3, 4] rfl)
  exact L5 _ 0 0 (Nat.lt_succ_self _) (Nat.zero_le _) (rfl)  ls (lv_sub hl [0, 1, 2, 3, 4] rfl)

set_option maxRecDepth 100000 in
set_option maxHeartbeats 4000000 in
theorem c_X2_wayTo {l : Launch} {X : eD} {z0 : Nat} {ad kd sp : Nat → Nat} {v : eV} (t : Nat) (ht : isT kd t) (g : Nat) (hg : isT kd g) (c0 : Nat) (hc9 : c0 < 64) : ePu l yX2_wayTo cX2_wayTo 3 (some .int) 0 [.ref (ad t), .ref (ad g), .int (nI c0)] (e_W X z0 ad kd sp v) (some (.int (cWay v t g c0))) := by
  refine e_pureI (by decide +kernel) (Nat.le_of_ble_eq_true rfl) rfl ?_
  intro p e s m args below meth c hx hb hml hown hts hW Q hret ls hl
  obtain ⟨hz, hP, hI, hK⟩ := hW
  have hl : lv_has ls 3 [(0, .ref (ad t)), (1, .ref (ad g)), (2, .int (nI c0))] := hl
  refine lv_aload_n hx hb dX2_wayTo_0 rfl (lv_at hl 1 rfl) ?_
  refine e_getf hx hb hts inX2 hown hK hP g 2 hg.1 (by decide) rfl rfl 2 (by decide) aw_148 (fun _ h => h) rfl dX2_wayTo_1 ?_
  refine lv_iload_n hx hb dX2_wayTo_4 rfl (lv_at hl 2 rfl) ?_
  refine e_iald hx hb hK hP (g + 2) 64 hg.2.2 c0 rfl (by omega) (by decide) dX2_wayTo_5 ?_
  refine lv_aload_n hx hb dX2_wayTo_6 rfl (lv_at hl 0 rfl) ?_
  refine e_getf hx hb hts inX2 hown hK hP t 2 ht.1 (by decide) rfl rfl 2 (by decide) aw_148 (fun _ h => h) rfl dX2_wayTo_7 ?_
  refine lv_iload_n hx hb dX2_wayTo_10 rfl (lv_at hl 2 rfl) ?_
  refine e_iald hx hb hK hP (t + 2) 64 ht.2.2 c0 rfl (by omega) (by decide) dX2_wayTo_11 ?_
  refine lv_isub hx hb dX2_wayTo_12 ?_
  exact e_nrm (show ((v (g + 2) c0) - (v (t + 2) c0)) = cWay v t g c0 from rfl) (hret _ _ dX2_wayTo_13)

set_option maxRecDepth 100000 in
set_option maxHeartbeats 4000000 in
theorem c_X2_canVisit {l : Launch} {X : eD} {z0 : Nat} {ad kd sp : Nat → Nat} {v : eV} (t : Nat) (ht : isT kd t) (g : Nat) (hg : isT kd g) (c0 : Nat) (hc9 : c0 < 64) : ePu l yX2_canVisit cX2_canVisit 4 (some .boolean) 3 [.ref (ad t), .ref (ad g), .int (nI c0)] (e_W X z0 ad kd sp v) (some (.int (bI (cCanT v t g c0)))) := by
  refine e_pureI (by decide +kernel) (Nat.le_of_ble_eq_true rfl) (bI_nar _) ?_
  intro p e s m args below meth c hx hb hml hown hts hW Q hret ls hl
  obtain ⟨hz, hP, hI, hK⟩ := hW
  have hl : lv_has ls 4 [(0, .ref (ad t)), (1, .ref (ad g)), (2, .int (nI c0))] := hl
  refine lv_iload_n hx hb dX2_canVisit_0 rfl (lv_at hl 2 rfl) ?_
  refine lv_bipush (v := 63) hx hb dX2_canVisit_1 (by decide) ?_
  refine lv_icmp_lt (tgt := 8) hx hb dX2_canVisit_3 (by decide) (fun c_1 => ?_) (fun c_1 => ?_)
  · have nc_1 : c0 < 63 := (nI_ltI (a := c0) (b := 63) (by omega) (by omega)).mp c_1
    refine lv_aload_n hx hb dX2_canVisit_8 rfl (lv_at hl 0 rfl) ?_
    refine lv_aload_n hx hb dX2_canVisit_9 rfl (lv_at hl 1 rfl) ?_
    refine lv_iload_n hx hb dX2_canVisit_10 rfl (lv_at hl 2 rfl) ?_
    refine e_cV (As := [.ref (ad g), .int (nI c0)]) (rest := []) hx hb hml hown hts t (c_X2_wayTo (l := l) t ht g hg c0 (by omega)) cw_RX2_34 (by decide) (by decide) hz hP hI hK ht.1 (by decide) rfl rfl rfl hl.1 rfl (Nat.le_of_ble_eq_true rfl) ⟨Nat.zero_le _, Nat.zero_le _⟩ dX2_canVisit_11 ?_
    refine lv_istore_n (lv' := [(3, .int (cWay v t g c0)), (0, .ref (ad t)), (1, .ref (ad g)), (2, .int (nI c0))]) hx hb dX2_canVisit_14 rfl hl (by decide) rfl (fun ls hl => ?_)
    refine lv_iload_n hx hb dX2_canVisit_15 rfl (lv_at hl 0 rfl) ?_
    refine e_cSN (k := 1) (As := [.int (cWay v t g c0)]) (rest := []) hx hb hml hown hts (c_X3_isMove (l := l) (cWay v t g c0)) hK.2.1 aw_161 aw_162 aw_163 (by decide +kernel) (by decide) (by decide) hz hP hI hK rfl hl.1 rfl (Nat.le_of_ble_eq_true rfl) ⟨Nat.zero_le _, Nat.zero_le _⟩ dX2_canVisit_16 ?_
    refine lv_if_eq (tgt := 56) hx hb dX2_canVisit_19 (by decide) (fun c_2 => ?_) (fun c_2 => ?_)
    · have nc_2 : (mIn (cWay v t g c0) (-2) 2) = false := bI_0.mp c_2
      refine lv_iconst (v := 0) hx hb dX2_canVisit_56 (by decide) ?_
      exact e_nrm (show 0 = bI (cCanT v t g c0) from (by first | (simp [cCanT, bI, nc_1, nc_2]; done) | (exfalso; simp_all; done))) (hret _ _ dX2_canVisit_57)
    · have nc_2 : (mIn (cWay v t g c0) (-2) 2) = true := bI_n0.mp c_2
      refine lv_aload_n hx hb dX2_canVisit_22 rfl (lv_at hl 1 rfl) ?_
      refine e_getf hx hb hts inX2 hown hK hP t 2 ht.1 (by decide) rfl rfl 1 (by decide) aw_149 (fun _ h => h) rfl dX2_canVisit_23 ?_
      refine lv_iload_n hx hb dX2_canVisit_26 rfl (lv_at hl 3 rfl) ?_
      refine e_iald hx hb hK hP (t + 1) 64 ht.2.1 c0 rfl (by omega) (by decide) dX2_canVisit_27 ?_
      refine lv_iload_n hx hb dX2_canVisit_28 rfl (lv_at hl 0 rfl) ?_
      refine lv_iadd hx hb dX2_canVisit_29 ?_
      refine e_cSN (k := 1) (As := [.int ((v (t + 1) c0) + (cWay v t g c0))]) (rest := []) hx hb hml hown hts (c_X3_isMove (l := l) ((v (t + 1) c0) + (cWay v t g c0))) hK.2.1 aw_161 aw_162 aw_163 (by decide +kernel) (by decide) (by decide) hz hP hI hK rfl hl.1 rfl (Nat.le_of_ble_eq_true rfl) ⟨Nat.zero_le _, Nat.zero_le _⟩ dX2_canVisit_30 ?_
      refine lv_if_eq (tgt := 56) hx hb dX2_canVisit_33 (by decide) (fun c_3 => ?_) (fun c_3 => ?_)
      · have nc_3 : (mIn ((v (t + 1) c0) + (cWay v t g c0)) (-2) 2) = false := bI_0.mp c_3
        refine lv_iconst (v := 0) hx hb dX2_canVisit_56 (by decide) ?_
        exact e_nrm (show 0 = bI (cCanT v t g c0) from (by first | (simp [cCanT, bI, nc_1, nc_2, nc_3]; done) | (exfalso; simp_all; done))) (hret _ _ dX2_canVisit_57)
      · have nc_3 : (mIn ((v (t + 1) c0) + (cWay v t g c0)) (-2) 2) = true := bI_n0.mp c_3
        refine lv_aload_n hx hb dX2_canVisit_36 rfl (lv_at hl 1 rfl) ?_
        refine e_getf hx hb hts inX2 hown hK hP t 2 ht.1 (by decide) rfl rfl 1 (by decide) aw_149 (fun _ h => h) rfl dX2_canVisit_37 ?_
        refine lv_iload_n hx hb dX2_canVisit_40 rfl (lv_at hl 3 rfl) ?_
        refine lv_iconst (v := 1) hx hb dX2_canVisit_41 (by decide) ?_
        refine lv_iadd hx hb dX2_canVisit_42 ?_
        refine e_nrm (y := (nI (c0 + 1))) (nI_add c0 1) ?_
        refine e_iald hx hb hK hP (t + 1) 64 ht.2.1 (c0 + 1) rfl (by omega) (by decide) dX2_canVisit_43 ?_
        refine lv_iload_n hx hb dX2_canVisit_44 rfl (lv_at hl 0 rfl) ?_
        refine lv_isub hx hb dX2_canVisit_45 ?_
        refine e_cSN (k := 1) (As := [.int ((v (t + 1) (c0 + 1)) - (cWay v t g c0))]) (rest := []) hx hb hml hown hts (c_X3_isMove (l := l) ((v (t + 1) (c0 + 1)) - (cWay v t g c0))) hK.2.1 aw_161 aw_162 aw_163 (by decide +kernel) (by decide) (by decide) hz hP hI hK rfl hl.1 rfl (Nat.le_of_ble_eq_true rfl) ⟨Nat.zero_le _, Nat.zero_le _⟩ dX2_canVisit_46 ?_
        refine lv_if_eq (tgt := 56) hx hb dX2_canVisit_49 (by decide) (fun c_4 => ?_) (fun c_4 => ?_)
        · have nc_4 : (mIn ((v (t + 1) (c0 + 1)) - (cWay v t g c0)) (-2) 2) = false := bI_0.mp c_4
          refine lv_iconst (v := 0) hx hb dX2_canVisit_56 (by decide) ?_
          exact e_nrm (show 0 = bI (cCanT v t g c0) from (by first | (simp [cCanT, bI, nc_1, nc_2, nc_3, nc_4]; done) | (exfalso; simp_all; done))) (hret _ _ dX2_canVisit_57)
        · have nc_4 : (mIn ((v (t + 1) (c0 + 1)) - (cWay v t g c0)) (-2) 2) = true := bI_n0.mp c_4
          refine lv_iconst (v := 1) hx hb dX2_canVisit_52 (by decide) ?_
          refine lv_goto (tgt := 57) hx hb dX2_canVisit_53 (by decide) ?_
          exact e_nrm (show 1 = bI (cCanT v t g c0) from (by first | (simp [cCanT, bI, nc_1, nc_2, nc_3, nc_4]; done) | (exfalso; simp_all; done))) (hret _ _ dX2_canVisit_57)
  · have nc_1 : ¬ c0 < 63 := fun h => c_1 ((nI_ltI (a := c0) (b := 63) (by omega) (by omega)).mpr h)
    refine lv_iconst (v := 0) hx hb dX2_canVisit_6 (by decide) ?_
    exact e_nrm (show 0 = bI (cCanT v t g c0) from (by first | (simp [cCanT, bI, nc_1]; done) | (exfalso; simp_all; done))) (hret _ _ dX2_canVisit_7)

set_option maxRecDepth 100000 in
set_option maxHeartbeats 4000000 in
theorem c_X0_track {l : Launch} {X : eD} {z0 : Nat} {ad kd sp : Nat → Nat} {v : eV} (d : Nat) (hd : isD kd d) (b : Int32) : ePu l yX0_track cX0_track 2 (some (.object "Stepscript$Track")) 0 [.ref (ad d), .int b] (e_W X z0 ad kd sp v) (some (.ref (ad (cTr d b)))) := by
  refine e_pureR (by decide +kernel) (Nat.le_of_ble_eq_true rfl) (Or.inl ⟨_, rfl⟩) ?_
  intro p e s m args below meth c hx hb hml hown hts hW Q hret ls hl
  obtain ⟨hz, hP, hI, hK⟩ := hW
  have hl : lv_has ls 2 [(0, .ref (ad d)), (1, .int b)] := hl
  refine lv_iload_n hx hb dX0_track_0 rfl (lv_at hl 1 rfl) ?_
  refine lv_if_eq (tgt := 11) hx hb dX0_track_1 (by decide) (fun c_1 => ?_) (fun c_1 => ?_)
  · skip
    refine lv_aload_n hx hb dX0_track_11 rfl (lv_at hl 0 rfl) ?_
    refine e_getf hx hb hts inX0 hown hK hP d 1 hd.1 (by decide) rfl rfl 0 (by decide) aw_164 (fun _ h => h) rfl dX0_track_12 ?_
    exact e_nrmr (show (d + 1) = cTr d b from (by simp [cTr, c_1])) (hret _ _ dX0_track_15)
  · skip
    refine lv_aload_n hx hb dX0_track_4 rfl (lv_at hl 0 rfl) ?_
    refine e_getf hx hb hts inX0 hown hK hP d 1 hd.1 (by decide) rfl rfl 1 (by decide) aw_165 (fun _ h => h) rfl dX0_track_5 ?_
    refine lv_goto (tgt := 15) hx hb dX0_track_8 (by decide) ?_
    exact e_nrmr (show (d + 4) = cTr d b from (by simp [cTr, c_1])) (hret _ _ dX0_track_15)

set_option maxRecDepth 100000 in
set_option maxHeartbeats 4000000 in
theorem c_X0_countsWithMoves {l : Launch} {X : eD} {z0 : Nat} {ad kd sp : Nat → Nat} {v : eV} (d : Nat) (hd : isD kd d) : ePu l yX0_countsWithMoves cX0_countsWithMoves 3 (some .int) 0 [.ref (ad d)] (e_W X z0 ad kd sp v) (some (.int (cCount v d 64))) := by
  refine e_pureI (by decide +kernel) (Nat.le_of_ble_eq_true rfl) rfl ?_
  intro p e s m args below meth c hx hb hml hown hts hW Q hret ls hl
  obtain ⟨hz, hP, hI, hK⟩ := hW
  have hl : lv_has ls 3 [(0, .ref (ad d))] := hl
  refine lv_iconst (v := 0) hx hb dX0_countsWithMoves_0 (by decide) ?_
  refine lv_istore_n (lv' := [(1, .int 0), (0, .ref (ad d))]) hx hb dX0_countsWithMoves_1 rfl hl (by decide) rfl (fun ls hl => ?_)
  refine lv_iconst (v := 0) hx hb dX0_countsWithMoves_2 (by decide) ?_
  refine lv_istore_n (lv' := [(2, .int 0), (1, .int 0), (0, .ref (ad d))]) hx hb dX0_countsWithMoves_3 rfl hl (by decide) rfl (fun ls hl => ?_)
  have L4 : ∀ (k4 : Nat) (i : Nat) (x1 : Int32), 64 - i < k4 → (i ≤ 64) → (x1 = cCount v d i) →  ∀ ls : Array Slot, lv_has ls 3 [(2, .int (nI i)), (1, .int x1), (0, .ref (ad d))] → W p l e (e_rm 0 0 0) s m args below meth c s.heap [] 0 0 Q (F0 m 4 ls []) := by
    intro k4
    induction k4 with
    | zero => intro i x1 hk; exact absurd hk (Nat.not_lt_zero _)
    | succ k4 ih4 =>
      intro i x1 hk4 hi ex1 ls hl
      refine lv_iload_n hx hb dX0_countsWithMoves_4 rfl (lv_at hl 0 rfl) ?_
      refine lv_bipush (v := 64) hx hb dX0_countsWithMoves_5 (by decide) ?_
      refine lv_icmp_ge (tgt := 43) hx hb dX0_countsWithMoves_7 (by decide) (fun c_1 => ?_) (fun c_1 => ?_)
      · have nc_1 : 64 ≤ i := (nI_leI (a := 64) (b := i) (by omega) (by omega)).mp c_1
        refine lv_iload_n hx hb dX0_countsWithMoves_43 rfl (lv_at hl 1 rfl) ?_
        exact e_nrm (show x1 = cCount v d 64 from by rw [ex1, show i = 64 by omega]) (hret _ _ dX0_countsWithMoves_44)
      · have nc_1 : ¬ 64 ≤ i := fun h => c_1 ((nI_leI (a := 64) (b := i) (by omega) (by omega)).mpr h)
        refine lv_aload_n hx hb dX0_countsWithMoves_10 rfl (lv_at hl 2 rfl) ?_
        refine e_getf hx hb hts inX0 hown hK hP d 1 hd.1 (by decide) rfl rfl 0 (by decide) aw_164 (fun _ h => h) rfl dX0_countsWithMoves_11 ?_
        refine e_getf hx hb hts inX2 hown hK hP (d + 1) 2 ((hd.2.1).1) (by decide) rfl rfl 1 (by decide) aw_166 (fun _ h => h) rfl dX0_countsWithMoves_14 ?_
        refine lv_iload_n hx hb dX0_countsWithMoves_17 rfl (lv_at hl 0 rfl) ?_
        refine e_iald hx hb hK hP ((d + 1) + 1) 64 hd.2.1.2.1 i rfl (by omega) (by decide) dX0_countsWithMoves_18 ?_
        refine lv_if_ne (tgt := 34) hx hb dX0_countsWithMoves_19 (by decide) (fun c_2 => ?_) (fun c_2 => ?_)
        · skip
          refine lv_iinc (v := (x1 + 1)) (lv' := [(1, .int (x1 + 1)), (2, .int (nI i)), (0, .ref (ad d))]) hx hb dX0_countsWithMoves_34 hl (k := 1) rfl rfl (by decide) rfl (fun ls hl => ?_)
          refine lv_iinc (v := (nI (i + 1))) (lv' := [(2, .int (nI (i + 1))), (1, .int (x1 + 1)), (0, .ref (ad d))]) hx hb dX0_countsWithMoves_37 hl (k := 1) rfl (nI_add i 1) (by decide) rfl (fun ls hl => ?_)
          refine lv_goto (tgt := 4) hx hb dX0_countsWithMoves_40 (by decide) ?_
          exact ih4 (i + 1) (x1 + 1) (by omega) (by omega) (sum_t ex1 (by simp [nc_1, c_2]))  ls (lv_sub hl [0, 1, 2] rfl)
        · skip
          refine lv_aload_n hx hb dX0_countsWithMoves_22 rfl (lv_at hl 2 rfl) ?_
          refine e_getf hx hb hts inX0 hown hK hP d 1 hd.1 (by decide) rfl rfl 1 (by decide) aw_165 (fun _ h => h) rfl dX0_countsWithMoves_23 ?_
          refine e_getf hx hb hts inX2 hown hK hP (d + 4) 2 ((hd.2.2).1) (by decide) rfl rfl 1 (by decide) aw_166 (fun _ h => h) rfl dX0_countsWithMoves_26 ?_
          refine lv_iload_n hx hb dX0_countsWithMoves_29 rfl (lv_at hl 0 rfl) ?_
          refine e_iald hx hb hK hP ((d + 4) + 1) 64 hd.2.2.2.1 i rfl (by omega) (by decide) dX0_countsWithMoves_30 ?_
          refine lv_if_eq (tgt := 37) hx hb dX0_countsWithMoves_31 (by decide) (fun c_3 => ?_) (fun c_3 => ?_)
          · skip
            refine lv_iinc (v := (nI (i + 1))) (lv' := [(2, .int (nI (i + 1))), (1, .int x1), (0, .ref (ad d))]) hx hb dX0_countsWithMoves_37 hl (k := 0) rfl (nI_add i 1) (by decide) rfl (fun ls hl => ?_)
            refine lv_goto (tgt := 4) hx hb dX0_countsWithMoves_40 (by decide) ?_
            exact ih4 (i + 1) x1 (by omega) (by omega) (sum_f ex1 (by simp [nc_1, c_2, c_3]))  ls (lv_sub hl [0, 1, 2] rfl)
          · skip
            refine lv_iinc (v := (x1 + 1)) (lv' := [(1, .int (x1 + 1)), (2, .int (nI i)), (0, .ref (ad d))]) hx hb dX0_countsWithMoves_34 hl (k := 1) rfl rfl (by decide) rfl (fun ls hl => ?_)
            refine lv_iinc (v := (nI (i + 1))) (lv' := [(2, .int (nI (i + 1))), (1, .int (x1 + 1)), (0, .ref (ad d))]) hx hb dX0_countsWithMoves_37 hl (k := 1) rfl (nI_add i 1) (by decide) rfl (fun ls hl => ?_)
            refine lv_goto (tgt := 4) hx hb dX0_countsWithMoves_40 (by decide) ?_
            exact ih4 (i + 1) (x1 + 1) (by omega) (by omega) (sum_t ex1 (by simp [nc_1, c_2, c_3]))  ls (lv_sub hl [0, 1, 2] rfl)
  exact L4 _ 0 0 (Nat.lt_succ_self _) (Nat.zero_le _) (rfl)  ls (lv_sub hl [0, 1, 2] rfl)

set_option maxRecDepth 100000 in
set_option maxHeartbeats 4000000 in
theorem c_X0_isOffStage {l : Launch} {X : eD} {z0 : Nat} {ad kd sp : Nat → Nat} {v : eV} (d : Nat) (hd : isD kd d) (c0 : Nat) (hc9 : c0 < 64) : ePu l yX0_isOffStage cX0_isOffStage 2 (some .boolean) 3 [.ref (ad d), .int (nI c0)] (e_W X z0 ad kd sp v) (some (.int (bI (cOff v d c0)))) := by
  refine e_pureI (by decide +kernel) (Nat.le_of_ble_eq_true rfl) (bI_nar _) ?_
  intro p e s m args below meth c hx hb hml hown hts hW Q hret ls hl
  obtain ⟨hz, hP, hI, hK⟩ := hW
  have hl : lv_has ls 2 [(0, .ref (ad d)), (1, .int (nI c0))] := hl
  refine lv_aload_n hx hb dX0_isOffStage_0 rfl (lv_at hl 0 rfl) ?_
  refine e_getf hx hb hts inX0 hown hK hP d 1 hd.1 (by decide) rfl rfl 0 (by decide) aw_164 (fun _ h => h) rfl dX0_isOffStage_1 ?_
  refine e_getf hx hb hts inX2 hown hK hP (d + 1) 2 ((hd.2.1).1) (by decide) rfl rfl 2 (by decide) aw_167 (fun _ h => h) rfl dX0_isOffStage_4 ?_
  refine lv_iload_n hx hb dX0_isOffStage_7 rfl (lv_at hl 1 rfl) ?_
  refine e_iald hx hb hK hP ((d + 1) + 2) 64 hd.2.1.2.2 c0 rfl (by omega) (by decide) dX0_isOffStage_8 ?_
  refine e_cSN (k := 1) (As := [.int (v ((d + 1) + 2) c0)]) (rest := []) hx hb hml hown hts (c_X3_isOnStage (l := l) (v ((d + 1) + 2) c0)) hK.2.2 aw_168 aw_162 aw_169 (by decide +kernel) (by decide) (by decide) hz hP hI hK rfl hl.1 rfl (Nat.le_of_ble_eq_true rfl) ⟨Nat.zero_le _, Nat.zero_le _⟩ dX0_isOffStage_9 ?_
  refine lv_if_eq (tgt := 30) hx hb dX0_isOffStage_12 (by decide) (fun c_1 => ?_) (fun c_1 => ?_)
  · have nc_1 : (cOn (v ((d + 1) + 2) c0)) = false := bI_0.mp c_1
    refine lv_iconst (v := 1) hx hb dX0_isOffStage_30 (by decide) ?_
    refine lv_goto (tgt := 35) hx hb dX0_isOffStage_31 (by decide) ?_
    exact e_nrm (show 1 = bI (cOff v d c0) from (by first | (simp [cOff, bI, nc_1]; done) | (exfalso; simp_all; done))) (hret _ _ dX0_isOffStage_35)
  · have nc_1 : (cOn (v ((d + 1) + 2) c0)) = true := bI_n0.mp c_1
    refine lv_aload_n hx hb dX0_isOffStage_15 rfl (lv_at hl 0 rfl) ?_
    refine e_getf hx hb hts inX0 hown hK hP d 1 hd.1 (by decide) rfl rfl 1 (by decide) aw_165 (fun _ h => h) rfl dX0_isOffStage_16 ?_
    refine e_getf hx hb hts inX2 hown hK hP (d + 4) 2 ((hd.2.2).1) (by decide) rfl rfl 2 (by decide) aw_167 (fun _ h => h) rfl dX0_isOffStage_19 ?_
    refine lv_iload_n hx hb dX0_isOffStage_22 rfl (lv_at hl 1 rfl) ?_
    refine e_iald hx hb hK hP ((d + 4) + 2) 64 hd.2.2.2.2 c0 rfl (by omega) (by decide) dX0_isOffStage_23 ?_
    refine e_cSN (k := 1) (As := [.int (v ((d + 4) + 2) c0)]) (rest := []) hx hb hml hown hts (c_X3_isOnStage (l := l) (v ((d + 4) + 2) c0)) hK.2.2 aw_168 aw_162 aw_169 (by decide +kernel) (by decide) (by decide) hz hP hI hK rfl hl.1 rfl (Nat.le_of_ble_eq_true rfl) ⟨Nat.zero_le _, Nat.zero_le _⟩ dX0_isOffStage_24 ?_
    refine lv_if_ne (tgt := 34) hx hb dX0_isOffStage_27 (by decide) (fun c_2 => ?_) (fun c_2 => ?_)
    · have nc_2 : (cOn (v ((d + 4) + 2) c0)) = true := bI_n0.mp c_2
      refine lv_iconst (v := 0) hx hb dX0_isOffStage_34 (by decide) ?_
      exact e_nrm (show 0 = bI (cOff v d c0) from (by first | (simp [cOff, bI, nc_1, nc_2]; done) | (exfalso; simp_all; done))) (hret _ _ dX0_isOffStage_35)
    · have nc_2 : (cOn (v ((d + 4) + 2) c0)) = false := bI_0.mp c_2
      refine lv_iconst (v := 1) hx hb dX0_isOffStage_30 (by decide) ?_
      refine lv_goto (tgt := 35) hx hb dX0_isOffStage_31 (by decide) ?_
      exact e_nrm (show 1 = bI (cOff v d c0) from (by first | (simp [cOff, bI, nc_1, nc_2]; done) | (exfalso; simp_all; done))) (hret _ _ dX0_isOffStage_35)

set_option maxRecDepth 100000 in
set_option maxHeartbeats 4000000 in
theorem c_X0_isWith {l : Launch} {X : eD} {z0 : Nat} {ad kd sp : Nat → Nat} {v : eV} (d : Nat) (hd : isD kd d) (g : Nat) (hg : isD kd g) (c0 : Nat) (hc9 : c0 < 64) : ePu l yX0_isWith cX0_isWith 3 (some .boolean) 1 [.ref (ad d), .ref (ad g), .int (nI c0)] (e_W X z0 ad kd sp v) (some (.int (bI (cWith v d g c0)))) := by
  refine e_pureI (by decide +kernel) (Nat.le_of_ble_eq_true rfl) (bI_nar _) ?_
  intro p e s m args below meth c hx hb hml hown hts hW Q hret ls hl
  obtain ⟨hz, hP, hI, hK⟩ := hW
  have hl : lv_has ls 3 [(0, .ref (ad d)), (1, .ref (ad g)), (2, .int (nI c0))] := hl
  refine lv_aload_n hx hb dX0_isWith_0 rfl (lv_at hl 0 rfl) ?_
  refine e_getf hx hb hts inX0 hown hK hP d 1 hd.1 (by decide) rfl rfl 0 (by decide) aw_164 (fun _ h => h) rfl dX0_isWith_1 ?_
  refine lv_aload_n hx hb dX0_isWith_4 rfl (lv_at hl 1 rfl) ?_
  refine e_getf hx hb hts inX0 hown hK hP g 1 hg.1 (by decide) rfl rfl 0 (by decide) aw_164 (fun _ h => h) rfl dX0_isWith_5 ?_
  refine lv_iload_n hx hb dX0_isWith_8 rfl (lv_at hl 2 rfl) ?_
  refine e_cV (As := [.ref (ad (g + 1)), .int (nI c0)]) (rest := []) hx hb hml hown hts (d + 1) (c_X2_wayTo (l := l) (d + 1) hd.2.1 (g + 1) hg.2.1 c0 (by omega)) cw_RX0_42 (by decide) (by decide) hz hP hI hK ((hd.2.1).1) (by decide) rfl rfl rfl hl.1 rfl (Nat.le_of_ble_eq_true rfl) ⟨Nat.zero_le _, Nat.zero_le _⟩ dX0_isWith_9 ?_
  refine lv_if_ne (tgt := 34) hx hb dX0_isWith_12 (by decide) (fun c_1 => ?_) (fun c_1 => ?_)
  · skip
    refine lv_iconst (v := 0) hx hb dX0_isWith_34 (by decide) ?_
    exact e_nrm (show 0 = bI (cWith v d g c0) from (by first | (simp [cWith, bI, c_1]; done) | (exfalso; simp_all; done))) (hret _ _ dX0_isWith_35)
  · skip
    refine lv_aload_n hx hb dX0_isWith_15 rfl (lv_at hl 0 rfl) ?_
    refine e_getf hx hb hts inX0 hown hK hP d 1 hd.1 (by decide) rfl rfl 1 (by decide) aw_165 (fun _ h => h) rfl dX0_isWith_16 ?_
    refine lv_aload_n hx hb dX0_isWith_19 rfl (lv_at hl 1 rfl) ?_
    refine e_getf hx hb hts inX0 hown hK hP g 1 hg.1 (by decide) rfl rfl 1 (by decide) aw_165 (fun _ h => h) rfl dX0_isWith_20 ?_
    refine lv_iload_n hx hb dX0_isWith_23 rfl (lv_at hl 2 rfl) ?_
    refine e_cV (As := [.ref (ad (g + 4)), .int (nI c0)]) (rest := []) hx hb hml hown hts (d + 4) (c_X2_wayTo (l := l) (d + 4) hd.2.2 (g + 4) hg.2.2 c0 (by omega)) cw_RX0_42 (by decide) (by decide) hz hP hI hK ((hd.2.2).1) (by decide) rfl rfl rfl hl.1 rfl (Nat.le_of_ble_eq_true rfl) ⟨Nat.zero_le _, Nat.zero_le _⟩ dX0_isWith_24 ?_
    refine lv_if_ne (tgt := 34) hx hb dX0_isWith_27 (by decide) (fun c_2 => ?_) (fun c_2 => ?_)
    · skip
      refine lv_iconst (v := 0) hx hb dX0_isWith_34 (by decide) ?_
      exact e_nrm (show 0 = bI (cWith v d g c0) from (by first | (simp [cWith, bI, c_1, c_2]; done) | (exfalso; simp_all; done))) (hret _ _ dX0_isWith_35)
    · skip
      refine lv_iconst (v := 1) hx hb dX0_isWith_30 (by decide) ?_
      refine lv_goto (tgt := 35) hx hb dX0_isWith_31 (by decide) ?_
      exact e_nrm (show 1 = bI (cWith v d g c0) from (by first | (simp [cWith, bI, c_1, c_2]; done) | (exfalso; simp_all; done))) (hret _ _ dX0_isWith_35)

set_option maxRecDepth 100000 in
set_option maxHeartbeats 4000000 in
theorem c_X0_isBeside {l : Launch} {X : eD} {z0 : Nat} {ad kd sp : Nat → Nat} {v : eV} (d : Nat) (hd : isD kd d) (g : Nat) (hg : isD kd g) (c0 : Nat) (hc9 : c0 < 64) : ePu l yX0_isBeside cX0_isBeside 3 (some .boolean) 2 [.ref (ad d), .ref (ad g), .int (nI c0)] (e_W X z0 ad kd sp v) (some (.int (bI (cBeside v d g c0)))) := by
  refine e_pureI (by decide +kernel) (Nat.le_of_ble_eq_true rfl) (bI_nar _) ?_
  intro p e s m args below meth c hx hb hml hown hts hW Q hret ls hl
  obtain ⟨hz, hP, hI, hK⟩ := hW
  have hl : lv_has ls 3 [(0, .ref (ad d)), (1, .ref (ad g)), (2, .int (nI c0))] := hl
  refine lv_aload_n hx hb dX0_isBeside_0 rfl (lv_at hl 0 rfl) ?_
  refine lv_aload_n hx hb dX0_isBeside_1 rfl (lv_at hl 1 rfl) ?_
  refine lv_iload_n hx hb dX0_isBeside_2 rfl (lv_at hl 2 rfl) ?_
  refine e_cV (As := [.ref (ad g), .int (nI c0)]) (rest := []) hx hb hml hown hts d (c_X0_isWith (l := l) d hd g hg c0 (by omega)) cw_RX0_46 (by decide) (by decide) hz hP hI hK hd.1 (by decide) rfl rfl rfl hl.1 rfl (Nat.le_of_ble_eq_true rfl) ⟨Nat.zero_le _, Nat.zero_le _⟩ dX0_isBeside_3 ?_
  refine lv_if_ne (tgt := 51) hx hb dX0_isBeside_6 (by decide) (fun c_1 => ?_) (fun c_1 => ?_)
  · have nc_1 : (cWith v d g c0) = true := bI_n0.mp c_1
    refine lv_iconst (v := 0) hx hb dX0_isBeside_51 (by decide) ?_
    exact e_nrm (show 0 = bI (cBeside v d g c0) from (by first | (simp [cBeside, bI, nc_1]; done) | (exfalso; simp_all; done))) (hret _ _ dX0_isBeside_52)
  · have nc_1 : (cWith v d g c0) = false := bI_0.mp c_1
    refine lv_aload_n hx hb dX0_isBeside_9 rfl (lv_at hl 0 rfl) ?_
    refine e_getf hx hb hts inX0 hown hK hP d 1 hd.1 (by decide) rfl rfl 0 (by decide) aw_164 (fun _ h => h) rfl dX0_isBeside_10 ?_
    refine lv_aload_n hx hb dX0_isBeside_13 rfl (lv_at hl 1 rfl) ?_
    refine e_getf hx hb hts inX0 hown hK hP g 1 hg.1 (by decide) rfl rfl 0 (by decide) aw_164 (fun _ h => h) rfl dX0_isBeside_14 ?_
    refine lv_iload_n hx hb dX0_isBeside_17 rfl (lv_at hl 2 rfl) ?_
    refine e_cV (As := [.ref (ad (g + 1)), .int (nI c0)]) (rest := []) hx hb hml hown hts (d + 1) (c_X2_wayTo (l := l) (d + 1) hd.2.1 (g + 1) hg.2.1 c0 (by omega)) cw_RX0_42 (by decide) (by decide) hz hP hI hK ((hd.2.1).1) (by decide) rfl rfl rfl hl.1 rfl (Nat.le_of_ble_eq_true rfl) ⟨Nat.zero_le _, Nat.zero_le _⟩ dX0_isBeside_18 ?_
    refine va_mabs hx hb (hml.trans hl.1.symm) hown (hts _ aw_178) (hts _ aw_153) (hts _ aw_154) (hts _ em_code_abs) (by decide) (Nat.le_of_ble_eq_true rfl) (Nat.zero_le _) (Nat.zero_le _) dX0_isBeside_21 ?_
    refine e_nrm (y := mFlat (cWay v (d + 1) (g + 1) c0)) e_absF ?_
    refine lv_iconst (v := 1) hx hb dX0_isBeside_24 (by decide) ?_
    refine lv_icmp_gt (tgt := 51) hx hb dX0_isBeside_25 (by decide) (fun c_2 => ?_) (fun c_2 => ?_)
    · skip
      refine lv_iconst (v := 0) hx hb dX0_isBeside_51 (by decide) ?_
      exact e_nrm (show 0 = bI (cBeside v d g c0) from (by first | (simp [cBeside, bI, nc_1, c_2]; done) | (exfalso; simp_all; done))) (hret _ _ dX0_isBeside_52)
    · skip
      refine lv_aload_n hx hb dX0_isBeside_28 rfl (lv_at hl 0 rfl) ?_
      refine e_getf hx hb hts inX0 hown hK hP d 1 hd.1 (by decide) rfl rfl 1 (by decide) aw_165 (fun _ h => h) rfl dX0_isBeside_29 ?_
      refine lv_aload_n hx hb dX0_isBeside_32 rfl (lv_at hl 1 rfl) ?_
      refine e_getf hx hb hts inX0 hown hK hP g 1 hg.1 (by decide) rfl rfl 1 (by decide) aw_165 (fun _ h => h) rfl dX0_isBeside_33 ?_
      refine lv_iload_n hx hb dX0_isBeside_36 rfl (lv_at hl 2 rfl) ?_
      refine e_cV (As := [.ref (ad (g + 4)), .int (nI c0)]) (rest := []) hx hb hml hown hts (d + 4) (c_X2_wayTo (l := l) (d + 4) hd.2.2 (g + 4) hg.2.2 c0 (by omega)) cw_RX0_42 (by decide) (by decide) hz hP hI hK ((hd.2.2).1) (by decide) rfl rfl rfl hl.1 rfl (Nat.le_of_ble_eq_true rfl) ⟨Nat.zero_le _, Nat.zero_le _⟩ dX0_isBeside_37 ?_
      refine va_mabs hx hb (hml.trans hl.1.symm) hown (hts _ aw_178) (hts _ aw_153) (hts _ aw_154) (hts _ em_code_abs) (by decide) (Nat.le_of_ble_eq_true rfl) (Nat.zero_le _) (Nat.zero_le _) dX0_isBeside_40 ?_
      refine e_nrm (y := mFlat (cWay v (d + 4) (g + 4) c0)) e_absF ?_
      refine lv_iconst (v := 1) hx hb dX0_isBeside_43 (by decide) ?_
      refine lv_icmp_gt (tgt := 51) hx hb dX0_isBeside_44 (by decide) (fun c_3 => ?_) (fun c_3 => ?_)
      · skip
        refine lv_iconst (v := 0) hx hb dX0_isBeside_51 (by decide) ?_
        exact e_nrm (show 0 = bI (cBeside v d g c0) from (by first | (simp [cBeside, bI, nc_1, c_2, c_3]; done) | (exfalso; simp_all; done))) (hret _ _ dX0_isBeside_52)
      · skip
        refine lv_iconst (v := 1) hx hb dX0_isBeside_47 (by decide) ?_
        refine lv_goto (tgt := 52) hx hb dX0_isBeside_48 (by decide) ?_
        exact e_nrm (show 1 = bI (cBeside v d g c0) from (by first | (simp [cBeside, bI, nc_1, c_2, c_3]; done) | (exfalso; simp_all; done))) (hret _ _ dX0_isBeside_52)

set_option maxRecDepth 100000 in
set_option maxHeartbeats 4000000 in
theorem c_X0_takesPlaceOf {l : Launch} {X : eD} {z0 : Nat} {ad kd sp : Nat → Nat} {v : eV} (d : Nat) (hd : isD kd d) (g : Nat) (hg : isD kd g) (c0 : Nat) (hc9 : c0 < 64) : ePu l yX0_takesPlaceOf cX0_takesPlaceOf 3 (some .boolean) 1 [.ref (ad d), .ref (ad g), .int (nI c0)] (e_W X z0 ad kd sp v) (some (.int (bI (cTakesP v d g c0)))) := by
  refine e_pureI (by decide +kernel) (Nat.le_of_ble_eq_true rfl) (bI_nar _) ?_
  intro p e s m args below meth c hx hb hml hown hts hW Q hret ls hl
  obtain ⟨hz, hP, hI, hK⟩ := hW
  have hl : lv_has ls 3 [(0, .ref (ad d)), (1, .ref (ad g)), (2, .int (nI c0))] := hl
  refine lv_aload_n hx hb dX0_takesPlaceOf_0 rfl (lv_at hl 0 rfl) ?_
  refine e_getf hx hb hts inX0 hown hK hP d 1 hd.1 (by decide) rfl rfl 0 (by decide) aw_164 (fun _ h => h) rfl dX0_takesPlaceOf_1 ?_
  refine e_getf hx hb hts inX2 hown hK hP (d + 1) 2 ((hd.2.1).1) (by decide) rfl rfl 2 (by decide) aw_167 (fun _ h => h) rfl dX0_takesPlaceOf_4 ?_
  refine lv_iload_n hx hb dX0_takesPlaceOf_7 rfl (lv_at hl 2 rfl) ?_
  refine e_iald hx hb hK hP ((d + 1) + 2) 64 hd.2.1.2.2 c0 rfl (by omega) (by decide) dX0_takesPlaceOf_8 ?_
  refine lv_aload_n hx hb dX0_takesPlaceOf_9 rfl (lv_at hl 1 rfl) ?_
  refine e_getf hx hb hts inX0 hown hK hP g 1 hg.1 (by decide) rfl rfl 0 (by decide) aw_164 (fun _ h => h) rfl dX0_takesPlaceOf_10 ?_
  refine lv_iload_n hx hb dX0_takesPlaceOf_13 rfl (lv_at hl 2 rfl) ?_
  refine e_cV (As := [.int (nI c0)]) (rest := [.int (v ((d + 1) + 2) c0)]) hx hb hml hown hts (g + 1) (c_X2_placeAheadOf (l := l) (g + 1) hg.2.1 c0 (by omega)) cw_RX0_59 (by decide) (by decide) hz hP hI hK ((hg.2.1).1) (by decide) rfl rfl rfl hl.1 rfl (Nat.le_of_ble_eq_true rfl) ⟨Nat.zero_le _, Nat.zero_le _⟩ dX0_takesPlaceOf_14 ?_
  refine lv_icmp_ne (tgt := 44) hx hb dX0_takesPlaceOf_17 (by decide) (fun c_1 => ?_) (fun c_1 => ?_)
  · skip
    refine lv_iconst (v := 0) hx hb dX0_takesPlaceOf_44 (by decide) ?_
    exact e_nrm (show 0 = bI (cTakesP v d g c0) from (by first | (simp [cTakesP, bI, eq_false c_1]; done) | (exfalso; simp_all; done))) (hret _ _ dX0_takesPlaceOf_45)
  · skip
    refine lv_aload_n hx hb dX0_takesPlaceOf_20 rfl (lv_at hl 0 rfl) ?_
    refine e_getf hx hb hts inX0 hown hK hP d 1 hd.1 (by decide) rfl rfl 1 (by decide) aw_165 (fun _ h => h) rfl dX0_takesPlaceOf_21 ?_
    refine e_getf hx hb hts inX2 hown hK hP (d + 4) 2 ((hd.2.2).1) (by decide) rfl rfl 2 (by decide) aw_167 (fun _ h => h) rfl dX0_takesPlaceOf_24 ?_
    refine lv_iload_n hx hb dX0_takesPlaceOf_27 rfl (lv_at hl 2 rfl) ?_
    refine e_iald hx hb hK hP ((d + 4) + 2) 64 hd.2.2.2.2 c0 rfl (by omega) (by decide) dX0_takesPlaceOf_28 ?_
    refine lv_aload_n hx hb dX0_takesPlaceOf_29 rfl (lv_at hl 1 rfl) ?_
    refine e_getf hx hb hts inX0 hown hK hP g 1 hg.1 (by decide) rfl rfl 1 (by decide) aw_165 (fun _ h => h) rfl dX0_takesPlaceOf_30 ?_
    refine lv_iload_n hx hb dX0_takesPlaceOf_33 rfl (lv_at hl 2 rfl) ?_
    refine e_cV (As := [.int (nI c0)]) (rest := [.int (v ((d + 4) + 2) c0)]) hx hb hml hown hts (g + 4) (c_X2_placeAheadOf (l := l) (g + 4) hg.2.2 c0 (by omega)) cw_RX0_59 (by decide) (by decide) hz hP hI hK ((hg.2.2).1) (by decide) rfl rfl rfl hl.1 rfl (Nat.le_of_ble_eq_true rfl) ⟨Nat.zero_le _, Nat.zero_le _⟩ dX0_takesPlaceOf_34 ?_
    refine lv_icmp_ne (tgt := 44) hx hb dX0_takesPlaceOf_37 (by decide) (fun c_2 => ?_) (fun c_2 => ?_)
    · skip
      refine lv_iconst (v := 0) hx hb dX0_takesPlaceOf_44 (by decide) ?_
      exact e_nrm (show 0 = bI (cTakesP v d g c0) from (by first | (simp [cTakesP, bI, eq_true c_1, eq_false c_2]; done) | (exfalso; simp_all; done))) (hret _ _ dX0_takesPlaceOf_45)
    · skip
      refine lv_iconst (v := 1) hx hb dX0_takesPlaceOf_40 (by decide) ?_
      refine lv_goto (tgt := 45) hx hb dX0_takesPlaceOf_41 (by decide) ?_
      exact e_nrm (show 1 = bI (cTakesP v d g c0) from (by first | (simp [cTakesP, bI, eq_true c_1, eq_true c_2]; done) | (exfalso; simp_all; done))) (hret _ _ dX0_takesPlaceOf_45)

set_option maxRecDepth 100000 in
set_option maxHeartbeats 4000000 in
theorem c_X0_changesPlacesWith {l : Launch} {X : eD} {z0 : Nat} {ad kd sp : Nat → Nat} {v : eV} (d : Nat) (hd : isD kd d) (g : Nat) (hg : isD kd g) (c0 : Nat) (hc9 : c0 < 64) : ePu l yX0_changesPlacesWith cX0_changesPlacesWith 3 (some .boolean) 2 [.ref (ad d), .ref (ad g), .int (nI c0)] (e_W X z0 ad kd sp v) (some (.int (bI (cChange v d g c0)))) := by
  refine e_pureI (by decide +kernel) (Nat.le_of_ble_eq_true rfl) (bI_nar _) ?_
  intro p e s m args below meth c hx hb hml hown hts hW Q hret ls hl
  obtain ⟨hz, hP, hI, hK⟩ := hW
  have hl : lv_has ls 3 [(0, .ref (ad d)), (1, .ref (ad g)), (2, .int (nI c0))] := hl
  refine lv_aload_n hx hb dX0_changesPlacesWith_0 rfl (lv_at hl 0 rfl) ?_
  refine lv_aload_n hx hb dX0_changesPlacesWith_1 rfl (lv_at hl 1 rfl) ?_
  refine lv_iload_n hx hb dX0_changesPlacesWith_2 rfl (lv_at hl 2 rfl) ?_
  refine e_cV (As := [.ref (ad g), .int (nI c0)]) (rest := []) hx hb hml hown hts d (c_X0_takesPlaceOf (l := l) d hd g hg c0 (by omega)) cw_RX0_56 (by decide) (by decide) hz hP hI hK hd.1 (by decide) rfl rfl rfl hl.1 rfl (Nat.le_of_ble_eq_true rfl) ⟨Nat.zero_le _, Nat.zero_le _⟩ dX0_changesPlacesWith_3 ?_
  refine lv_if_eq (tgt := 22) hx hb dX0_changesPlacesWith_6 (by decide) (fun c_1 => ?_) (fun c_1 => ?_)
  · have nc_1 : (cTakesP v d g c0) = false := bI_0.mp c_1
    refine lv_iconst (v := 0) hx hb dX0_changesPlacesWith_22 (by decide) ?_
    exact e_nrm (show 0 = bI (cChange v d g c0) from (by first | (simp [cChange, bI, nc_1]; done) | (exfalso; simp_all; done))) (hret _ _ dX0_changesPlacesWith_23)
  · have nc_1 : (cTakesP v d g c0) = true := bI_n0.mp c_1
    refine lv_aload_n hx hb dX0_changesPlacesWith_9 rfl (lv_at hl 1 rfl) ?_
    refine lv_aload_n hx hb dX0_changesPlacesWith_10 rfl (lv_at hl 0 rfl) ?_
    refine lv_iload_n hx hb dX0_changesPlacesWith_11 rfl (lv_at hl 2 rfl) ?_
    refine e_cV (As := [.ref (ad d), .int (nI c0)]) (rest := []) hx hb hml hown hts g (c_X0_takesPlaceOf (l := l) g hg d hd c0 (by omega)) cw_RX0_56 (by decide) (by decide) hz hP hI hK hg.1 (by decide) rfl rfl rfl hl.1 rfl (Nat.le_of_ble_eq_true rfl) ⟨Nat.zero_le _, Nat.zero_le _⟩ dX0_changesPlacesWith_12 ?_
    refine lv_if_eq (tgt := 22) hx hb dX0_changesPlacesWith_15 (by decide) (fun c_2 => ?_) (fun c_2 => ?_)
    · have nc_2 : (cTakesP v g d c0) = false := bI_0.mp c_2
      refine lv_iconst (v := 0) hx hb dX0_changesPlacesWith_22 (by decide) ?_
      exact e_nrm (show 0 = bI (cChange v d g c0) from (by first | (simp [cChange, bI, nc_1, nc_2]; done) | (exfalso; simp_all; done))) (hret _ _ dX0_changesPlacesWith_23)
    · have nc_2 : (cTakesP v g d c0) = true := bI_n0.mp c_2
      refine lv_iconst (v := 1) hx hb dX0_changesPlacesWith_18 (by decide) ?_
      refine lv_goto (tgt := 23) hx hb dX0_changesPlacesWith_19 (by decide) ?_
      exact e_nrm (show 1 = bI (cChange v d g c0) from (by first | (simp [cChange, bI, nc_1, nc_2]; done) | (exfalso; simp_all; done))) (hret _ _ dX0_changesPlacesWith_23)

set_option maxRecDepth 100000 in
set_option maxHeartbeats 4000000 in
theorem c_X0_canVisit {l : Launch} {X : eD} {z0 : Nat} {ad kd sp : Nat → Nat} {v : eV} (d : Nat) (hd : isD kd d) (g : Nat) (hg : isD kd g) (c0 : Nat) (hc9 : c0 < 64) : ePu l yX0_canVisit cX0_canVisit 3 (some .boolean) 4 [.ref (ad d), .ref (ad g), .int (nI c0)] (e_W X z0 ad kd sp v) (some (.int (bI (cCanD v d g c0)))) := by
  refine e_pureI (by decide +kernel) (Nat.le_of_ble_eq_true rfl) (bI_nar _) ?_
  intro p e s m args below meth c hx hb hml hown hts hW Q hret ls hl
  obtain ⟨hz, hP, hI, hK⟩ := hW
  have hl : lv_has ls 3 [(0, .ref (ad d)), (1, .ref (ad g)), (2, .int (nI c0))] := hl
  refine lv_aload_n hx hb dX0_canVisit_0 rfl (lv_at hl 0 rfl) ?_
  refine e_getf hx hb hts inX0 hown hK hP d 1 hd.1 (by decide) rfl rfl 0 (by decide) aw_164 (fun _ h => h) rfl dX0_canVisit_1 ?_
  refine lv_aload_n hx hb dX0_canVisit_4 rfl (lv_at hl 1 rfl) ?_
  refine e_getf hx hb hts inX0 hown hK hP g 1 hg.1 (by decide) rfl rfl 0 (by decide) aw_164 (fun _ h => h) rfl dX0_canVisit_5 ?_
  refine lv_iload_n hx hb dX0_canVisit_8 rfl (lv_at hl 2 rfl) ?_
  refine e_cV (As := [.ref (ad (g + 1)), .int (nI c0)]) (rest := []) hx hb hml hown hts (d + 1) (c_X2_canVisit (l := l) (d + 1) hd.2.1 (g + 1) hg.2.1 c0 (by omega)) cw_RX0_62 (by decide) (by decide) hz hP hI hK ((hd.2.1).1) (by decide) rfl rfl rfl hl.1 rfl (Nat.le_of_ble_eq_true rfl) ⟨Nat.zero_le _, Nat.zero_le _⟩ dX0_canVisit_9 ?_
  refine lv_if_eq (tgt := 34) hx hb dX0_canVisit_12 (by decide) (fun c_1 => ?_) (fun c_1 => ?_)
  · have nc_1 : (cCanT v (d + 1) (g + 1) c0) = false := bI_0.mp c_1
    refine lv_iconst (v := 0) hx hb dX0_canVisit_34 (by decide) ?_
    exact e_nrm (show 0 = bI (cCanD v d g c0) from (by first | (simp [cCanD, bI, nc_1]; done) | (exfalso; simp_all; done))) (hret _ _ dX0_canVisit_35)
  · have nc_1 : (cCanT v (d + 1) (g + 1) c0) = true := bI_n0.mp c_1
    refine lv_aload_n hx hb dX0_canVisit_15 rfl (lv_at hl 0 rfl) ?_
    refine e_getf hx hb hts inX0 hown hK hP d 1 hd.1 (by decide) rfl rfl 1 (by decide) aw_165 (fun _ h => h) rfl dX0_canVisit_16 ?_
    refine lv_aload_n hx hb dX0_canVisit_19 rfl (lv_at hl 1 rfl) ?_
    refine e_getf hx hb hts inX0 hown hK hP g 1 hg.1 (by decide) rfl rfl 1 (by decide) aw_165 (fun _ h => h) rfl dX0_canVisit_20 ?_
    refine lv_iload_n hx hb dX0_canVisit_23 rfl (lv_at hl 2 rfl) ?_
    refine e_cV (As := [.ref (ad (g + 4)), .int (nI c0)]) (rest := []) hx hb hml hown hts (d + 4) (c_X2_canVisit (l := l) (d + 4) hd.2.2 (g + 4) hg.2.2 c0 (by omega)) cw_RX0_62 (by decide) (by decide) hz hP hI hK ((hd.2.2).1) (by decide) rfl rfl rfl hl.1 rfl (Nat.le_of_ble_eq_true rfl) ⟨Nat.zero_le _, Nat.zero_le _⟩ dX0_canVisit_24 ?_
    refine lv_if_eq (tgt := 34) hx hb dX0_canVisit_27 (by decide) (fun c_2 => ?_) (fun c_2 => ?_)
    · have nc_2 : (cCanT v (d + 4) (g + 4) c0) = false := bI_0.mp c_2
      refine lv_iconst (v := 0) hx hb dX0_canVisit_34 (by decide) ?_
      exact e_nrm (show 0 = bI (cCanD v d g c0) from (by first | (simp [cCanD, bI, nc_1, nc_2]; done) | (exfalso; simp_all; done))) (hret _ _ dX0_canVisit_35)
    · have nc_2 : (cCanT v (d + 4) (g + 4) c0) = true := bI_n0.mp c_2
      refine lv_iconst (v := 1) hx hb dX0_canVisit_30 (by decide) ?_
      refine lv_goto (tgt := 35) hx hb dX0_canVisit_31 (by decide) ?_
      exact e_nrm (show 1 = bI (cCanD v d g c0) from (by first | (simp [cCanD, bI, nc_1, nc_2]; done) | (exfalso; simp_all; done))) (hret _ _ dX0_canVisit_35)

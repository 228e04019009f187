theorem aw_194 : Cond.fieldLink RX3 10 "Stepscript" "dancers" "Ljava/util/ArrayList;" ∈ AW := aw_of (List.mem_of_getElem? (i := 110) (by decide +kernel)) (by decide +kernel)
theorem aw_195 : Cond.methodLink RX3 85 yJx4a65c_get_915e3 ∈ AW := aw_of (List.mem_of_getElem? (i := 139) (by decide +kernel)) (by decide +kernel)
theorem aw_196 : Cond.instanceMethod yJx4a65c_get_915e3 ∈ AW := aw_of (List.mem_of_getElem? (i := 140) (by decide +kernel)) (by decide +kernel)
theorem aw_197 : Cond.selects RJx4a65c yJx4a65c_get_915e3 yJx4a65c_get_915e3 ∈ AW := aw_of (List.mem_of_getElem? (i := 141) (by decide +kernel)) (by decide +kernel)
set_option maxRecDepth 100000 in
theorem aw_198 : Cond.code yJx4a65c_get_915e3 cJx4a65c_get_915e3 2 (some (.object "java/lang/Object")) ∈ AW := aw_of (List.mem_of_getElem? (i := 142) rfl) (by decide +kernel)
theorem cw_RX3_85 : e_cwV RX3 85 RJx4a65c yJx4a65c_get_915e3 cJx4a65c_get_915e3 2 (some (.object "java/lang/Object")) 1 := ⟨aw_195, aw_196, aw_197, aw_135, aw_198, rfl, by decide +kernel, by decide +kernel, by decide +kernel⟩
theorem aw_200 : Cond.classLink RX3 61 RX0 ∈ AW := aw_of (List.mem_of_getElem? (i := 153) (by decide +kernel)) (by decide +kernel)
theorem aw_201 : Cond.fieldLink RX3 89 "Stepscript$Dancer" "out" "Z" ∈ AW := aw_of (List.mem_of_getElem? (i := 342) (by decide +kernel)) (by decide +kernel)
theorem aw_202 : Cond.methodLink RX3 46 yJx4a65c_size_8abf5 ∈ AW := aw_of (List.mem_of_getElem? (i := 135) (by decide +kernel)) (by decide +kernel)
theorem aw_203 : Cond.instanceMethod yJx4a65c_size_8abf5 ∈ AW := aw_of (List.mem_of_getElem? (i := 136) (by decide +kernel)) (by decide +kernel)
theorem aw_204 : Cond.selects RJx4a65c yJx4a65c_size_8abf5 yJx4a65c_size_8abf5 ∈ AW := aw_of (List.mem_of_getElem? (i := 137) (by decide +kernel)) (by decide +kernel)
set_option maxRecDepth 100000 in
theorem aw_205 : Cond.code yJx4a65c_size_8abf5 cJx4a65c_size_8abf5 1 (some .int) ∈ AW := aw_of (List.mem_of_getElem? (i := 138) rfl) (by decide +kernel)
theorem cw_RX3_46 : e_cwV RX3 46 RJx4a65c yJx4a65c_size_8abf5 cJx4a65c_size_8abf5 1 (some .int) 0 := ⟨aw_202, aw_203, aw_204, aw_135, aw_205, rfl, by decide +kernel, by decide +kernel, by decide +kernel⟩
theorem aw_207 : Cond.fieldLink RX3 95 "Stepscript$Dancer" "columns" "LStepscript$Track;" ∈ AW := aw_of (List.mem_of_getElem? (i := 336) (by decide +kernel)) (by decide +kernel)
theorem aw_208 : Cond.fieldLink RX3 231 "Stepscript$Track" "first" "I" ∈ AW := aw_of (List.mem_of_getElem? (i := 322) (by decide +kernel)) (by decide +kernel)
theorem aw_209 : Cond.fieldLink RX3 104 "Stepscript$Dancer" "rows" "LStepscript$Track;" ∈ AW := aw_of (List.mem_of_getElem? (i := 338) (by decide +kernel)) (by decide +kernel)
theorem aw_210 : Cond.methodLink RX3 234 yX0_isOffStage ∈ AW := aw_of (List.mem_of_getElem? (i := 154) (by decide +kernel)) (by decide +kernel)
theorem aw_211 : Cond.instanceMethod yX0_isOffStage ∈ AW := aw_of (List.mem_of_getElem? (i := 155) (by decide +kernel)) (by decide +kernel)
theorem aw_212 : Cond.selects RX0 yX0_isOffStage yX0_isOffStage ∈ AW := aw_of (List.mem_of_getElem? (i := 156) (by decide +kernel)) (by decide +kernel)
set_option maxRecDepth 100000 in
theorem aw_213 : Cond.code yX0_isOffStage cX0_isOffStage 2 (some .boolean) ∈ AW := aw_of (List.mem_of_getElem? (i := 157) rfl) (by decide +kernel)
theorem cw_RX3_234 : e_cwV RX3 234 RX0 yX0_isOffStage cX0_isOffStage 2 (some .boolean) 1 := ⟨aw_210, aw_211, aw_212, aw_175, aw_213, rfl, by decide +kernel, by decide +kernel, by decide +kernel⟩
theorem aw_215 : Cond.methodLink RX3 237 yX0_isWith ∈ AW := aw_of (List.mem_of_getElem? (i := 161) (by decide +kernel)) (by decide +kernel)
theorem cw_RX3_237 : e_cwV RX3 237 RX0 yX0_isWith cX0_isWith 3 (some .boolean) 2 := ⟨aw_215, aw_173, aw_174, aw_175, aw_176, rfl, by decide +kernel, by decide +kernel, by decide +kernel⟩
theorem aw_217 : Cond.methodLink RX3 241 yX0_changesPlacesWith ∈ AW := aw_of (List.mem_of_getElem? (i := 169) (by decide +kernel)) (by decide +kernel)
theorem aw_218 : Cond.instanceMethod yX0_changesPlacesWith ∈ AW := aw_of (List.mem_of_getElem? (i := 170) (by decide +kernel)) (by decide +kernel)
theorem aw_219 : Cond.selects RX0 yX0_changesPlacesWith yX0_changesPlacesWith ∈ AW := aw_of (List.mem_of_getElem? (i := 171) (by decide +kernel)) (by decide +kernel)
set_option maxRecDepth 100000 in
theorem aw_220 : Cond.code yX0_changesPlacesWith cX0_changesPlacesWith 3 (some .boolean) ∈ AW := aw_of (List.mem_of_getElem? (i := 172) rfl) (by decide +kernel)
theorem cw_RX3_241 : e_cwV RX3 241 RX0 yX0_changesPlacesWith cX0_changesPlacesWith 3 (some .boolean) 2 := ⟨aw_217, aw_218, aw_219, aw_175, aw_220, rfl, by decide +kernel, by decide +kernel, by decide +kernel⟩
theorem aw_222 : Cond.fieldLink RX3 16 "Stepscript" "lifts" "Ljava/util/ArrayList;" ∈ AW := aw_of (List.mem_of_getElem? (i := 111) (by decide +kernel)) (by decide +kernel)
theorem aw_223 : Cond.classLink RX3 131 RX1 ∈ AW := aw_of (List.mem_of_getElem? (i := 495) (by decide +kernel)) (by decide +kernel)
theorem aw_224 : Cond.fieldLink RX3 213 "Stepscript$Lift" "gone" "Z" ∈ AW := aw_of (List.mem_of_getElem? (i := 510) (by decide +kernel)) (by decide +kernel)
theorem aw_225 : Cond.fieldLink RX3 140 "Stepscript$Lift" "count" "I" ∈ AW := aw_of (List.mem_of_getElem? (i := 502) (by decide +kernel)) (by decide +kernel)
theorem aw_226 : Cond.methodLink RX3 244 yX1_has ∈ AW := aw_of (List.mem_of_getElem? (i := 543) (by decide +kernel)) (by decide +kernel)
theorem aw_227 : Cond.instanceMethod yX1_has ∈ AW := aw_of (List.mem_of_getElem? (i := 544) (by decide +kernel)) (by decide +kernel)
theorem aw_228 : Cond.selects RX1 yX1_has yX1_has ∈ AW := aw_of (List.mem_of_getElem? (i := 545) (by decide +kernel)) (by decide +kernel)
set_option maxRecDepth 100000 in
theorem aw_229 : Cond.code yX1_has cX1_has 2 (some .boolean) ∈ AW := aw_of (List.mem_of_getElem? (i := 546) rfl) (by decide +kernel)
theorem cw_RX3_244 : e_cwV RX3 244 RX1 yX1_has cX1_has 2 (some .boolean) 1 := ⟨aw_226, aw_227, aw_228, aw_144, aw_229, rfl, by decide +kernel, by decide +kernel, by decide +kernel⟩
theorem aw_231 : Cond.methodLink RX3 126 yX3_isOut ∈ AW := aw_of (List.mem_of_getElem? (i := 490) (by decide +kernel)) (by decide +kernel)
theorem aw_232 : Cond.instanceMethod yX3_isOut ∈ AW := aw_of (List.mem_of_getElem? (i := 492) (by decide +kernel)) (by decide +kernel)
theorem aw_233 : Cond.selects RX3 yX3_isOut yX3_isOut ∈ AW := aw_of (List.mem_of_getElem? (i := 8) (by decide +kernel)) (by decide +kernel)
set_option maxRecDepth 100000 in
theorem aw_234 : Cond.code yX3_isOut cX3_isOut 2 (some .boolean) ∈ AW := aw_of (List.mem_of_getElem? (i := 493) rfl) (by decide +kernel)
theorem cw_RX3_126 : e_cwV RX3 126 RX3 yX3_isOut cX3_isOut 2 (some .boolean) 1 := ⟨aw_231, aw_232, aw_233, aw_162, aw_234, rfl, by decide +kernel, by decide +kernel, by decide +kernel⟩
theorem aw_236 : Cond.methodLink RX3 254 yX3_liftsWith ∈ AW := aw_of (List.mem_of_getElem? (i := 539) (by decide +kernel)) (by decide +kernel)
theorem aw_237 : Cond.instanceMethod yX3_liftsWith ∈ AW := aw_of (List.mem_of_getElem? (i := 541) (by decide +kernel)) (by decide +kernel)
theorem aw_238 : Cond.selects RX3 yX3_liftsWith yX3_liftsWith ∈ AW := aw_of (List.mem_of_getElem? (i := 11) (by decide +kernel)) (by decide +kernel)
set_option maxRecDepth 100000 in
theorem aw_239 : Cond.code yX3_liftsWith cX3_liftsWith 7 (some .int) ∈ AW := aw_of (List.mem_of_getElem? (i := 542) rfl) (by decide +kernel)
theorem cw_RX3_254 : e_cwV RX3 254 RX3 yX3_liftsWith cX3_liftsWith 7 (some .int) 3 := ⟨aw_236, aw_237, aw_238, aw_162, aw_239, rfl, by decide +kernel, by decide +kernel, by decide +kernel⟩
theorem aw_241 : Cond.fieldLink RX3 143 "Stepscript$Lift" "lifted" "I" ∈ AW := aw_of (List.mem_of_getElem? (i := 504) (by decide +kernel)) (by decide +kernel)
theorem aw_242 : Cond.methodLink RX3 258 yX0_isBeside ∈ AW := aw_of (List.mem_of_getElem? (i := 555) (by decide +kernel)) (by decide +kernel)
theorem aw_243 : Cond.instanceMethod yX0_isBeside ∈ AW := aw_of (List.mem_of_getElem? (i := 556) (by decide +kernel)) (by decide +kernel)
theorem aw_244 : Cond.selects RX0 yX0_isBeside yX0_isBeside ∈ AW := aw_of (List.mem_of_getElem? (i := 557) (by decide +kernel)) (by decide +kernel)
set_option maxRecDepth 100000 in
theorem aw_245 : Cond.code yX0_isBeside cX0_isBeside 3 (some .boolean) ∈ AW := aw_of (List.mem_of_getElem? (i := 558) rfl) (by decide +kernel)
theorem cw_RX3_258 : e_cwV RX3 258 RX0 yX0_isBeside cX0_isBeside 3 (some .boolean) 2 := ⟨aw_242, aw_243, aw_244, aw_175, aw_245, rfl, by decide +kernel, by decide +kernel, by decide +kernel⟩
theorem aw_247 : Cond.methodLink RX3 247 yX3_isFreeFor ∈ AW := aw_of (List.mem_of_getElem? (i := 535) (by decide +kernel)) (by decide +kernel)
theorem aw_248 : Cond.instanceMethod yX3_isFreeFor ∈ AW := aw_of (List.mem_of_getElem? (i := 537) (by decide +kernel)) (by decide +kernel)
theorem aw_249 : Cond.selects RX3 yX3_isFreeFor yX3_isFreeFor ∈ AW := aw_of (List.mem_of_getElem? (i := 10) (by decide +kernel)) (by decide +kernel)
set_option maxRecDepth 100000 in
theorem aw_250 : Cond.code yX3_isFreeFor cX3_isFreeFor 3 (some .boolean) ∈ AW := aw_of (List.mem_of_getElem? (i := 538) rfl) (by decide +kernel)
theorem cw_RX3_247 : e_cwV RX3 247 RX3 yX3_isFreeFor cX3_isFreeFor 3 (some .boolean) 2 := ⟨aw_247, aw_248, aw_249, aw_162, aw_250, rfl, by decide +kernel, by decide +kernel, by decide +kernel⟩
theorem aw_252 : Cond.fieldLink RX3 146 "Stepscript$Lift" "one" "I" ∈ AW := aw_of (List.mem_of_getElem? (i := 506) (by decide +kernel)) (by decide +kernel)
theorem aw_253 : Cond.fieldLink RX3 149 "Stepscript$Lift" "other" "I" ∈ AW := aw_of (List.mem_of_getElem? (i := 508) (by decide +kernel)) (by decide +kernel)
theorem aw_254 : Cond.methodLink RX3 251 yX3_isBesideLifted ∈ AW := aw_of (List.mem_of_getElem? (i := 551) (by decide +kernel)) (by decide +kernel)
theorem aw_255 : Cond.instanceMethod yX3_isBesideLifted ∈ AW := aw_of (List.mem_of_getElem? (i := 553) (by decide +kernel)) (by decide +kernel)
theorem aw_256 : Cond.selects RX3 yX3_isBesideLifted yX3_isBesideLifted ∈ AW := aw_of (List.mem_of_getElem? (i := 12) (by decide +kernel)) (by decide +kernel)
set_option maxRecDepth 100000 in
theorem aw_257 : Cond.code yX3_isBesideLifted cX3_isBesideLifted 3 (some .boolean) ∈ AW := aw_of (List.mem_of_getElem? (i := 554) rfl) (by decide +kernel)
theorem cw_RX3_251 : e_cwV RX3 251 RX3 yX3_isBesideLifted cX3_isBesideLifted 3 (some .boolean) 2 := ⟨aw_254, aw_255, aw_256, aw_162, aw_257, rfl, by decide +kernel, by decide +kernel, by decide +kernel⟩
theorem aw_259 : Cond.fieldLink RX3 19 "Stepscript" "told" "[I" ∈ AW := aw_of (List.mem_of_getElem? (i := 112) (by decide +kernel)) (by decide +kernel)
theorem aw_260 : Cond.methodLink RX3 270 yX2_wayIn ∈ AW := aw_of (List.mem_of_getElem? (i := 630) (by decide +kernel)) (by decide +kernel)
theorem aw_261 : Cond.instanceMethod yX2_wayIn ∈ AW := aw_of (List.mem_of_getElem? (i := 631) (by decide +kernel)) (by decide +kernel)
theorem aw_262 : Cond.selects RX2 yX2_wayIn yX2_wayIn ∈ AW := aw_of (List.mem_of_getElem? (i := 632) (by decide +kernel)) (by decide +kernel)
set_option maxRecDepth 100000 in
theorem aw_263 : Cond.code yX2_wayIn cX2_wayIn 5 (some .int) ∈ AW := aw_of (List.mem_of_getElem? (i := 633) rfl) (by decide +kernel)
theorem cw_RX3_270 : e_cwV RX3 270 RX2 yX2_wayIn cX2_wayIn 5 (some .int) 2 := ⟨aw_260, aw_261, aw_262, aw_158, aw_263, rfl, by decide +kernel, by decide +kernel, by decide +kernel⟩
theorem aw_265 : Cond.methodLink RX3 267 yX3_pointsFor ∈ AW := aw_of (List.mem_of_getElem? (i := 626) (by decide +kernel)) (by decide +kernel)
theorem aw_266 : Cond.instanceMethod yX3_pointsFor ∈ AW := aw_of (List.mem_of_getElem? (i := 628) (by decide +kernel)) (by decide +kernel)
theorem aw_267 : Cond.selects RX3 yX3_pointsFor yX3_pointsFor ∈ AW := aw_of (List.mem_of_getElem? (i := 16) (by decide +kernel)) (by decide +kernel)
set_option maxRecDepth 100000 in
theorem aw_268 : Cond.code yX3_pointsFor cX3_pointsFor 5 (some .int) ∈ AW := aw_of (List.mem_of_getElem? (i := 629) rfl) (by decide +kernel)
theorem cw_RX3_267 : e_cwV RX3 267 RX3 yX3_pointsFor cX3_pointsFor 5 (some .int) 3 := ⟨aw_265, aw_266, aw_267, aw_162, aw_268, rfl, by decide +kernel, by decide +kernel, by decide +kernel⟩
theorem aw_270 : Cond.fieldLink RX3 25 "Stepscript" "plans" "[[I" ∈ AW := aw_of (List.mem_of_getElem? (i := 113) (by decide +kernel)) (by decide +kernel)
theorem aw_271 : Cond.methodLink RX3 273 yX3_takesPart ∈ AW := aw_of (List.mem_of_getElem? (i := 644) (by decide +kernel)) (by decide +kernel)
theorem aw_272 : Cond.static yX3_takesPart ∈ AW := aw_of (List.mem_of_getElem? (i := 645) (by decide +kernel)) (by decide +kernel)
set_option maxRecDepth 100000 in
theorem aw_273 : Cond.code yX3_takesPart cX3_takesPart 2 (some .boolean) ∈ AW := aw_of (List.mem_of_getElem? (i := 646) rfl) (by decide +kernel)
theorem cw_RX3_273 : e_cwS RX3 273 yX3_takesPart cX3_takesPart 2 (some .boolean) 2 := ⟨aw_271, aw_272, aw_162, aw_273, by decide +kernel, by decide +kernel, by decide +kernel⟩
theorem aw_275 : Cond.fieldLink RX3 202 "Stepscript$Dancer" "points" "I" ∈ AW := aw_of (List.mem_of_getElem? (i := 340) (by decide +kernel)) (by decide +kernel)
theorem aw_276 : Cond.methodLink RX3 287 yX0_canVisit ∈ AW := aw_of (List.mem_of_getElem? (i := 686) (by decide +kernel)) (by decide +kernel)
theorem aw_277 : Cond.instanceMethod yX0_canVisit ∈ AW := aw_of (List.mem_of_getElem? (i := 687) (by decide +kernel)) (by decide +kernel)
theorem aw_278 : Cond.selects RX0 yX0_canVisit yX0_canVisit ∈ AW := aw_of (List.mem_of_getElem? (i := 688) (by decide +kernel)) (by decide +kernel)
set_option maxRecDepth 100000 in
theorem aw_279 : Cond.code yX0_canVisit cX0_canVisit 3 (some .boolean) ∈ AW := aw_of (List.mem_of_getElem? (i := 689) rfl) (by decide +kernel)
theorem cw_RX3_287 : e_cwV RX3 287 RX0 yX0_canVisit cX0_canVisit 3 (some .boolean) 2 := ⟨aw_276, aw_277, aw_278, aw_175, aw_279, rfl, by decide +kernel, by decide +kernel, by decide +kernel⟩
set_option maxRecDepth 100000 in
set_option maxHeartbeats 4000000 in
theorem c_X3_isOut {l : Launch} {X : eD} {z0 : Nat} {ad kd sp : Nat → Nat} {v : eV} (hc : cK kd sp) (hcv : cI sp v) (i : Nat) (hi : i < sp 0) : ePu l yX3_isOut cX3_isOut 2 (some .boolean) 6 [.ref (ad 0), .int (nI i)] (e_W X z0 ad kd sp v) (some (.int (bI (cOut v i)))) := by
  refine e_pureI (by decide +kernel) (Nat.le_of_ble_eq_true rfl) (bI_nar _) ?_
  intro p e s m args below meth c hx hb hml hown hts hW Q hret ls hl
  obtain ⟨hz, hP, hI, hK⟩ := hW
  have hl : lv_has ls 2 [(0, .ref (ad 0)), (1, .int (nI i))] := hl
  have hc0 := hc.2.2.2.2.2
  have hs8 := hc0.1
  have hs12 := hc0.2.1
  have hq2 := hc0.2.2.1
  have hq3 := hc0.2.2.2.1
  have hq4 := hc0.2.2.2.2.1
  have hq5 := hc0.2.2.2.2.2.1
  have hq6 := hc0.2.2.2.2.2.2.1
  have hq7 := hc0.2.2.2.2.2.2.2
  refine lv_aload_n hx hb dX3_isOut_0 rfl (lv_at hl 0 rfl) ?_
  refine e_getf hx hb hts inX3 hown hK hP 0 5 hc.1.1 (by decide) rfl rfl 0 (by decide) aw_194 (fun _ h => h) rfl dX3_isOut_1 ?_
  refine lv_iload_n hx hb dX3_isOut_4 rfl (lv_at hl 1 rfl) ?_
  refine e_cV (As := [.int (nI i)]) (rest := []) hx hb hml hown hts 1 (c_Jx4a65c_get_915e3_1 (l := l) hc i (by omega)) cw_RX3_85 (by decide) (by decide) hz hP hI hK hc.1.2.1 (by decide) rfl rfl rfl hl.1 rfl (Nat.le_of_ble_eq_true rfl) ⟨Nat.zero_le _, Nat.zero_le _⟩ dX3_isOut_5 ?_
  refine e_cast hx hb hts hown hK hP (20 + 7 * i) 1 (((hc.2.2.2.1 i (by omega))).1) (by decide) rfl rfl aw_200 dX3_isOut_8 ?_
  refine e_getf hx hb hts inX0 hown hK hP (20 + 7 * i) 1 (((hc.2.2.2.1 i (by omega))).1) (by decide) rfl rfl 3 (by decide) aw_201 (fun _ h => h) rfl dX3_isOut_11 ?_
  refine e_nrm (y := bI (cOut v i)) (cOut_b hcv (by omega)) ?_
  exact e_nrm (show (bI (cOut v i)) = bI (cOut v i) from (by first | (simp [bI]; done) | (exfalso; simp_all; done))) (hret _ _ dX3_isOut_14)

set_option maxRecDepth 100000 in
set_option maxHeartbeats 4000000 in
theorem c_X3_isFirstPlace {l : Launch} {X : eD} {z0 : Nat} {ad kd sp : Nat → Nat} {v : eV} (hc : cK kd sp) (x y : Int32) : ePu l yX3_isFirstPlace cX3_isFirstPlace 5 (some .boolean) 6 [.ref (ad 0), .int x, .int y] (e_W X z0 ad kd sp v) (some (.int (bI (cFirstP v x y (sp 0))))) := by
  refine e_pureI (by decide +kernel) (Nat.le_of_ble_eq_true rfl) (bI_nar _) ?_
  intro p e s m args below meth c hx hb hml hown hts hW Q hret ls hl
  obtain ⟨hz, hP, hI, hK⟩ := hW
  have hl : lv_has ls 5 [(0, .ref (ad 0)), (1, .int x), (2, .int y)] := hl
  have hc0 := hc.2.2.2.2.2
  have hs8 := hc0.1
  have hs12 := hc0.2.1
  have hq2 := hc0.2.2.1
  have hq3 := hc0.2.2.2.1
  have hq4 := hc0.2.2.2.2.1
  have hq5 := hc0.2.2.2.2.2.1
  have hq6 := hc0.2.2.2.2.2.2.1
  have hq7 := hc0.2.2.2.2.2.2.2
  refine lv_iconst (v := 0) hx hb dX3_isFirstPlace_0 (by decide) ?_
  refine lv_istore_n (lv' := [(3, .int 0), (0, .ref (ad 0)), (1, .int x), (2, .int y)]) hx hb dX3_isFirstPlace_1 rfl hl (by decide) rfl (fun ls hl => ?_)
  have L2 : ∀ (k2 : Nat) (i : Nat), sp 0 - i < k2 → (i ≤ sp 0) → (cFirstP v x y i = false) →  ∀ ls : Array Slot, lv_has ls 5 [(3, .int (nI i)), (0, .ref (ad 0)), (1, .int x), (2, .int y)] → W p l e (e_rm 6 0 0) s m args below meth c s.heap [] 0 0 Q (F0 m 2 ls []) := by
    intro k2
    induction k2 with
    | zero => intro i hk; exact absurd hk (Nat.not_lt_zero _)
    | succ k2 ih2 =>
      intro i hk2 hi ef ls hl
      refine lv_iload_n hx hb dX3_isFirstPlace_2 rfl (lv_at hl 0 rfl) ?_
      refine lv_aload_n hx hb dX3_isFirstPlace_3 rfl (lv_at hl 1 rfl) ?_
      refine e_getf hx hb hts inX3 hown hK hP 0 5 hc.1.1 (by decide) rfl rfl 0 (by decide) aw_194 (fun _ h => h) rfl dX3_isFirstPlace_4 ?_
      refine e_cV (As := []) (rest := [.int (nI i)]) hx hb hml hown hts 1 (c_Jx4a65c_size_8abf5_1 (l := l) hc) cw_RX3_46 (by decide) (by decide) hz hP hI hK hc.1.2.1 (by decide) rfl rfl rfl hl.1 rfl (Nat.le_of_ble_eq_true rfl) ⟨Nat.zero_le _, Nat.zero_le _⟩ dX3_isFirstPlace_7 ?_
      refine lv_icmp_ge (tgt := 58) hx hb dX3_isFirstPlace_10 (by decide) (fun c_1 => ?_) (fun c_1 => ?_)
      · have nc_1 : (sp 0) ≤ i := (nI_leI (a := (sp 0)) (b := i) (by omega) (by omega)).mp c_1
        refine lv_iconst (v := 0) hx hb dX3_isFirstPlace_58 (by decide) ?_
        exact e_nrm (show 0 = bI (cFirstP v x y (sp 0)) from by rw [show sp 0 = i by omega, ef]; rfl) (hret _ _ dX3_isFirstPlace_59)
      · have nc_1 : ¬ (sp 0) ≤ i := fun h => c_1 ((nI_leI (a := (sp 0)) (b := i) (by omega) (by omega)).mpr h)
        refine lv_aload_n hx hb dX3_isFirstPlace_13 rfl (lv_at hl 1 rfl) ?_
        refine e_getf hx hb hts inX3 hown hK hP 0 5 hc.1.1 (by decide) rfl rfl 0 (by decide) aw_194 (fun _ h => h) rfl dX3_isFirstPlace_14 ?_
        refine lv_iload_n hx hb dX3_isFirstPlace_17 rfl (lv_at hl 0 rfl) ?_
        refine e_cV (As := [.int (nI i)]) (rest := []) hx hb hml hown hts 1 (c_Jx4a65c_get_915e3_1 (l := l) hc i (by omega)) cw_RX3_85 (by decide) (by decide) hz hP hI hK hc.1.2.1 (by decide) rfl rfl rfl hl.1 rfl (Nat.le_of_ble_eq_true rfl) ⟨Nat.zero_le _, Nat.zero_le _⟩ dX3_isFirstPlace_18 ?_
        refine e_cast hx hb hts hown hK hP (20 + 7 * i) 1 (((hc.2.2.2.1 i (by omega))).1) (by decide) rfl rfl aw_200 dX3_isFirstPlace_21 ?_
        refine lv_astore (lv' := [(4, .ref (ad (20 + 7 * i))), (3, .int (nI i)), (0, .ref (ad 0)), (1, .int x), (2, .int y)]) hx hb dX3_isFirstPlace_24 hl (by decide) rfl (fun ls hl => ?_)
        refine lv_aload hx hb dX3_isFirstPlace_26 (lv_at hl 0 rfl) ?_
        refine e_getf hx hb hts inX0 hown hK hP (20 + 7 * i) 1 (((hc.2.2.2.1 i (by omega))).1) (by decide) rfl rfl 0 (by decide) aw_207 (fun _ h => h) rfl dX3_isFirstPlace_28 ?_
        refine e_getf hx hb hts inX2 hown hK hP ((20 + 7 * i) + 1) 2 ((((hc.2.2.2.1 i (by omega))).2.1).1) (by decide) rfl rfl 0 (by decide) aw_208 (fun _ h => h) rfl dX3_isFirstPlace_31 ?_
        refine lv_iload_n hx hb dX3_isFirstPlace_34 rfl (lv_at hl 3 rfl) ?_
        refine lv_icmp_ne (tgt := 52) hx hb dX3_isFirstPlace_35 (by decide) (fun c_2 => ?_) (fun c_2 => ?_)
        · skip
          refine lv_iinc (v := (nI (i + 1))) (lv' := [(3, .int (nI (i + 1))), (4, .ref (ad (20 + 7 * i))), (0, .ref (ad 0)), (1, .int x), (2, .int y)]) hx hb dX3_isFirstPlace_52 hl (k := 1) rfl (nI_add i 1) (by decide) rfl (fun ls hl => ?_)
          refine lv_goto (tgt := 2) hx hb dX3_isFirstPlace_55 (by decide) ?_
          exact ih2 (i + 1) (by omega) (by omega) (anyN_s ef (by simp [nc_1, eq_false c_2]))  ls (lv_sub hl [0, 2, 3, 4] rfl)
        · skip
          refine lv_aload hx hb dX3_isFirstPlace_38 (lv_at hl 0 rfl) ?_
          refine e_getf hx hb hts inX0 hown hK hP (20 + 7 * i) 1 (((hc.2.2.2.1 i (by omega))).1) (by decide) rfl rfl 1 (by decide) aw_209 (fun _ h => h) rfl dX3_isFirstPlace_40 ?_
          refine e_getf hx hb hts inX2 hown hK hP ((20 + 7 * i) + 4) 2 ((((hc.2.2.2.1 i (by omega))).2.2).1) (by decide) rfl rfl 0 (by decide) aw_208 (fun _ h => h) rfl dX3_isFirstPlace_43 ?_
          refine lv_iload_n hx hb dX3_isFirstPlace_46 rfl (lv_at hl 4 rfl) ?_
          refine lv_icmp_ne (tgt := 52) hx hb dX3_isFirstPlace_47 (by decide) (fun c_3 => ?_) (fun c_3 => ?_)
          · skip
            refine lv_iinc (v := (nI (i + 1))) (lv' := [(3, .int (nI (i + 1))), (4, .ref (ad (20 + 7 * i))), (0, .ref (ad 0)), (1, .int x), (2, .int y)]) hx hb dX3_isFirstPlace_52 hl (k := 1) rfl (nI_add i 1) (by decide) rfl (fun ls hl => ?_)
            refine lv_goto (tgt := 2) hx hb dX3_isFirstPlace_55 (by decide) ?_
            exact ih2 (i + 1) (by omega) (by omega) (anyN_s ef (by simp [nc_1, eq_true c_2, eq_false c_3]))  ls (lv_sub hl [0, 2, 3, 4] rfl)
          · skip
            refine lv_iconst (v := 1) hx hb dX3_isFirstPlace_50 (by decide) ?_
            exact e_nrm (show 1 = bI (cFirstP v x y (sp 0)) from by rw [show cFirstP v x y (sp 0) = true from anyN_t (i := i) (by simp [nc_1, eq_true c_2, eq_true c_3]) (by omega)]; rfl) (hret _ _ dX3_isFirstPlace_51)
  exact L2 _ 0 (Nat.lt_succ_self _) (Nat.zero_le _) (rfl)  ls (lv_sub hl [0, 1, 2, 3] rfl)

set_option maxRecDepth 100000 in
set_option maxHeartbeats 4000000 in
theorem c_X3_clashesAt {l : Launch} {X : eD} {z0 : Nat} {ad kd sp : Nat → Nat} {v : eV} (hc : cK kd sp) (c0 : Nat) (hc9 : c0 < 64) : ePu l yX3_clashesAt cX3_clashesAt 7 (some .int) 6 [.ref (ad 0), .int (nI c0)] (e_W X z0 ad kd sp v) (some (.int (cClash v c0 (sp 0) (sp 0)))) := by
  refine e_pureI (by decide +kernel) (Nat.le_of_ble_eq_true rfl) rfl ?_
  intro p e s m args below meth c hx hb hml hown hts hW Q hret ls hl
  obtain ⟨hz, hP, hI, hK⟩ := hW
  have hl : lv_has ls 7 [(0, .ref (ad 0)), (1, .int (nI c0))] := hl
  have hc0 := hc.2.2.2.2.2
  have hs8 := hc0.1
  have hs12 := hc0.2.1
  have hq2 := hc0.2.2.1
  have hq3 := hc0.2.2.2.1
  have hq4 := hc0.2.2.2.2.1
  have hq5 := hc0.2.2.2.2.2.1
  have hq6 := hc0.2.2.2.2.2.2.1
  have hq7 := hc0.2.2.2.2.2.2.2
  refine lv_iconst (v := 0) hx hb dX3_clashesAt_0 (by decide) ?_
  refine lv_istore_n (lv' := [(2, .int 0), (0, .ref (ad 0)), (1, .int (nI c0))]) hx hb dX3_clashesAt_1 rfl hl (by decide) rfl (fun ls hl => ?_)
  refine lv_iconst (v := 0) hx hb dX3_clashesAt_2 (by decide) ?_
  refine lv_istore_n (lv' := [(3, .int 0), (2, .int 0), (0, .ref (ad 0)), (1, .int (nI c0))]) hx hb dX3_clashesAt_3 rfl hl (by decide) rfl (fun ls hl => ?_)
  have L4 : ∀ (k4 : Nat) (i : Nat) (x2 : Int32), sp 0 - i < k4 → (i ≤ sp 0) → (x2 = cClash v c0 (sp 0) i) →  ∀ ls : Array Slot, lv_has ls 7 [(3, .int (nI i)), (2, .int x2), (0, .ref (ad 0)), (1, .int (nI c0))] → W p l e (e_rm 6 0 0) s m args below meth c s.heap [] 0 0 Q (F0 m 4 ls []) := by
    intro k4
    induction k4 with
    | zero => intro i x2 hk; exact absurd hk (Nat.not_lt_zero _)
    | succ k4 ih4 =>
      intro i x2 hk4 hi ex2 ls hl
      refine lv_iload_n hx hb dX3_clashesAt_4 rfl (lv_at hl 0 rfl) ?_
      refine lv_aload_n hx hb dX3_clashesAt_5 rfl (lv_at hl 2 rfl) ?_
      refine e_getf hx hb hts inX3 hown hK hP 0 5 hc.1.1 (by decide) rfl rfl 0 (by decide) aw_194 (fun _ h => h) rfl dX3_clashesAt_6 ?_
      refine e_cV (As := []) (rest := [.int (nI i)]) hx hb hml hown hts 1 (c_Jx4a65c_size_8abf5_1 (l := l) hc) cw_RX3_46 (by decide) (by decide) hz hP hI hK hc.1.2.1 (by decide) rfl rfl rfl hl.1 rfl (Nat.le_of_ble_eq_true rfl) ⟨Nat.zero_le _, Nat.zero_le _⟩ dX3_clashesAt_9 ?_
      refine lv_icmp_ge (tgt := 108) hx hb dX3_clashesAt_12 (by decide) (fun c_1 => ?_) (fun c_1 => ?_)
      · have nc_1 : (sp 0) ≤ i := (nI_leI (a := (sp 0)) (b := i) (by omega) (by omega)).mp c_1
        refine lv_iload_n hx hb dX3_clashesAt_108 rfl (lv_at hl 1 rfl) ?_
        exact e_nrm (show x2 = cClash v c0 (sp 0) (sp 0) from by rw [ex2, show i = sp 0 by omega]) (hret _ _ dX3_clashesAt_109)
      · have nc_1 : ¬ (sp 0) ≤ i := fun h => c_1 ((nI_leI (a := (sp 0)) (b := i) (by omega) (by omega)).mpr h)
        refine lv_aload_n hx hb dX3_clashesAt_15 rfl (lv_at hl 2 rfl) ?_
        refine e_getf hx hb hts inX3 hown hK hP 0 5 hc.1.1 (by decide) rfl rfl 0 (by decide) aw_194 (fun _ h => h) rfl dX3_clashesAt_16 ?_
        refine lv_iload_n hx hb dX3_clashesAt_19 rfl (lv_at hl 0 rfl) ?_
        refine e_cV (As := [.int (nI i)]) (rest := []) hx hb hml hown hts 1 (c_Jx4a65c_get_915e3_1 (l := l) hc i (by omega)) cw_RX3_85 (by decide) (by decide) hz hP hI hK hc.1.2.1 (by decide) rfl rfl rfl hl.1 rfl (Nat.le_of_ble_eq_true rfl) ⟨Nat.zero_le _, Nat.zero_le _⟩ dX3_clashesAt_20 ?_
        refine e_cast hx hb hts hown hK hP (20 + 7 * i) 1 (((hc.2.2.2.1 i (by omega))).1) (by decide) rfl rfl aw_200 dX3_clashesAt_23 ?_
        refine lv_astore (lv' := [(4, .ref (ad (20 + 7 * i))), (3, .int (nI i)), (2, .int x2), (0, .ref (ad 0)), (1, .int (nI c0))]) hx hb dX3_clashesAt_26 hl (by decide) rfl (fun ls hl => ?_)
        refine lv_aload hx hb dX3_clashesAt_28 (lv_at hl 0 rfl) ?_
        refine lv_iload_n hx hb dX3_clashesAt_30 rfl (lv_at hl 4 rfl) ?_
        refine e_cV (As := [.int (nI c0)]) (rest := []) hx hb hml hown hts (20 + 7 * i) (c_X0_isOffStage (l := l) (20 + 7 * i) (hc.2.2.2.1 i (by omega)) c0 (by omega)) cw_RX3_234 (by decide) (by decide) hz hP hI hK (((hc.2.2.2.1 i (by omega))).1) (by decide) rfl rfl rfl hl.1 rfl (Nat.le_of_ble_eq_true rfl) ⟨Nat.zero_le _, Nat.zero_le _⟩ dX3_clashesAt_31 ?_
        refine lv_if_eq (tgt := 40) hx hb dX3_clashesAt_34 (by decide) (fun c_2 => ?_) (fun c_2 => ?_)
        · have nc_2 : (cOff v (20 + 7 * i) c0) = false := bI_0.mp c_2
          refine lv_iload_n hx hb dX3_clashesAt_40 rfl (lv_at hl 1 rfl) ?_
          refine lv_iconst (v := 1) hx hb dX3_clashesAt_41 (by decide) ?_
          refine lv_iadd hx hb dX3_clashesAt_42 ?_
          refine e_nrm (y := (nI (i + 1))) (nI_add i 1) ?_
          refine lv_istore (lv' := [(5, .int (nI (i + 1))), (4, .ref (ad (20 + 7 * i))), (3, .int (nI i)), (2, .int x2), (0, .ref (ad 0)), (1, .int (nI c0))]) hx hb dX3_clashesAt_43 hl (by decide) rfl (fun ls hl => ?_)
          have L45 : ∀ (k45 : Nat) (k : Nat) (x5 : Int32), sp 0 - (i + 1) - k < k45 → (k ≤ sp 0 - (i + 1)) → (x5 = (cClash v c0 (sp 0) i + bI (cOff v (20 + 7 * i) c0)) + cPairs v c0 i k) →  ∀ ls : Array Slot, lv_has ls 7 [(5, .int (nI (i + 1 + k))), (4, .ref (ad (20 + 7 * i))), (3, .int (nI i)), (2, .int x5), (0, .ref (ad 0)), (1, .int (nI c0))] → W p l e (e_rm 6 0 0) s m args below meth c s.heap [] 0 0 Q (F0 m 45 ls []) := by
            intro k45
            induction k45 with
            | zero => intro k x5 hk; exact absurd hk (Nat.not_lt_zero _)
            | succ k45 ih45 =>
              intro k x5 hk45 hk ex5 ls hl
              refine lv_iload hx hb dX3_clashesAt_45 (lv_at hl 0 rfl) ?_
              refine lv_aload_n hx hb dX3_clashesAt_47 rfl (lv_at hl 4 rfl) ?_
              refine e_getf hx hb hts inX3 hown hK hP 0 5 hc.1.1 (by decide) rfl rfl 0 (by decide) aw_194 (fun _ h => h) rfl dX3_clashesAt_48 ?_
              refine e_cV (As := []) (rest := [.int (nI (i + 1 + k))]) hx hb hml hown hts 1 (c_Jx4a65c_size_8abf5_1 (l := l) hc) cw_RX3_46 (by decide) (by decide) hz hP hI hK hc.1.2.1 (by decide) rfl rfl rfl hl.1 rfl (Nat.le_of_ble_eq_true rfl) ⟨Nat.zero_le _, Nat.zero_le _⟩ dX3_clashesAt_51 ?_
              refine lv_icmp_ge (tgt := 102) hx hb dX3_clashesAt_54 (by decide) (fun c_3 => ?_) (fun c_3 => ?_)
              · have nc_3 : (sp 0) ≤ (i + 1 + k) := (nI_leI (a := (sp 0)) (b := (i + 1 + k)) (by omega) (by omega)).mp c_3
                refine lv_iinc (v := (nI (i + 1))) (lv' := [(3, .int (nI (i + 1))), (5, .int (nI (i + 1 + k))), (4, .ref (ad (20 + 7 * i))), (2, .int x5), (0, .ref (ad 0)), (1, .int (nI c0))]) hx hb dX3_clashesAt_102 hl (k := 2) rfl (nI_add i 1) (by decide) rfl (fun ls hl => ?_)
                refine lv_goto (tgt := 4) hx hb dX3_clashesAt_105 (by decide) ?_
                exact ih4 (i + 1) x5 (by omega) (by omega) (by rw [ex5, show k = sp 0 - (i + 1) by omega]; rfl)  ls (lv_sub hl [0, 3, 4, 5] rfl)
              · have nc_3 : ¬ (sp 0) ≤ (i + 1 + k) := fun h => c_3 ((nI_leI (a := (sp 0)) (b := (i + 1 + k)) (by omega) (by omega)).mpr h)
                refine lv_aload_n hx hb dX3_clashesAt_57 rfl (lv_at hl 4 rfl) ?_
                refine e_getf hx hb hts inX3 hown hK hP 0 5 hc.1.1 (by decide) rfl rfl 0 (by decide) aw_194 (fun _ h => h) rfl dX3_clashesAt_58 ?_
                refine lv_iload hx hb dX3_clashesAt_61 (lv_at hl 0 rfl) ?_
                refine e_cV (As := [.int (nI (i + 1 + k))]) (rest := []) hx hb hml hown hts 1 (c_Jx4a65c_get_915e3_1 (l := l) hc (i + 1 + k) (by omega)) cw_RX3_85 (by decide) (by decide) hz hP hI hK hc.1.2.1 (by decide) rfl rfl rfl hl.1 rfl (Nat.le_of_ble_eq_true rfl) ⟨Nat.zero_le _, Nat.zero_le _⟩ dX3_clashesAt_63 ?_
                refine e_cast hx hb hts hown hK hP (20 + 7 * (i + 1 + k)) 1 (((hc.2.2.2.1 (i + 1 + k) (by omega))).1) (by decide) rfl rfl aw_200 dX3_clashesAt_66 ?_
                refine lv_astore (lv' := [(6, .ref (ad (20 + 7 * (i + 1 + k)))), (5, .int (nI (i + 1 + k))), (4, .ref (ad (20 + 7 * i))), (3, .int (nI i)), (2, .int x5), (0, .ref (ad 0)), (1, .int (nI c0))]) hx hb dX3_clashesAt_69 hl (by decide) rfl (fun ls hl => ?_)
                refine lv_aload hx hb dX3_clashesAt_71 (lv_at hl 2 rfl) ?_
                refine lv_aload hx hb dX3_clashesAt_73 (lv_at hl 0 rfl) ?_
                refine lv_iload_n hx hb dX3_clashesAt_75 rfl (lv_at hl 6 rfl) ?_
                refine e_cV (As := [.ref (ad (20 + 7 * (i + 1 + k))), .int (nI c0)]) (rest := []) hx hb hml hown hts (20 + 7 * i) (c_X0_isWith (l := l) (20 + 7 * i) (hc.2.2.2.1 i (by omega)) (20 + 7 * (i + 1 + k)) (hc.2.2.2.1 (i + 1 + k) (by omega)) c0 (by omega)) cw_RX3_237 (by decide) (by decide) hz hP hI hK (((hc.2.2.2.1 i (by omega))).1) (by decide) rfl rfl rfl hl.1 rfl (Nat.le_of_ble_eq_true rfl) ⟨Nat.zero_le _, Nat.zero_le _⟩ dX3_clashesAt_76 ?_
                refine lv_if_ne (tgt := 93) hx hb dX3_clashesAt_79 (by decide) (fun c_4 => ?_) (fun c_4 => ?_)
                · have nc_4 : (cWith v (20 + 7 * i) (20 + 7 * (i + 1 + k)) c0) = true := bI_n0.mp c_4
                  refine lv_iinc (v := (x5 + 1)) (lv' := [(2, .int (x5 + 1)), (6, .ref (ad (20 + 7 * (i + 1 + k)))), (5, .int (nI (i + 1 + k))), (4, .ref (ad (20 + 7 * i))), (3, .int (nI i)), (0, .ref (ad 0)), (1, .int (nI c0))]) hx hb dX3_clashesAt_93 hl (k := 4) rfl rfl (by decide) rfl (fun ls hl => ?_)
                  refine lv_iinc (v := (nI ((i + 1 + k) + 1))) (lv' := [(5, .int (nI ((i + 1 + k) + 1))), (2, .int (x5 + 1)), (6, .ref (ad (20 + 7 * (i + 1 + k)))), (4, .ref (ad (20 + 7 * i))), (3, .int (nI i)), (0, .ref (ad 0)), (1, .int (nI c0))]) hx hb dX3_clashesAt_96 hl (k := 2) rfl (nI_add (i + 1 + k) 1) (by decide) rfl (fun ls hl => ?_)
                  refine lv_goto (tgt := 45) hx hb dX3_clashesAt_99 (by decide) ?_
                  exact ih45 (k + 1) (x5 + 1) (by omega) (by omega) (by show _ = _ + (_ + _); rw [← Int32.add_assoc]; exact sum_t ex5 (by simp [cPair, nc_1, nc_2, nc_3, nc_4]))  ls (lv_sub hl [0, 3, 4, 1, 5, 6] rfl)
                · have nc_4 : (cWith v (20 + 7 * i) (20 + 7 * (i + 1 + k)) c0) = false := bI_0.mp c_4
                  refine lv_aload hx hb dX3_clashesAt_82 (lv_at hl 2 rfl) ?_
                  refine lv_aload hx hb dX3_clashesAt_84 (lv_at hl 0 rfl) ?_
                  refine lv_iload_n hx hb dX3_clashesAt_86 rfl (lv_at hl 6 rfl) ?_
                  refine e_cV (As := [.ref (ad (20 + 7 * (i + 1 + k))), .int (nI c0)]) (rest := []) hx hb hml hown hts (20 + 7 * i) (c_X0_changesPlacesWith (l := l) (20 + 7 * i) (hc.2.2.2.1 i (by omega)) (20 + 7 * (i + 1 + k)) (hc.2.2.2.1 (i + 1 + k) (by omega)) c0 (by omega)) cw_RX3_241 (by decide) (by decide) hz hP hI hK (((hc.2.2.2.1 i (by omega))).1) (by decide) rfl rfl rfl hl.1 rfl (Nat.le_of_ble_eq_true rfl) ⟨Nat.zero_le _, Nat.zero_le _⟩ dX3_clashesAt_87 ?_
                  refine lv_if_eq (tgt := 96) hx hb dX3_clashesAt_90 (by decide) (fun c_5 => ?_) (fun c_5 => ?_)
                  · have nc_5 : (cChange v (20 + 7 * i) (20 + 7 * (i + 1 + k)) c0) = false := bI_0.mp c_5
                    refine lv_iinc (v := (nI ((i + 1 + k) + 1))) (lv' := [(5, .int (nI ((i + 1 + k) + 1))), (6, .ref (ad (20 + 7 * (i + 1 + k)))), (4, .ref (ad (20 + 7 * i))), (3, .int (nI i)), (2, .int x5), (0, .ref (ad 0)), (1, .int (nI c0))]) hx hb dX3_clashesAt_96 hl (k := 1) rfl (nI_add (i + 1 + k) 1) (by decide) rfl (fun ls hl => ?_)
                    refine lv_goto (tgt := 45) hx hb dX3_clashesAt_99 (by decide) ?_
                    exact ih45 (k + 1) x5 (by omega) (by omega) (by show _ = _ + (_ + _); rw [← Int32.add_assoc]; exact sum_f ex5 (by simp [cPair, nc_1, nc_2, nc_3, nc_4, nc_5]))  ls (lv_sub hl [0, 2, 3, 4, 5, 6] rfl)
                  · have nc_5 : (cChange v (20 + 7 * i) (20 + 7 * (i + 1 + k)) c0) = true := bI_n0.mp c_5
                    refine lv_iinc (v := (x5 + 1)) (lv' := [(2, .int (x5 + 1)), (6, .ref (ad (20 + 7 * (i + 1 + k)))), (5, .int (nI (i + 1 + k))), (4, .ref (ad (20 + 7 * i))), (3, .int (nI i)), (0, .ref (ad 0)), (1, .int (nI c0))]) hx hb dX3_clashesAt_93 hl (k := 4) rfl rfl (by decide) rfl (fun ls hl => ?_)
                    refine lv_iinc (v := (nI ((i + 1 + k) + 1))) (lv' := [(5, .int (nI ((i + 1 + k) + 1))), (2, .int (x5 + 1)), (6, .ref (ad (20 + 7 * (i + 1 + k)))), (4, .ref (ad (20 + 7 * i))), (3, .int (nI i)), (0, .ref (ad 0)), (1, .int (nI c0))]) hx hb dX3_clashesAt_96 hl (k := 2) rfl (nI_add (i + 1 + k) 1) (by decide) rfl (fun ls hl => ?_)
                    refine lv_goto (tgt := 45) hx hb dX3_clashesAt_99 (by decide) ?_
                    exact ih45 (k + 1) (x5 + 1) (by omega) (by omega) (by show _ = _ + (_ + _); rw [← Int32.add_assoc]; exact sum_t ex5 (by simp [cPair, nc_1, nc_2, nc_3, nc_4, nc_5]))  ls (lv_sub hl [0, 3, 4, 1, 5, 6] rfl)
          exact L45 _ 0 x2 (Nat.lt_succ_self _) (Nat.zero_le _) (by show _ = _ + 0; rw [Int32.add_zero]; exact sum_f ex2 (by simp [nc_1, nc_2]))  ls (lv_sub hl [0, 1, 2, 3, 4, 5] rfl)
        · have nc_2 : (cOff v (20 + 7 * i) c0) = true := bI_n0.mp c_2
          refine lv_iinc (v := (x2 + 1)) (lv' := [(2, .int (x2 + 1)), (4, .ref (ad (20 + 7 * i))), (3, .int (nI i)), (0, .ref (ad 0)), (1, .int (nI c0))]) hx hb dX3_clashesAt_37 hl (k := 2) rfl rfl (by decide) rfl (fun ls hl => ?_)
          refine lv_iload_n hx hb dX3_clashesAt_40 rfl (lv_at hl 2 rfl) ?_
          refine lv_iconst (v := 1) hx hb dX3_clashesAt_41 (by decide) ?_
          refine lv_iadd hx hb dX3_clashesAt_42 ?_
          refine e_nrm (y := (nI (i + 1))) (nI_add i 1) ?_
          refine lv_istore (lv' := [(5, .int (nI (i + 1))), (2, .int (x2 + 1)), (4, .ref (ad (20 + 7 * i))), (3, .int (nI i)), (0, .ref (ad 0)), (1, .int (nI c0))]) hx hb dX3_clashesAt_43 hl (by decide) rfl (fun ls hl => ?_)
          have L45 : ∀ (k45 : Nat) (k : Nat) (x5 : Int32), sp 0 - (i + 1) - k < k45 → (k ≤ sp 0 - (i + 1)) → (x5 = (cClash v c0 (sp 0) i + bI (cOff v (20 + 7 * i) c0)) + cPairs v c0 i k) →  ∀ ls : Array Slot, lv_has ls 7 [(5, .int (nI (i + 1 + k))), (2, .int x5), (4, .ref (ad (20 + 7 * i))), (3, .int (nI i)), (0, .ref (ad 0)), (1, .int (nI c0))] → W p l e (e_rm 6 0 0) s m args below meth c s.heap [] 0 0 Q (F0 m 45 ls []) := by
            intro k45
            induction k45 with
            | zero => intro k x5 hk; exact absurd hk (Nat.not_lt_zero _)
            | succ k45 ih45 =>
              intro k x5 hk45 hk ex5 ls hl
              refine lv_iload hx hb dX3_clashesAt_45 (lv_at hl 0 rfl) ?_
              refine lv_aload_n hx hb dX3_clashesAt_47 rfl (lv_at hl 4 rfl) ?_
              refine e_getf hx hb hts inX3 hown hK hP 0 5 hc.1.1 (by decide) rfl rfl 0 (by decide) aw_194 (fun _ h => h) rfl dX3_clashesAt_48 ?_
              refine e_cV (As := []) (rest := [.int (nI (i + 1 + k))]) hx hb hml hown hts 1 (c_Jx4a65c_size_8abf5_1 (l := l) hc) cw_RX3_46 (by decide) (by decide) hz hP hI hK hc.1.2.1 (by decide) rfl rfl rfl hl.1 rfl (Nat.le_of_ble_eq_true rfl) ⟨Nat.zero_le _, Nat.zero_le _⟩ dX3_clashesAt_51 ?_
              refine lv_icmp_ge (tgt := 102) hx hb dX3_clashesAt_54 (by decide) (fun c_6 => ?_) (fun c_6 => ?_)
              · have nc_6 : (sp 0) ≤ (i + 1 + k) := (nI_leI (a := (sp 0)) (b := (i + 1 + k)) (by omega) (by omega)).mp c_6
                refine lv_iinc (v := (nI (i + 1))) (lv' := [(3, .int (nI (i + 1))), (5, .int (nI (i + 1 + k))), (2, .int x5), (4, .ref (ad (20 + 7 * i))), (0, .ref (ad 0)), (1, .int (nI c0))]) hx hb dX3_clashesAt_102 hl (k := 3) rfl (nI_add i 1) (by decide) rfl (fun ls hl => ?_)
                refine lv_goto (tgt := 4) hx hb dX3_clashesAt_105 (by decide) ?_
                exact ih4 (i + 1) x5 (by omega) (by omega) (by rw [ex5, show k = sp 0 - (i + 1) by omega]; rfl)  ls (lv_sub hl [0, 2, 4, 5] rfl)
              · have nc_6 : ¬ (sp 0) ≤ (i + 1 + k) := fun h => c_6 ((nI_leI (a := (sp 0)) (b := (i + 1 + k)) (by omega) (by omega)).mpr h)
                refine lv_aload_n hx hb dX3_clashesAt_57 rfl (lv_at hl 4 rfl) ?_
                refine e_getf hx hb hts inX3 hown hK hP 0 5 hc.1.1 (by decide) rfl rfl 0 (by decide) aw_194 (fun _ h => h) rfl dX3_clashesAt_58 ?_
                refine lv_iload hx hb dX3_clashesAt_61 (lv_at hl 0 rfl) ?_
                refine e_cV (As := [.int (nI (i + 1 + k))]) (rest := []) hx hb hml hown hts 1 (c_Jx4a65c_get_915e3_1 (l := l) hc (i + 1 + k) (by omega)) cw_RX3_85 (by decide) (by decide) hz hP hI hK hc.1.2.1 (by decide) rfl rfl rfl hl.1 rfl (Nat.le_of_ble_eq_true rfl) ⟨Nat.zero_le _, Nat.zero_le _⟩ dX3_clashesAt_63 ?_
                refine e_cast hx hb hts hown hK hP (20 + 7 * (i + 1 + k)) 1 (((hc.2.2.2.1 (i + 1 + k) (by omega))).1) (by decide) rfl rfl aw_200 dX3_clashesAt_66 ?_
                refine lv_astore (lv' := [(6, .ref (ad (20 + 7 * (i + 1 + k)))), (5, .int (nI (i + 1 + k))), (2, .int x5), (4, .ref (ad (20 + 7 * i))), (3, .int (nI i)), (0, .ref (ad 0)), (1, .int (nI c0))]) hx hb dX3_clashesAt_69 hl (by decide) rfl (fun ls hl => ?_)
                refine lv_aload hx hb dX3_clashesAt_71 (lv_at hl 3 rfl) ?_
                refine lv_aload hx hb dX3_clashesAt_73 (lv_at hl 0 rfl) ?_
                refine lv_iload_n hx hb dX3_clashesAt_75 rfl (lv_at hl 6 rfl) ?_
                refine e_cV (As := [.ref (ad (20 + 7 * (i + 1 + k))), .int (nI c0)]) (rest := []) hx hb hml hown hts (20 + 7 * i) (c_X0_isWith (l := l) (20 + 7 * i) (hc.2.2.2.1 i (by omega)) (20 + 7 * (i + 1 + k)) (hc.2.2.2.1 (i + 1 + k) (by omega)) c0 (by omega)) cw_RX3_237 (by decide) (by decide) hz hP hI hK (((hc.2.2.2.1 i (by omega))).1) (by decide) rfl rfl rfl hl.1 rfl (Nat.le_of_ble_eq_true rfl) ⟨Nat.zero_le _, Nat.zero_le _⟩ dX3_clashesAt_76 ?_
                refine lv_if_ne (tgt := 93) hx hb dX3_clashesAt_79 (by decide) (fun c_7 => ?_) (fun c_7 => ?_)
                · have nc_7 : (cWith v (20 + 7 * i) (20 + 7 * (i + 1 + k)) c0) = true := bI_n0.mp c_7
                  refine lv_iinc (v := (x5 + 1)) (lv' := [(2, .int (x5 + 1)), (6, .ref (ad (20 + 7 * (i + 1 + k)))), (5, .int (nI (i + 1 + k))), (4, .ref (ad (20 + 7 * i))), (3, .int (nI i)), (0, .ref (ad 0)), (1, .int (nI c0))]) hx hb dX3_clashesAt_93 hl (k := 2) rfl rfl (by decide) rfl (fun ls hl => ?_)
                  refine lv_iinc (v := (nI ((i + 1 + k) + 1))) (lv' := [(5, .int (nI ((i + 1 + k) + 1))), (2, .int (x5 + 1)), (6, .ref (ad (20 + 7 * (i + 1 + k)))), (4, .ref (ad (20 + 7 * i))), (3, .int (nI i)), (0, .ref (ad 0)), (1, .int (nI c0))]) hx hb dX3_clashesAt_96 hl (k := 2) rfl (nI_add (i + 1 + k) 1) (by decide) rfl (fun ls hl => ?_)
                  refine lv_goto (tgt := 45) hx hb dX3_clashesAt_99 (by decide) ?_
                  exact ih45 (k + 1) (x5 + 1) (by omega) (by omega) (by show _ = _ + (_ + _); rw [← Int32.add_assoc]; exact sum_t ex5 (by simp [cPair, nc_1, nc_2, nc_6, nc_7]))  ls (lv_sub hl [0, 1, 3, 4, 5, 6] rfl)
                · have nc_7 : (cWith v (20 + 7 * i) (20 + 7 * (i + 1 + k)) c0) = false := bI_0.mp c_7
                  refine lv_aload hx hb dX3_clashesAt_82 (lv_at hl 3 rfl) ?_
                  refine lv_aload hx hb dX3_clashesAt_84 (lv_at hl 0 rfl) ?_
                  refine lv_iload_n hx hb dX3_clashesAt_86 rfl (lv_at hl 6 rfl) ?_
                  refine e_cV (As := [.ref (ad (20 + 7 * (i + 1 + k))), .int (nI c0)]) (rest := []) hx hb hml hown hts (20 + 7 * i) (c_X0_changesPlacesWith (l := l) (20 + 7 * i) (hc.2.2.2.1 i (by omega)) (20 + 7 * (i + 1 + k)) (hc.2.2.2.1 (i + 1 + k) (by omega)) c0 (by omega)) cw_RX3_241 (by decide) (by decide) hz hP hI hK (((hc.2.2.2.1 i (by omega))).1) (by decide) rfl rfl rfl hl.1 rfl (Nat.le_of_ble_eq_true rfl) ⟨Nat.zero_le _, Nat.zero_le _⟩ dX3_clashesAt_87 ?_
                  refine lv_if_eq (tgt := 96) hx hb dX3_clashesAt_90 (by decide) (fun c_8 => ?_) (fun c_8 => ?_)
                  · have nc_8 : (cChange v (20 + 7 * i) (20 + 7 * (i + 1 + k)) c0) = false := bI_0.mp c_8
                    refine lv_iinc (v := (nI ((i + 1 + k) + 1))) (lv' := [(5, .int (nI ((i + 1 + k) + 1))), (6, .ref (ad (20 + 7 * (i + 1 + k)))), (2, .int x5), (4, .ref (ad (20 + 7 * i))), (3, .int (nI i)), (0, .ref (ad 0)), (1, .int (nI c0))]) hx hb dX3_clashesAt_96 hl (k := 1) rfl (nI_add (i + 1 + k) 1) (by decide) rfl (fun ls hl => ?_)
                    refine lv_goto (tgt := 45) hx hb dX3_clashesAt_99 (by decide) ?_
                    exact ih45 (k + 1) x5 (by omega) (by omega) (by show _ = _ + (_ + _); rw [← Int32.add_assoc]; exact sum_f ex5 (by simp [cPair, nc_1, nc_2, nc_6, nc_7, nc_8]))  ls (lv_sub hl [0, 2, 3, 4, 5, 6] rfl)
                  · have nc_8 : (cChange v (20 + 7 * i) (20 + 7 * (i + 1 + k)) c0) = true := bI_n0.mp c_8
                    refine lv_iinc (v := (x5 + 1)) (lv' := [(2, .int (x5 + 1)), (6, .ref (ad (20 + 7 * (i + 1 + k)))), (5, .int (nI (i + 1 + k))), (4, .ref (ad (20 + 7 * i))), (3, .int (nI i)), (0, .ref (ad 0)), (1, .int (nI c0))]) hx hb dX3_clashesAt_93 hl (k := 2) rfl rfl (by decide) rfl (fun ls hl => ?_)
                    refine lv_iinc (v := (nI ((i + 1 + k) + 1))) (lv' := [(5, .int (nI ((i + 1 + k) + 1))), (2, .int (x5 + 1)), (6, .ref (ad (20 + 7 * (i + 1 + k)))), (4, .ref (ad (20 + 7 * i))), (3, .int (nI i)), (0, .ref (ad 0)), (1, .int (nI c0))]) hx hb dX3_clashesAt_96 hl (k := 2) rfl (nI_add (i + 1 + k) 1) (by decide) rfl (fun ls hl => ?_)
                    refine lv_goto (tgt := 45) hx hb dX3_clashesAt_99 (by decide) ?_
                    exact ih45 (k + 1) (x5 + 1) (by omega) (by omega) (by show _ = _ + (_ + _); rw [← Int32.add_assoc]; exact sum_t ex5 (by simp [cPair, nc_1, nc_2, nc_6, nc_7, nc_8]))  ls (lv_sub hl [0, 1, 3, 4, 5, 6] rfl)
          exact L45 _ 0 (x2 + 1) (Nat.lt_succ_self _) (Nat.zero_le _) (by show _ = _ + 0; rw [Int32.add_zero]; exact sum_t ex2 (by simp [nc_1, nc_2]))  ls (lv_sub hl [0, 1, 2, 3, 4, 5] rfl)
  exact L4 _ 0 0 (Nat.lt_succ_self _) (Nat.zero_le _) (rfl)  ls (lv_sub hl [0, 1, 2, 3] rfl)

set_option maxRecDepth 100000 in
set_option maxHeartbeats 4000000 in
theorem c_X3_liftsWith {l : Launch} {X : eD} {z0 : Nat} {ad kd sp : Nat → Nat} {v : eV} (hc : cK kd sp) (d a b : Int32) : ePu l yX3_liftsWith cX3_liftsWith 7 (some .int) 6 [.ref (ad 0), .int d, .int a, .int b] (e_W X z0 ad kd sp v) (some (.int (cLiftsW v d a b (sp 1)))) := by
  refine e_pureI (by decide +kernel) (Nat.le_of_ble_eq_true rfl) rfl ?_
  intro p e s m args below meth c hx hb hml hown hts hW Q hret ls hl
  obtain ⟨hz, hP, hI, hK⟩ := hW
  have hl : lv_has ls 7 [(0, .ref (ad 0)), (1, .int d), (2, .int a), (3, .int b)] := hl
  have hc0 := hc.2.2.2.2.2
  have hs8 := hc0.1
  have hs12 := hc0.2.1
  have hq2 := hc0.2.2.1
  have hq3 := hc0.2.2.2.1
  have hq4 := hc0.2.2.2.2.1
  have hq5 := hc0.2.2.2.2.2.1
  have hq6 := hc0.2.2.2.2.2.2.1
  have hq7 := hc0.2.2.2.2.2.2.2
  refine lv_iconst (v := 0) hx hb dX3_liftsWith_0 (by decide) ?_
  refine lv_istore (lv' := [(4, .int 0), (0, .ref (ad 0)), (1, .int d), (2, .int a), (3, .int b)]) hx hb dX3_liftsWith_1 hl (by decide) rfl (fun ls hl => ?_)
  refine lv_iconst (v := 0) hx hb dX3_liftsWith_3 (by decide) ?_
  refine lv_istore (lv' := [(5, .int 0), (4, .int 0), (0, .ref (ad 0)), (1, .int d), (2, .int a), (3, .int b)]) hx hb dX3_liftsWith_4 hl (by decide) rfl (fun ls hl => ?_)
  have L6 : ∀ (k6 : Nat) (i : Nat) (x4 : Int32), sp 1 - i < k6 → (i ≤ sp 1) → (x4 = cLiftsW v d a b i) →  ∀ ls : Array Slot, lv_has ls 7 [(5, .int (nI i)), (4, .int x4), (0, .ref (ad 0)), (1, .int d), (2, .int a), (3, .int b)] → W p l e (e_rm 6 0 0) s m args below meth c s.heap [] 0 0 Q (F0 m 6 ls []) := by
    intro k6
    induction k6 with
    | zero => intro i x4 hk; exact absurd hk (Nat.not_lt_zero _)
    | succ k6 ih6 =>
      intro i x4 hk6 hi ex4 ls hl
      refine lv_iload hx hb dX3_liftsWith_6 (lv_at hl 0 rfl) ?_
      refine lv_aload_n hx hb dX3_liftsWith_8 rfl (lv_at hl 2 rfl) ?_
      refine e_getf hx hb hts inX3 hown hK hP 0 5 hc.1.1 (by decide) rfl rfl 1 (by decide) aw_222 (fun _ h => h) rfl dX3_liftsWith_9 ?_
      refine e_cV (As := []) (rest := [.int (nI i)]) hx hb hml hown hts 2 (c_Jx4a65c_size_8abf5_2 (l := l) hc) cw_RX3_46 (by decide) (by decide) hz hP hI hK hc.1.2.2.1 (by decide) rfl rfl rfl hl.1 rfl (Nat.le_of_ble_eq_true rfl) ⟨Nat.zero_le _, Nat.zero_le _⟩ dX3_liftsWith_12 ?_
      refine lv_icmp_ge (tgt := 76) hx hb dX3_liftsWith_15 (by decide) (fun c_1 => ?_) (fun c_1 => ?_)
      · have nc_1 : (sp 1) ≤ i := (nI_leI (a := (sp 1)) (b := i) (by omega) (by omega)).mp c_1
        refine lv_iload hx hb dX3_liftsWith_76 (lv_at hl 1 rfl) ?_
        exact e_nrm (show x4 = cLiftsW v d a b (sp 1) from by rw [ex4, show i = sp 1 by omega]) (hret _ _ dX3_liftsWith_78)
      · have nc_1 : ¬ (sp 1) ≤ i := fun h => c_1 ((nI_leI (a := (sp 1)) (b := i) (by omega) (by omega)).mpr h)
        refine lv_aload_n hx hb dX3_liftsWith_18 rfl (lv_at hl 2 rfl) ?_
        refine e_getf hx hb hts inX3 hown hK hP 0 5 hc.1.1 (by decide) rfl rfl 1 (by decide) aw_222 (fun _ h => h) rfl dX3_liftsWith_19 ?_
        refine lv_iload hx hb dX3_liftsWith_22 (lv_at hl 0 rfl) ?_
        refine e_cV (As := [.int (nI i)]) (rest := []) hx hb hml hown hts 2 (c_Jx4a65c_get_915e3_2 (l := l) hc i (by omega)) cw_RX3_85 (by decide) (by decide) hz hP hI hK hc.1.2.2.1 (by decide) rfl rfl rfl hl.1 rfl (Nat.le_of_ble_eq_true rfl) ⟨Nat.zero_le _, Nat.zero_le _⟩ dX3_liftsWith_24 ?_
        refine e_cast hx hb hts hown hK hP (80 + i) 4 (hc.2.2.2.2.1 i (by omega)) (by decide) rfl rfl aw_223 dX3_liftsWith_27 ?_
        refine lv_astore (lv' := [(6, .ref (ad (80 + i))), (5, .int (nI i)), (4, .int x4), (0, .ref (ad 0)), (1, .int d), (2, .int a), (3, .int b)]) hx hb dX3_liftsWith_30 hl (by decide) rfl (fun ls hl => ?_)
        refine lv_aload hx hb dX3_liftsWith_32 (lv_at hl 0 rfl) ?_
        refine e_getf hx hb hts inX1 hown hK hP (80 + i) 4 (hc.2.2.2.2.1 i (by omega)) (by decide) rfl rfl 4 (by decide) aw_224 (fun _ h => h) rfl dX3_liftsWith_34 ?_
        refine lv_if_ne (tgt := 70) hx hb dX3_liftsWith_37 (by decide) (fun c_2 => ?_) (fun c_2 => ?_)
        · skip
          refine lv_iinc (v := (nI (i + 1))) (lv' := [(5, .int (nI (i + 1))), (6, .ref (ad (80 + i))), (4, .int x4), (0, .ref (ad 0)), (1, .int d), (2, .int a), (3, .int b)]) hx hb dX3_liftsWith_70 hl (k := 1) rfl (nI_add i 1) (by decide) rfl (fun ls hl => ?_)
          refine lv_goto (tgt := 6) hx hb dX3_liftsWith_73 (by decide) ?_
          exact ih6 (i + 1) x4 (by omega) (by omega) (sum_f ex4 (by simp [nc_1, c_2]))  ls (lv_sub hl [0, 2, 3, 4, 5, 6] rfl)
        · skip
          refine lv_aload hx hb dX3_liftsWith_40 (lv_at hl 0 rfl) ?_
          refine e_getf hx hb hts inX1 hown hK hP (80 + i) 4 (hc.2.2.2.2.1 i (by omega)) (by decide) rfl rfl 0 (by decide) aw_225 (fun _ h => h) rfl dX3_liftsWith_42 ?_
          refine lv_iload_n hx hb dX3_liftsWith_45 rfl (lv_at hl 5 rfl) ?_
          refine lv_icmp_lt (tgt := 70) hx hb dX3_liftsWith_46 (by decide) (fun c_3 => ?_) (fun c_3 => ?_)
          · skip
            refine lv_iinc (v := (nI (i + 1))) (lv' := [(5, .int (nI (i + 1))), (6, .ref (ad (80 + i))), (4, .int x4), (0, .ref (ad 0)), (1, .int d), (2, .int a), (3, .int b)]) hx hb dX3_liftsWith_70 hl (k := 1) rfl (nI_add i 1) (by decide) rfl (fun ls hl => ?_)
            refine lv_goto (tgt := 6) hx hb dX3_liftsWith_73 (by decide) ?_
            exact ih6 (i + 1) x4 (by omega) (by omega) (sum_f ex4 (by simp [nc_1, c_2, c_3]))  ls (lv_sub hl [0, 2, 3, 4, 5, 6] rfl)
          · skip
            refine lv_aload hx hb dX3_liftsWith_49 (lv_at hl 0 rfl) ?_
            refine e_getf hx hb hts inX1 hown hK hP (80 + i) 4 (hc.2.2.2.2.1 i (by omega)) (by decide) rfl rfl 0 (by decide) aw_225 (fun _ h => h) rfl dX3_liftsWith_51 ?_
            refine lv_iload_n hx hb dX3_liftsWith_54 rfl (lv_at hl 6 rfl) ?_
            refine lv_icmp_gt (tgt := 70) hx hb dX3_liftsWith_55 (by decide) (fun c_4 => ?_) (fun c_4 => ?_)
            · skip
              refine lv_iinc (v := (nI (i + 1))) (lv' := [(5, .int (nI (i + 1))), (6, .ref (ad (80 + i))), (4, .int x4), (0, .ref (ad 0)), (1, .int d), (2, .int a), (3, .int b)]) hx hb dX3_liftsWith_70 hl (k := 1) rfl (nI_add i 1) (by decide) rfl (fun ls hl => ?_)
              refine lv_goto (tgt := 6) hx hb dX3_liftsWith_73 (by decide) ?_
              exact ih6 (i + 1) x4 (by omega) (by omega) (sum_f ex4 (by simp [nc_1, c_2, c_3, c_4]))  ls (lv_sub hl [0, 2, 3, 4, 5, 6] rfl)
            · skip
              refine lv_aload hx hb dX3_liftsWith_58 (lv_at hl 0 rfl) ?_
              refine lv_iload_n hx hb dX3_liftsWith_60 rfl (lv_at hl 4 rfl) ?_
              refine e_cV (As := [.int d]) (rest := []) hx hb hml hown hts (80 + i) (c_X1_has (l := l) (80 + i) (hc.2.2.2.2.1 i (by omega)) d) cw_RX3_244 (by decide) (by decide) hz hP hI hK (hc.2.2.2.2.1 i (by omega)) (by decide) rfl rfl rfl hl.1 rfl (Nat.le_of_ble_eq_true rfl) ⟨Nat.zero_le _, Nat.zero_le _⟩ dX3_liftsWith_61 ?_
              refine lv_if_eq (tgt := 70) hx hb dX3_liftsWith_64 (by decide) (fun c_5 => ?_) (fun c_5 => ?_)
              · have nc_5 : (cHas v (80 + i) d) = false := bI_0.mp c_5
                refine lv_iinc (v := (nI (i + 1))) (lv' := [(5, .int (nI (i + 1))), (6, .ref (ad (80 + i))), (4, .int x4), (0, .ref (ad 0)), (1, .int d), (2, .int a), (3, .int b)]) hx hb dX3_liftsWith_70 hl (k := 1) rfl (nI_add i 1) (by decide) rfl (fun ls hl => ?_)
                refine lv_goto (tgt := 6) hx hb dX3_liftsWith_73 (by decide) ?_
                exact ih6 (i + 1) x4 (by omega) (by omega) (sum_f ex4 (by simp [nc_1, c_2, c_3, c_4, nc_5]))  ls (lv_sub hl [0, 2, 3, 4, 5, 6] rfl)
              · have nc_5 : (cHas v (80 + i) d) = true := bI_n0.mp c_5
                refine lv_iinc (v := (x4 + 1)) (lv' := [(4, .int (x4 + 1)), (6, .ref (ad (80 + i))), (5, .int (nI i)), (0, .ref (ad 0)), (1, .int d), (2, .int a), (3, .int b)]) hx hb dX3_liftsWith_67 hl (k := 2) rfl rfl (by decide) rfl (fun ls hl => ?_)
                refine lv_iinc (v := (nI (i + 1))) (lv' := [(5, .int (nI (i + 1))), (4, .int (x4 + 1)), (6, .ref (ad (80 + i))), (0, .ref (ad 0)), (1, .int d), (2, .int a), (3, .int b)]) hx hb dX3_liftsWith_70 hl (k := 2) rfl (nI_add i 1) (by decide) rfl (fun ls hl => ?_)
                refine lv_goto (tgt := 6) hx hb dX3_liftsWith_73 (by decide) ?_
                exact ih6 (i + 1) (x4 + 1) (by omega) (by omega) (sum_t ex4 (by simp [nc_1, c_2, c_3, c_4, nc_5]))  ls (lv_sub hl [0, 1, 3, 4, 5, 6] rfl)
  exact L6 _ 0 0 (Nat.lt_succ_self _) (Nat.zero_le _) (rfl)  ls (lv_sub hl [0, 1, 2, 3, 4, 5] rfl)

set_option maxRecDepth 100000 in
set_option maxHeartbeats 4000000 in
theorem c_X3_isFreeFor {l : Launch} {X : eD} {z0 : Nat} {ad kd sp : Nat → Nat} {v : eV} (hc : cK kd sp) (hcv : cI sp v) (l9 d : Nat) (hl9 : l9 < sp 1) (hd : d < sp 0) : ePu l yX3_isFreeFor cX3_isFreeFor 3 (some .boolean) 7 [.ref (ad 0), .ref (ad (80 + l9)), .int (nI d)] (e_W X z0 ad kd sp v) (some (.int (bI (cFree v l9 d (sp 1))))) := by
  refine e_pureI (by decide +kernel) (Nat.le_of_ble_eq_true rfl) (bI_nar _) ?_
  intro p e s m args below meth c hx hb hml hown hts hW Q hret ls hl
  obtain ⟨hz, hP, hI, hK⟩ := hW
  have hl : lv_has ls 3 [(0, .ref (ad 0)), (1, .ref (ad (80 + l9))), (2, .int (nI d))] := hl
  have hc0 := hc.2.2.2.2.2
  have hs8 := hc0.1
  have hs12 := hc0.2.1
  have hq2 := hc0.2.2.1
  have hq3 := hc0.2.2.2.1
  have hq4 := hc0.2.2.2.2.1
  have hq5 := hc0.2.2.2.2.2.1
  have hq6 := hc0.2.2.2.2.2.2.1
  have hq7 := hc0.2.2.2.2.2.2.2
  refine lv_aload_n hx hb dX3_isFreeFor_0 rfl (lv_at hl 0 rfl) ?_
  refine lv_iload_n hx hb dX3_isFreeFor_1 rfl (lv_at hl 2 rfl) ?_
  refine e_cV (As := [.int (nI d)]) (rest := []) hx hb hml hown hts 0 (c_X3_isOut (l := l) hc hcv d (by omega)) cw_RX3_126 (by decide) (by decide) hz hP hI hK hc.1.1 (by decide) rfl rfl rfl hl.1 rfl (Nat.le_of_ble_eq_true rfl) ⟨Nat.zero_le _, Nat.zero_le _⟩ dX3_isFreeFor_2 ?_
  refine lv_if_ne (tgt := 29) hx hb dX3_isFreeFor_5 (by decide) (fun c_1 => ?_) (fun c_1 => ?_)
  · have nc_1 : (cOut v d) = true := bI_n0.mp c_1
    refine lv_iconst (v := 0) hx hb dX3_isFreeFor_29 (by decide) ?_
    exact e_nrm (show 0 = bI (cFree v l9 d (sp 1)) from (by first | (simp [cFree, bI, nc_1]; done) | (exfalso; simp_all; done))) (hret _ _ dX3_isFreeFor_30)
  · have nc_1 : (cOut v d) = false := bI_0.mp c_1
    refine lv_aload_n hx hb dX3_isFreeFor_8 rfl (lv_at hl 0 rfl) ?_
    refine lv_iload_n hx hb dX3_isFreeFor_9 rfl (lv_at hl 2 rfl) ?_
    refine lv_aload_n hx hb dX3_isFreeFor_10 rfl (lv_at hl 1 rfl) ?_
    refine e_getf hx hb hts inX1 hown hK hP (80 + l9) 4 (hc.2.2.2.2.1 l9 hl9) (by decide) rfl rfl 0 (by decide) aw_225 (fun _ h => h) rfl dX3_isFreeFor_11 ?_
    refine lv_aload_n hx hb dX3_isFreeFor_14 rfl (lv_at hl 1 rfl) ?_
    refine e_getf hx hb hts inX1 hown hK hP (80 + l9) 4 (hc.2.2.2.2.1 l9 hl9) (by decide) rfl rfl 0 (by decide) aw_225 (fun _ h => h) rfl dX3_isFreeFor_15 ?_
    refine e_cV (As := [.int (nI d), .int (v (80 + l9) 0), .int (v (80 + l9) 0)]) (rest := []) hx hb hml hown hts 0 (c_X3_liftsWith (l := l) hc (nI d) (v (80 + l9) 0) (v (80 + l9) 0)) cw_RX3_254 (by decide) (by decide) hz hP hI hK hc.1.1 (by decide) rfl rfl rfl hl.1 rfl (Nat.le_of_ble_eq_true rfl) ⟨Nat.zero_le _, Nat.zero_le _⟩ dX3_isFreeFor_18 ?_
    refine lv_iconst (v := 1) hx hb dX3_isFreeFor_21 (by decide) ?_
    refine lv_icmp_ne (tgt := 29) hx hb dX3_isFreeFor_22 (by decide) (fun c_2 => ?_) (fun c_2 => ?_)
    · skip
      refine lv_iconst (v := 0) hx hb dX3_isFreeFor_29 (by decide) ?_
      exact e_nrm (show 0 = bI (cFree v l9 d (sp 1)) from (by first | (simp [cFree, bI, nc_1, eq_false c_2]; done) | (exfalso; simp_all; done))) (hret _ _ dX3_isFreeFor_30)
    · skip
      refine lv_iconst (v := 1) hx hb dX3_isFreeFor_25 (by decide) ?_
      refine lv_goto (tgt := 30) hx hb dX3_isFreeFor_26 (by decide) ?_
      exact e_nrm (show 1 = bI (cFree v l9 d (sp 1)) from (by first | (simp [cFree, bI, nc_1, eq_true c_2]; done) | (exfalso; simp_all; done))) (hret _ _ dX3_isFreeFor_30)

set_option maxRecDepth 100000 in
set_option maxHeartbeats 4000000 in
theorem c_X3_isBesideLifted {l : Launch} {X : eD} {z0 : Nat} {ad kd sp : Nat → Nat} {v : eV} (hc : cK kd sp) (hcv : cI sp v) (l9 d c0 dl : Nat) (hl9 : l9 < sp 1) (hd : d < sp 0) (hc9 : c0 < 64) (hdl : dl < sp 0) (ec : v (80 + l9) 0 = nI c0) (el : v (80 + l9) 1 = nI dl) : ePu l yX3_isBesideLifted cX3_isBesideLifted 3 (some .boolean) 6 [.ref (ad 0), .ref (ad (80 + l9)), .int (nI d)] (e_W X z0 ad kd sp v) (some (.int (bI (cBesL v d dl c0)))) := by
  refine e_pureI (by decide +kernel) (Nat.le_of_ble_eq_true rfl) (bI_nar _) ?_
  intro p e s m args below meth c hx hb hml hown hts hW Q hret ls hl
  obtain ⟨hz, hP, hI, hK⟩ := hW
  have hl : lv_has ls 3 [(0, .ref (ad 0)), (1, .ref (ad (80 + l9))), (2, .int (nI d))] := hl
  have hc0 := hc.2.2.2.2.2
  have hs8 := hc0.1
  have hs12 := hc0.2.1
  have hq2 := hc0.2.2.1
  have hq3 := hc0.2.2.2.1
  have hq4 := hc0.2.2.2.2.1
  have hq5 := hc0.2.2.2.2.2.1
  have hq6 := hc0.2.2.2.2.2.2.1
  have hq7 := hc0.2.2.2.2.2.2.2
  refine lv_aload_n hx hb dX3_isBesideLifted_0 rfl (lv_at hl 0 rfl) ?_
  refine e_getf hx hb hts inX3 hown hK hP 0 5 hc.1.1 (by decide) rfl rfl 0 (by decide) aw_194 (fun _ h => h) rfl dX3_isBesideLifted_1 ?_
  refine lv_iload_n hx hb dX3_isBesideLifted_4 rfl (lv_at hl 2 rfl) ?_
  refine e_cV (As := [.int (nI d)]) (rest := []) hx hb hml hown hts 1 (c_Jx4a65c_get_915e3_1 (l := l) hc d (by omega)) cw_RX3_85 (by decide) (by decide) hz hP hI hK hc.1.2.1 (by decide) rfl rfl rfl hl.1 rfl (Nat.le_of_ble_eq_true rfl) ⟨Nat.zero_le _, Nat.zero_le _⟩ dX3_isBesideLifted_5 ?_
  refine e_cast hx hb hts hown hK hP (20 + 7 * d) 1 (((hc.2.2.2.1 d (by omega))).1) (by decide) rfl rfl aw_200 dX3_isBesideLifted_8 ?_
  refine lv_aload_n hx hb dX3_isBesideLifted_11 rfl (lv_at hl 0 rfl) ?_
  refine e_getf hx hb hts inX3 hown hK hP 0 5 hc.1.1 (by decide) rfl rfl 0 (by decide) aw_194 (fun _ h => h) rfl dX3_isBesideLifted_12 ?_
  refine lv_aload_n hx hb dX3_isBesideLifted_15 rfl (lv_at hl 1 rfl) ?_
  refine e_getf hx hb hts inX1 hown hK hP (80 + l9) 4 (hc.2.2.2.2.1 l9 hl9) (by decide) rfl rfl 1 (by decide) aw_241 (fun _ h => h) rfl dX3_isBesideLifted_16 ?_
  refine e_nrm (y := nI dl) el ?_
  refine e_cV (As := [.int (nI dl)]) (rest := [.ref (ad (20 + 7 * d))]) hx hb hml hown hts 1 (c_Jx4a65c_get_915e3_1 (l := l) hc dl (by omega)) cw_RX3_85 (by decide) (by decide) hz hP hI hK hc.1.2.1 (by decide) rfl rfl rfl hl.1 rfl (Nat.le_of_ble_eq_true rfl) ⟨Nat.zero_le _, Nat.zero_le _⟩ dX3_isBesideLifted_19 ?_
  refine e_cast hx hb hts hown hK hP (20 + 7 * dl) 1 (((hc.2.2.2.1 dl (by omega))).1) (by decide) rfl rfl aw_200 dX3_isBesideLifted_22 ?_
  refine lv_aload_n hx hb dX3_isBesideLifted_25 rfl (lv_at hl 1 rfl) ?_
  refine e_getf hx hb hts inX1 hown hK hP (80 + l9) 4 (hc.2.2.2.2.1 l9 hl9) (by decide) rfl rfl 0 (by decide) aw_225 (fun _ h => h) rfl dX3_isBesideLifted_26 ?_
  refine e_nrm (y := nI c0) ec ?_
  refine e_cV (As := [.ref (ad (20 + 7 * dl)), .int (nI c0)]) (rest := []) hx hb hml hown hts (20 + 7 * d) (c_X0_isBeside (l := l) (20 + 7 * d) (hc.2.2.2.1 d (by omega)) (20 + 7 * dl) (hc.2.2.2.1 dl (by omega)) c0 (by omega)) cw_RX3_258 (by decide) (by decide) hz hP hI hK (((hc.2.2.2.1 d (by omega))).1) (by decide) rfl rfl rfl hl.1 rfl (Nat.le_of_ble_eq_true rfl) ⟨Nat.zero_le _, Nat.zero_le _⟩ dX3_isBesideLifted_29 ?_
  exact e_nrm (show (bI (cBeside v (20 + 7 * d) (20 + 7 * dl) c0)) = bI (cBesL v d dl c0) from rfl) (hret _ _ dX3_isBesideLifted_32)

set_option maxRecDepth 100000 in
set_option maxHeartbeats 4000000 in
theorem c_X3_stateOf {l : Launch} {X : eD} {z0 : Nat} {ad kd sp : Nat → Nat} {v : eV} (hc : cK kd sp) (hcv : cI sp v) (l9 c0 dl da db : Nat) (hl9 : l9 < sp 1) (hc9 : c0 < 64) (hdl : dl < sp 0) (hda : da < sp 0) (hdb : db < sp 0) (ec : v (80 + l9) 0 = nI c0) (el : v (80 + l9) 1 = nI dl) (ea : v (80 + l9) 2 = nI da) (eb : v (80 + l9) 3 = nI db) : ePu l yX3_stateOf cX3_stateOf 3 (some .int) 8 [.ref (ad 0), .ref (ad (80 + l9))] (e_W X z0 ad kd sp v) (some (.int (cState v l9 c0 dl da db (sp 1)))) := by
  refine e_pureI (by decide +kernel) (Nat.le_of_ble_eq_true rfl) rfl ?_
  intro p e s m args below meth c hx hb hml hown hts hW Q hret ls hl
  obtain ⟨hz, hP, hI, hK⟩ := hW
  have hl : lv_has ls 3 [(0, .ref (ad 0)), (1, .ref (ad (80 + l9)))] := hl
  have hc0 := hc.2.2.2.2.2
  have hs8 := hc0.1
  have hs12 := hc0.2.1
  have hq2 := hc0.2.2.1
  have hq3 := hc0.2.2.2.1
  have hq4 := hc0.2.2.2.2.1
  have hq5 := hc0.2.2.2.2.2.1
  have hq6 := hc0.2.2.2.2.2.2.1
  have hq7 := hc0.2.2.2.2.2.2.2
  refine lv_aload_n hx hb dX3_stateOf_0 rfl (lv_at hl 1 rfl) ?_
  refine e_getf hx hb hts inX1 hown hK hP (80 + l9) 4 (hc.2.2.2.2.1 l9 hl9) (by decide) rfl rfl 4 (by decide) aw_224 (fun _ h => h) rfl dX3_stateOf_1 ?_
  refine lv_if_eq (tgt := 9) hx hb dX3_stateOf_4 (by decide) (fun c_1 => ?_) (fun c_1 => ?_)
  · skip
    have J9_74 : ∀ ls : Array Slot, lv_has ls 3 [(0, .ref (ad 0)), (1, .ref (ad (80 + l9)))] → W p l e (e_rm 8 0 0) s m args below meth c s.heap [] 0 0 Q (F0 m 74 ls [.int (bI (cStands v l9 c0 dl da db (sp 1)))]) := by
      intro ls hl
      refine lv_istore_n (lv' := [(2, .int (bI (cStands v l9 c0 dl da db (sp 1)))), (0, .ref (ad 0)), (1, .ref (ad (80 + l9)))]) hx hb dX3_stateOf_74 rfl hl (by decide) rfl (fun ls hl => ?_)
      refine lv_iload_n hx hb dX3_stateOf_75 rfl (lv_at hl 0 rfl) ?_
      refine lv_if_eq (tgt := 83) hx hb dX3_stateOf_76 (by decide) (fun c_2 => ?_) (fun c_2 => ?_)
      · have nc_2 : (cStands v l9 c0 dl da db (sp 1)) = false := bI_0.mp c_2
        refine lv_iconst (v := 0) hx hb dX3_stateOf_83 (by decide) ?_
        exact e_nrm (show 0 = cState v l9 c0 dl da db (sp 1) from (by first | (simp [cState, bI, c_1, nc_2]; done) | (exfalso; simp_all; done))) (hret _ _ dX3_stateOf_84)
      · have nc_2 : (cStands v l9 c0 dl da db (sp 1)) = true := bI_n0.mp c_2
        refine lv_iconst (v := 1) hx hb dX3_stateOf_79 (by decide) ?_
        refine lv_goto (tgt := 84) hx hb dX3_stateOf_80 (by decide) ?_
        exact e_nrm (show 1 = cState v l9 c0 dl da db (sp 1) from (by first | (simp [cState, bI, c_1, nc_2]; done) | (exfalso; simp_all; done))) (hret _ _ dX3_stateOf_84)
    refine lv_aload_n hx hb dX3_stateOf_9 rfl (lv_at hl 0 rfl) ?_
    refine lv_aload_n hx hb dX3_stateOf_10 rfl (lv_at hl 1 rfl) ?_
    refine lv_aload_n hx hb dX3_stateOf_11 rfl (lv_at hl 1 rfl) ?_
    refine e_getf hx hb hts inX1 hown hK hP (80 + l9) 4 (hc.2.2.2.2.1 l9 hl9) (by decide) rfl rfl 1 (by decide) aw_241 (fun _ h => h) rfl dX3_stateOf_12 ?_
    refine e_nrm (y := nI dl) el ?_
    refine e_cV (As := [.ref (ad (80 + l9)), .int (nI dl)]) (rest := []) hx hb hml hown hts 0 (c_X3_isFreeFor (l := l) hc hcv l9 dl (by omega) (by omega)) cw_RX3_247 (by decide) (by decide) hz hP hI hK hc.1.1 (by decide) rfl rfl rfl hl.1 rfl (Nat.le_of_ble_eq_true rfl) ⟨Nat.zero_le _, Nat.zero_le _⟩ dX3_stateOf_15 ?_
    refine lv_if_eq (tgt := 73) hx hb dX3_stateOf_18 (by decide) (fun c_3 => ?_) (fun c_3 => ?_)
    · have nc_3 : (cFree v l9 dl (sp 1)) = false := bI_0.mp c_3
      refine lv_iconst (v := 0) hx hb dX3_stateOf_73 (by decide) ?_
      exact e_nrm (show 0 = (bI (cStands v l9 c0 dl da db (sp 1))) from (by first | (simp [cStands, bI, c_1, nc_3]; done) | (exfalso; simp_all; done))) (J9_74 ls (lv_sub hl [0, 1] rfl))
    · have nc_3 : (cFree v l9 dl (sp 1)) = true := bI_n0.mp c_3
      refine lv_aload_n hx hb dX3_stateOf_21 rfl (lv_at hl 0 rfl) ?_
      refine lv_aload_n hx hb dX3_stateOf_22 rfl (lv_at hl 1 rfl) ?_
      refine lv_aload_n hx hb dX3_stateOf_23 rfl (lv_at hl 1 rfl) ?_
      refine e_getf hx hb hts inX1 hown hK hP (80 + l9) 4 (hc.2.2.2.2.1 l9 hl9) (by decide) rfl rfl 2 (by decide) aw_252 (fun _ h => h) rfl dX3_stateOf_24 ?_
      refine e_nrm (y := nI da) ea ?_
      refine e_cV (As := [.ref (ad (80 + l9)), .int (nI da)]) (rest := []) hx hb hml hown hts 0 (c_X3_isFreeFor (l := l) hc hcv l9 da (by omega) (by omega)) cw_RX3_247 (by decide) (by decide) hz hP hI hK hc.1.1 (by decide) rfl rfl rfl hl.1 rfl (Nat.le_of_ble_eq_true rfl) ⟨Nat.zero_le _, Nat.zero_le _⟩ dX3_stateOf_27 ?_
      refine lv_if_eq (tgt := 73) hx hb dX3_stateOf_30 (by decide) (fun c_4 => ?_) (fun c_4 => ?_)
      · have nc_4 : (cFree v l9 da (sp 1)) = false := bI_0.mp c_4
        refine lv_iconst (v := 0) hx hb dX3_stateOf_73 (by decide) ?_
        exact e_nrm (show 0 = (bI (cStands v l9 c0 dl da db (sp 1))) from (by first | (simp [cStands, bI, c_1, nc_3, nc_4]; done) | (exfalso; simp_all; done))) (J9_74 ls (lv_sub hl [0, 1] rfl))
      · have nc_4 : (cFree v l9 da (sp 1)) = true := bI_n0.mp c_4
        refine lv_aload_n hx hb dX3_stateOf_33 rfl (lv_at hl 0 rfl) ?_
        refine lv_aload_n hx hb dX3_stateOf_34 rfl (lv_at hl 1 rfl) ?_
        refine lv_aload_n hx hb dX3_stateOf_35 rfl (lv_at hl 1 rfl) ?_
        refine e_getf hx hb hts inX1 hown hK hP (80 + l9) 4 (hc.2.2.2.2.1 l9 hl9) (by decide) rfl rfl 3 (by decide) aw_253 (fun _ h => h) rfl dX3_stateOf_36 ?_
        refine e_nrm (y := nI db) eb ?_
        refine e_cV (As := [.ref (ad (80 + l9)), .int (nI db)]) (rest := []) hx hb hml hown hts 0 (c_X3_isFreeFor (l := l) hc hcv l9 db (by omega) (by omega)) cw_RX3_247 (by decide) (by decide) hz hP hI hK hc.1.1 (by decide) rfl rfl rfl hl.1 rfl (Nat.le_of_ble_eq_true rfl) ⟨Nat.zero_le _, Nat.zero_le _⟩ dX3_stateOf_39 ?_
        refine lv_if_eq (tgt := 73) hx hb dX3_stateOf_42 (by decide) (fun c_5 => ?_) (fun c_5 => ?_)
        · have nc_5 : (cFree v l9 db (sp 1)) = false := bI_0.mp c_5
          refine lv_iconst (v := 0) hx hb dX3_stateOf_73 (by decide) ?_
          exact e_nrm (show 0 = (bI (cStands v l9 c0 dl da db (sp 1))) from (by first | (simp [cStands, bI, c_1, nc_3, nc_4, nc_5]; done) | (exfalso; simp_all; done))) (J9_74 ls (lv_sub hl [0, 1] rfl))
        · have nc_5 : (cFree v l9 db (sp 1)) = true := bI_n0.mp c_5
          refine lv_aload_n hx hb dX3_stateOf_45 rfl (lv_at hl 0 rfl) ?_
          refine lv_aload_n hx hb dX3_stateOf_46 rfl (lv_at hl 1 rfl) ?_
          refine lv_aload_n hx hb dX3_stateOf_47 rfl (lv_at hl 1 rfl) ?_
          refine e_getf hx hb hts inX1 hown hK hP (80 + l9) 4 (hc.2.2.2.2.1 l9 hl9) (by decide) rfl rfl 2 (by decide) aw_252 (fun _ h => h) rfl dX3_stateOf_48 ?_
          refine e_nrm (y := nI da) ea ?_
          refine e_cV (As := [.ref (ad (80 + l9)), .int (nI da)]) (rest := []) hx hb hml hown hts 0 (c_X3_isBesideLifted (l := l) hc hcv l9 da c0 dl (by omega) (by omega) (by omega) (by omega) ec el) cw_RX3_251 (by decide) (by decide) hz hP hI hK hc.1.1 (by decide) rfl rfl rfl hl.1 rfl (Nat.le_of_ble_eq_true rfl) ⟨Nat.zero_le _, Nat.zero_le _⟩ dX3_stateOf_51 ?_
          refine lv_if_eq (tgt := 73) hx hb dX3_stateOf_54 (by decide) (fun c_6 => ?_) (fun c_6 => ?_)
          · have nc_6 : (cBesL v da dl c0) = false := bI_0.mp c_6
            refine lv_iconst (v := 0) hx hb dX3_stateOf_73 (by decide) ?_
            exact e_nrm (show 0 = (bI (cStands v l9 c0 dl da db (sp 1))) from (by first | (simp [cStands, bI, c_1, nc_3, nc_4, nc_5, nc_6]; done) | (exfalso; simp_all; done))) (J9_74 ls (lv_sub hl [0, 1] rfl))
          · have nc_6 : (cBesL v da dl c0) = true := bI_n0.mp c_6
            refine lv_aload_n hx hb dX3_stateOf_57 rfl (lv_at hl 0 rfl) ?_
            refine lv_aload_n hx hb dX3_stateOf_58 rfl (lv_at hl 1 rfl) ?_
            refine lv_aload_n hx hb dX3_stateOf_59 rfl (lv_at hl 1 rfl) ?_
            refine e_getf hx hb hts inX1 hown hK hP (80 + l9) 4 (hc.2.2.2.2.1 l9 hl9) (by decide) rfl rfl 3 (by decide) aw_253 (fun _ h => h) rfl dX3_stateOf_60 ?_
            refine e_nrm (y := nI db) eb ?_
            refine e_cV (As := [.ref (ad (80 + l9)), .int (nI db)]) (rest := []) hx hb hml hown hts 0 (c_X3_isBesideLifted (l := l) hc hcv l9 db c0 dl (by omega) (by omega) (by omega) (by omega) ec el) cw_RX3_251 (by decide) (by decide) hz hP hI hK hc.1.1 (by decide) rfl rfl rfl hl.1 rfl (Nat.le_of_ble_eq_true rfl) ⟨Nat.zero_le _, Nat.zero_le _⟩ dX3_stateOf_63 ?_
            refine lv_if_eq (tgt := 73) hx hb dX3_stateOf_66 (by decide) (fun c_7 => ?_) (fun c_7 => ?_)
            · have nc_7 : (cBesL v db dl c0) = false := bI_0.mp c_7
              refine lv_iconst (v := 0) hx hb dX3_stateOf_73 (by decide) ?_
              exact e_nrm (show 0 = (bI (cStands v l9 c0 dl da db (sp 1))) from (by first | (simp [cStands, bI, c_1, nc_3, nc_4, nc_5, nc_6, nc_7]; done) | (exfalso; simp_all; done))) (J9_74 ls (lv_sub hl [0, 1] rfl))
            · have nc_7 : (cBesL v db dl c0) = true := bI_n0.mp c_7
              refine lv_iconst (v := 1) hx hb dX3_stateOf_69 (by decide) ?_
              refine lv_goto (tgt := 74) hx hb dX3_stateOf_70 (by decide) ?_
              exact e_nrm (show 1 = (bI (cStands v l9 c0 dl da db (sp 1))) from (by first | (simp [cStands, bI, c_1, nc_3, nc_4, nc_5, nc_6, nc_7]; done) | (exfalso; simp_all; done))) (J9_74 ls (lv_sub hl [0, 1] rfl))
  · skip
    refine lv_iconst (v := 2) hx hb dX3_stateOf_7 (by decide) ?_
    exact e_nrm (show 2 = cState v l9 c0 dl da db (sp 1) from (by first | (simp [cState, bI, c_1]; done) | (exfalso; simp_all; done))) (hret _ _ dX3_stateOf_8)

set_option maxRecDepth 100000 in
set_option maxHeartbeats 4000000 in
theorem c_X3_lastOf {l : Launch} {X : eD} {z0 : Nat} {ad kd sp : Nat → Nat} {v : eV} (hc : cK kd sp) (c0 : Nat) (hc9 : c0 < 64) : ePu l yX3_lastOf cX3_lastOf 3 (some .int) 0 [.ref (ad 0), .int (nI c0)] (e_W X z0 ad kd sp v) (some (.int (cLast v c0))) := by
  refine e_pureI (by decide +kernel) (Nat.le_of_ble_eq_true rfl) rfl ?_
  intro p e s m args below meth c hx hb hml hown hts hW Q hret ls hl
  obtain ⟨hz, hP, hI, hK⟩ := hW
  have hl : lv_has ls 3 [(0, .ref (ad 0)), (1, .int (nI c0))] := hl
  refine lv_iload_n hx hb dX3_lastOf_0 rfl (lv_at hl 1 rfl) ?_
  refine lv_istore_n (lv' := [(2, .int (nI c0)), (0, .ref (ad 0)), (1, .int (nI c0))]) hx hb dX3_lastOf_1 rfl hl (by decide) rfl (fun ls hl => ?_)
  have L2 : ∀ (k2 : Nat) (i : Nat), i < k2 → (i ≤ c0) → (cLast v i = cLast v c0) →  ∀ ls : Array Slot, lv_has ls 3 [(2, .int (nI i)), (0, .ref (ad 0)), (1, .int (nI c0))] → W p l e (e_rm 0 0 0) s m args below meth c s.heap [] 0 0 Q (F0 m 2 ls []) := by
    intro k2
    induction k2 with
    | zero => intro i hk; exact absurd hk (Nat.not_lt_zero _)
    | succ k2 ih2 =>
      intro i hk2 hi ef ls hl
      refine lv_iload_n hx hb dX3_lastOf_2 rfl (lv_at hl 0 rfl) ?_
      refine lv_if_le (tgt := 21) hx hb dX3_lastOf_3 (by decide) (fun c_1 => ?_) (fun c_1 => ?_)
      · have nc_1 : i = 0 := by have := (nI_leI (a := i) (b := 0) (by omega) (by omega)).mp c_1; omega
        refine lv_aload_n hx hb dX3_lastOf_21 rfl (lv_at hl 1 rfl) ?_
        refine e_getf hx hb hts inX3 hown hK hP 0 5 hc.1.1 (by decide) rfl rfl 2 (by decide) aw_259 (fun _ h => h) rfl dX3_lastOf_22 ?_
        refine lv_iload_n hx hb dX3_lastOf_25 rfl (lv_at hl 0 rfl) ?_
        refine e_iald hx hb hK hP 3 64 hc.1.2.2.2.1 i rfl (by omega) (by decide) dX3_lastOf_26 ?_
        exact e_nrm (show (v 3 i) = cLast v c0 from by rw [← ef, nc_1]; rfl) (hret _ _ dX3_lastOf_27)
      · have nc_1 : ¬ i = 0 := fun h => c_1 ((nI_leI (a := i) (b := 0) (by omega) (by omega)).mpr (by omega))
        refine lv_aload_n hx hb dX3_lastOf_6 rfl (lv_at hl 1 rfl) ?_
        refine e_getf hx hb hts inX3 hown hK hP 0 5 hc.1.1 (by decide) rfl rfl 2 (by decide) aw_259 (fun _ h => h) rfl dX3_lastOf_7 ?_
        refine lv_iload_n hx hb dX3_lastOf_10 rfl (lv_at hl 0 rfl) ?_
        refine e_iald hx hb hK hP 3 64 hc.1.2.2.2.1 i rfl (by omega) (by decide) dX3_lastOf_11 ?_
        refine lv_if_ne (tgt := 21) hx hb dX3_lastOf_12 (by decide) (fun c_2 => ?_) (fun c_2 => ?_)
        · skip
          refine lv_aload_n hx hb dX3_lastOf_21 rfl (lv_at hl 1 rfl) ?_
          refine e_getf hx hb hts inX3 hown hK hP 0 5 hc.1.1 (by decide) rfl rfl 2 (by decide) aw_259 (fun _ h => h) rfl dX3_lastOf_22 ?_
          refine lv_iload_n hx hb dX3_lastOf_25 rfl (lv_at hl 0 rfl) ?_
          refine e_iald hx hb hK hP 3 64 hc.1.2.2.2.1 i rfl (by omega) (by decide) dX3_lastOf_26 ?_
          exact e_nrm (show (v 3 i) = cLast v c0 from by rw [← ef]; exact (cLast_n nc_1 c_2).symm) (hret _ _ dX3_lastOf_27)
        · skip
          refine lv_iinc (v := (nI (i - 1))) (lv' := [(2, .int (nI (i - 1))), (0, .ref (ad 0)), (1, .int (nI c0))]) hx hb dX3_lastOf_15 hl (k := 0) rfl (e_dec (by omega)) (by decide) rfl (fun ls hl => ?_)
          refine lv_goto (tgt := 2) hx hb dX3_lastOf_18 (by decide) ?_
          exact ih2 (i - 1) (by omega) (by omega) (by rw [← ef]; exact (cLast_0 (by omega) c_2).symm)  ls (lv_sub hl [0, 1, 2] rfl)
  exact L2 _ c0 (Nat.lt_succ_self _) (Nat.le_refl _) (rfl)  ls (lv_sub hl [0, 1, 2] rfl)

set_option maxRecDepth 100000 in
set_option maxHeartbeats 4000000 in
theorem c_X3_lastsAheadOf {l : Launch} {X : eD} {z0 : Nat} {ad kd sp : Nat → Nat} {v : eV} (hc : cK kd sp) (c0 : Nat) (hc9 : c0 < 64) : ePu l yX3_lastsAheadOf cX3_lastsAheadOf 6 (some .long) 0 [.ref (ad 0), .int (nI c0)] (e_W X z0 ad kd sp v) (some (.long (cSum v c0))) := by
  refine e_pureL (by decide +kernel) (Nat.le_of_ble_eq_true rfl) ?_
  intro p e s m args below meth c hx hb hml hown hts hW Q hret ls hl
  obtain ⟨hz, hP, hI, hK⟩ := hW
  have hl : lv_has ls 6 [(0, .ref (ad 0)), (1, .int (nI c0))] := hl
  refine lv_lconst (v := 0) hx hb dX3_lastsAheadOf_0 rfl ?_
  refine lv_lstore_n (lv' := [(2, .long 0), (0, .ref (ad 0)), (1, .int (nI c0))]) hx hb dX3_lastsAheadOf_1 rfl hl (by decide) rfl (fun ls hl => ?_)
  refine lv_sipush (v := 500) hx hb dX3_lastsAheadOf_2 (by decide) ?_
  refine lv_istore (lv' := [(4, .int 500), (2, .long 0), (0, .ref (ad 0)), (1, .int (nI c0))]) hx hb dX3_lastsAheadOf_5 hl (by decide) rfl (fun ls hl => ?_)
  refine lv_iconst (v := 0) hx hb dX3_lastsAheadOf_7 (by decide) ?_
  refine lv_istore (lv' := [(5, .int 0), (4, .int 500), (2, .long 0), (0, .ref (ad 0)), (1, .int (nI c0))]) hx hb dX3_lastsAheadOf_8 hl (by decide) rfl (fun ls hl => ?_)
  have L10 : ∀ (k10 : Nat) (i : Nat) (x2 : Int64) (x4 : Int32), c0 - i < k10 → (i ≤ c0) → (x2 = cSum v i) → (x4 = cUp v i) →  ∀ ls : Array Slot, lv_has ls 6 [(5, .int (nI i)), (4, .int x4), (2, .long x2), (0, .ref (ad 0)), (1, .int (nI c0))] → W p l e (e_rm 0 0 0) s m args below meth c s.heap [] 0 0 Q (F0 m 10 ls []) := by
    intro k10
    induction k10 with
    | zero => intro i x2 x4 hk; exact absurd hk (Nat.not_lt_zero _)
    | succ k10 ih10 =>
      intro i x2 x4 hk10 hi ex2 ex4 ls hl
      refine lv_iload hx hb dX3_lastsAheadOf_10 (lv_at hl 0 rfl) ?_
      refine lv_iload_n hx hb dX3_lastsAheadOf_12 rfl (lv_at hl 4 rfl) ?_
      refine lv_icmp_ge (tgt := 47) hx hb dX3_lastsAheadOf_13 (by decide) (fun c_1 => ?_) (fun c_1 => ?_)
      · have nc_1 : c0 ≤ i := (nI_leI (a := c0) (b := i) (by omega) (by omega)).mp c_1
        refine lv_lload_n hx hb dX3_lastsAheadOf_47 rfl (lv_at hl 2 rfl) ?_
        exact e_nrml (show x2 = cSum v c0 from by rw [ex2, show i = c0 by omega]) (hret _ _ dX3_lastsAheadOf_48)
      · have nc_1 : ¬ c0 ≤ i := fun h => c_1 ((nI_leI (a := c0) (b := i) (by omega) (by omega)).mpr h)
        refine lv_aload_n hx hb dX3_lastsAheadOf_16 rfl (lv_at hl 3 rfl) ?_
        refine e_getf hx hb hts inX3 hown hK hP 0 5 hc.1.1 (by decide) rfl rfl 2 (by decide) aw_259 (fun _ h => h) rfl dX3_lastsAheadOf_17 ?_
        refine lv_iload hx hb dX3_lastsAheadOf_20 (lv_at hl 0 rfl) ?_
        refine e_iald hx hb hK hP 3 64 hc.1.2.2.2.1 i rfl (by omega) (by decide) dX3_lastsAheadOf_22 ?_
        refine lv_if_eq (tgt := 35) hx hb dX3_lastsAheadOf_23 (by decide) (fun c_2 => ?_) (fun c_2 => ?_)
        · skip
          refine lv_lload_n hx hb dX3_lastsAheadOf_35 rfl (lv_at hl 2 rfl) ?_
          refine lv_iload hx hb dX3_lastsAheadOf_36 (lv_at hl 1 rfl) ?_
          refine lv_i2l hx hb dX3_lastsAheadOf_38 rfl ?_
          refine lv_ladd hx hb dX3_lastsAheadOf_39 ?_
          refine lv_lstore_n (lv' := [(2, .long (x2 + (Int32.toInt64 x4))), (5, .int (nI i)), (4, .int x4), (0, .ref (ad 0)), (1, .int (nI c0))]) hx hb dX3_lastsAheadOf_40 rfl hl (by decide) rfl (fun ls hl => ?_)
          refine lv_iinc (v := (nI (i + 1))) (lv' := [(5, .int (nI (i + 1))), (2, .long (x2 + (Int32.toInt64 x4))), (4, .int x4), (0, .ref (ad 0)), (1, .int (nI c0))]) hx hb dX3_lastsAheadOf_41 hl (k := 1) rfl (nI_add i 1) (by decide) rfl (fun ls hl => ?_)
          refine lv_goto (tgt := 10) hx hb dX3_lastsAheadOf_44 (by decide) ?_
          exact ih10 (i + 1) (x2 + (Int32.toInt64 x4)) x4 (by omega) (by omega) (by rw [ex2]; show _ = _ + (cUp v (i + 1)).toInt64; rw [show cUp v (i + 1) = x4 from ((cUp_0 c_2).trans ex4.symm)]) (((cUp_0 c_2).trans ex4.symm).symm)  ls (lv_sub hl [0, 2, 1, 3, 4] rfl)
        · skip
          refine lv_aload_n hx hb dX3_lastsAheadOf_26 rfl (lv_at hl 3 rfl) ?_
          refine e_getf hx hb hts inX3 hown hK hP 0 5 hc.1.1 (by decide) rfl rfl 2 (by decide) aw_259 (fun _ h => h) rfl dX3_lastsAheadOf_27 ?_
          refine lv_iload hx hb dX3_lastsAheadOf_30 (lv_at hl 0 rfl) ?_
          refine e_iald hx hb hK hP 3 64 hc.1.2.2.2.1 i rfl (by omega) (by decide) dX3_lastsAheadOf_32 ?_
          refine lv_istore (lv' := [(4, .int (v 3 i)), (5, .int (nI i)), (2, .long x2), (0, .ref (ad 0)), (1, .int (nI c0))]) hx hb dX3_lastsAheadOf_33 hl (by decide) rfl (fun ls hl => ?_)
          refine lv_lload_n hx hb dX3_lastsAheadOf_35 rfl (lv_at hl 2 rfl) ?_
          refine lv_iload hx hb dX3_lastsAheadOf_36 (lv_at hl 0 rfl) ?_
          refine lv_i2l hx hb dX3_lastsAheadOf_38 rfl ?_
          refine lv_ladd hx hb dX3_lastsAheadOf_39 ?_
          refine lv_lstore_n (lv' := [(2, .long (x2 + (Int32.toInt64 (v 3 i)))), (4, .int (v 3 i)), (5, .int (nI i)), (0, .ref (ad 0)), (1, .int (nI c0))]) hx hb dX3_lastsAheadOf_40 rfl hl (by decide) rfl (fun ls hl => ?_)
          refine lv_iinc (v := (nI (i + 1))) (lv' := [(5, .int (nI (i + 1))), (2, .long (x2 + (Int32.toInt64 (v 3 i)))), (4, .int (v 3 i)), (0, .ref (ad 0)), (1, .int (nI c0))]) hx hb dX3_lastsAheadOf_41 hl (k := 2) rfl (nI_add i 1) (by decide) rfl (fun ls hl => ?_)
          refine lv_goto (tgt := 10) hx hb dX3_lastsAheadOf_44 (by decide) ?_
          exact ih10 (i + 1) (x2 + (Int32.toInt64 (v 3 i))) (v 3 i) (by omega) (by omega) (by rw [ex2]; show _ = _ + (cUp v (i + 1)).toInt64; rw [show cUp v (i + 1) = (v 3 i) from (cUp_n c_2)]) ((cUp_n c_2).symm)  ls (lv_sub hl [0, 2, 1, 3, 4] rfl)
  exact L10 _ 0 0 500 (Nat.lt_succ_self _) (Nat.zero_le _) (rfl) (rfl)  ls (lv_sub hl [0, 1, 2, 3, 4] rfl)

set_option maxRecDepth 100000 in
set_option maxHeartbeats 4000000 in
theorem c_X3_pointsFor {l : Launch} {X : eD} {z0 : Nat} {ad kd sp : Nat → Nat} {v : eV} (hc : cK kd sp) (d a b : Nat) (hd : d < sp 0) (ha : a < 64) (hb9 : b < 64) : ePu l yX3_pointsFor cX3_pointsFor 5 (some .int) 7 [.ref (ad 0), .int (nI d), .int (nI a), .int (nI b)] (e_W X z0 ad kd sp v) (some (.int (cPts v (sp 1) d a b))) := by
  refine e_pureI (by decide +kernel) (Nat.le_of_ble_eq_true rfl) rfl ?_
  intro p e s m args below meth c hx hb hml hown hts hW Q hret ls hl
  obtain ⟨hz, hP, hI, hK⟩ := hW
  have hl : lv_has ls 5 [(0, .ref (ad 0)), (1, .int (nI d)), (2, .int (nI a)), (3, .int (nI b))] := hl
  have hc0 := hc.2.2.2.2.2
  have hs8 := hc0.1
  have hs12 := hc0.2.1
  have hq2 := hc0.2.2.1
  have hq3 := hc0.2.2.2.1
  have hq4 := hc0.2.2.2.2.1
  have hq5 := hc0.2.2.2.2.2.1
  have hq6 := hc0.2.2.2.2.2.2.1
  have hq7 := hc0.2.2.2.2.2.2.2
  refine lv_aload_n hx hb dX3_pointsFor_0 rfl (lv_at hl 0 rfl) ?_
  refine e_getf hx hb hts inX3 hown hK hP 0 5 hc.1.1 (by decide) rfl rfl 0 (by decide) aw_194 (fun _ h => h) rfl dX3_pointsFor_1 ?_
  refine lv_iload_n hx hb dX3_pointsFor_4 rfl (lv_at hl 1 rfl) ?_
  refine e_cV (As := [.int (nI d)]) (rest := []) hx hb hml hown hts 1 (c_Jx4a65c_get_915e3_1 (l := l) hc d (by omega)) cw_RX3_85 (by decide) (by decide) hz hP hI hK hc.1.2.1 (by decide) rfl rfl rfl hl.1 rfl (Nat.le_of_ble_eq_true rfl) ⟨Nat.zero_le _, Nat.zero_le _⟩ dX3_pointsFor_5 ?_
  refine e_cast hx hb hts hown hK hP (20 + 7 * d) 1 (((hc.2.2.2.1 d (by omega))).1) (by decide) rfl rfl aw_200 dX3_pointsFor_8 ?_
  refine lv_astore (lv' := [(4, .ref (ad (20 + 7 * d))), (0, .ref (ad 0)), (1, .int (nI d)), (2, .int (nI a)), (3, .int (nI b))]) hx hb dX3_pointsFor_11 hl (by decide) rfl (fun ls hl => ?_)
  refine lv_aload hx hb dX3_pointsFor_13 (lv_at hl 0 rfl) ?_
  refine e_getf hx hb hts inX0 hown hK hP (20 + 7 * d) 1 (((hc.2.2.2.1 d (by omega))).1) (by decide) rfl rfl 0 (by decide) aw_207 (fun _ h => h) rfl dX3_pointsFor_15 ?_
  refine lv_iload_n hx hb dX3_pointsFor_18 rfl (lv_at hl 3 rfl) ?_
  refine lv_iload_n hx hb dX3_pointsFor_19 rfl (lv_at hl 4 rfl) ?_
  refine e_cV (As := [.int (nI a), .int (nI b)]) (rest := []) hx hb hml hown hts ((20 + 7 * d) + 1) (c_X2_wayIn (l := l) ((20 + 7 * d) + 1) (((hc.2.2.2.1 d (by omega))).2.1) a b (by omega) (by omega)) cw_RX3_270 (by decide) (by decide) hz hP hI hK ((((hc.2.2.2.1 d (by omega))).2.1).1) (by decide) rfl rfl rfl hl.1 rfl (Nat.le_of_ble_eq_true rfl) ⟨Nat.zero_le _, Nat.zero_le _⟩ dX3_pointsFor_20 ?_
  refine lv_aload hx hb dX3_pointsFor_23 (lv_at hl 0 rfl) ?_
  refine e_getf hx hb hts inX0 hown hK hP (20 + 7 * d) 1 (((hc.2.2.2.1 d (by omega))).1) (by decide) rfl rfl 1 (by decide) aw_209 (fun _ h => h) rfl dX3_pointsFor_25 ?_
  refine lv_iload_n hx hb dX3_pointsFor_28 rfl (lv_at hl 3 rfl) ?_
  refine lv_iload_n hx hb dX3_pointsFor_29 rfl (lv_at hl 4 rfl) ?_
  refine e_cV (As := [.int (nI a), .int (nI b)]) (rest := [.int (cWayIn v ((20 + 7 * d) + 1) a (b + 1 - a))]) hx hb hml hown hts ((20 + 7 * d) + 4) (c_X2_wayIn (l := l) ((20 + 7 * d) + 4) (((hc.2.2.2.1 d (by omega))).2.2) a b (by omega) (by omega)) cw_RX3_270 (by decide) (by decide) hz hP hI hK ((((hc.2.2.2.1 d (by omega))).2.2).1) (by decide) rfl rfl rfl hl.1 rfl (Nat.le_of_ble_eq_true rfl) ⟨Nat.zero_le _, Nat.zero_le _⟩ dX3_pointsFor_30 ?_
  refine lv_iadd hx hb dX3_pointsFor_33 ?_
  refine lv_iconst (v := 5) hx hb dX3_pointsFor_34 (by decide) ?_
  refine lv_aload_n hx hb dX3_pointsFor_35 rfl (lv_at hl 1 rfl) ?_
  refine lv_iload_n hx hb dX3_pointsFor_36 rfl (lv_at hl 2 rfl) ?_
  refine lv_iload_n hx hb dX3_pointsFor_37 rfl (lv_at hl 3 rfl) ?_
  refine lv_iload_n hx hb dX3_pointsFor_38 rfl (lv_at hl 4 rfl) ?_
  refine e_cV (As := [.int (nI d), .int (nI a), .int (nI b)]) (rest := [.int 5, .int ((cWayIn v ((20 + 7 * d) + 1) a (b + 1 - a)) + (cWayIn v ((20 + 7 * d) + 4) a (b + 1 - a)))]) hx hb hml hown hts 0 (c_X3_liftsWith (l := l) hc (nI d) (nI a) (nI b)) cw_RX3_254 (by decide) (by decide) hz hP hI hK hc.1.1 (by decide) rfl rfl rfl hl.1 rfl (Nat.le_of_ble_eq_true rfl) ⟨Nat.zero_le _, Nat.zero_le _⟩ dX3_pointsFor_39 ?_
  refine lv_imul hx hb dX3_pointsFor_42 ?_
  refine lv_iadd hx hb dX3_pointsFor_43 ?_
  exact e_nrm (show (((cWayIn v ((20 + 7 * d) + 1) a (b + 1 - a)) + (cWayIn v ((20 + 7 * d) + 4) a (b + 1 - a))) + (5 * (cLiftsW v (nI d) (nI a) (nI b) (sp 1)))) = cPts v (sp 1) d a b from rfl) (hret _ _ dX3_pointsFor_44)

set_option maxRecDepth 100000 in
set_option maxHeartbeats 4000000 in
theorem c_X3_partsIn {l : Launch} {X : eD} {z0 : Nat} {ad kd sp : Nat → Nat} {v : eV} (hc : cK kd sp) (hcv : cI sp v) (a b : Nat) (ha : a < 64) (hb9 : b < 64) : ePu l yX3_partsIn cX3_partsIn 5 (some .int) 8 [.ref (ad 0), .int (nI a), .int (nI b)] (e_W X z0 ad kd sp v) (some (.int (cParts v (sp 1) a b (sp 0)))) := by
  refine e_pureI (by decide +kernel) (Nat.le_of_ble_eq_true rfl) rfl ?_
  intro p e s m args below meth c hx hb hml hown hts hW Q hret ls hl
  obtain ⟨hz, hP, hI, hK⟩ := hW
  have hl : lv_has ls 5 [(0, .ref (ad 0)), (1, .int (nI a)), (2, .int (nI b))] := hl
  have hc0 := hc.2.2.2.2.2
  have hs8 := hc0.1
  have hs12 := hc0.2.1
  have hq2 := hc0.2.2.1
  have hq3 := hc0.2.2.2.1
  have hq4 := hc0.2.2.2.2.1
  have hq5 := hc0.2.2.2.2.2.1
  have hq6 := hc0.2.2.2.2.2.2.1
  have hq7 := hc0.2.2.2.2.2.2.2
  refine lv_iconst (v := 0) hx hb dX3_partsIn_0 (by decide) ?_
  refine lv_istore_n (lv' := [(3, .int 0), (0, .ref (ad 0)), (1, .int (nI a)), (2, .int (nI b))]) hx hb dX3_partsIn_1 rfl hl (by decide) rfl (fun ls hl => ?_)
  refine lv_iconst (v := 0) hx hb dX3_partsIn_2 (by decide) ?_
  refine lv_istore (lv' := [(4, .int 0), (3, .int 0), (0, .ref (ad 0)), (1, .int (nI a)), (2, .int (nI b))]) hx hb dX3_partsIn_3 hl (by decide) rfl (fun ls hl => ?_)
  have L5 : ∀ (k5 : Nat) (i : Nat) (x3 : Int32), sp 0 - i < k5 → (i ≤ sp 0) → (x3 = cParts v (sp 1) a b i) →  ∀ ls : Array Slot, lv_has ls 5 [(4, .int (nI i)), (3, .int x3), (0, .ref (ad 0)), (1, .int (nI a)), (2, .int (nI b))] → W p l e (e_rm 8 0 0) s m args below meth c s.heap [] 0 0 Q (F0 m 5 ls []) := by
    intro k5
    induction k5 with
    | zero => intro i x3 hk; exact absurd hk (Nat.not_lt_zero _)
    | succ k5 ih5 =>
      intro i x3 hk5 hi ex3 ls hl
      refine lv_iload hx hb dX3_partsIn_5 (lv_at hl 0 rfl) ?_
      refine lv_aload_n hx hb dX3_partsIn_7 rfl (lv_at hl 2 rfl) ?_
      refine e_getf hx hb hts inX3 hown hK hP 0 5 hc.1.1 (by decide) rfl rfl 0 (by decide) aw_194 (fun _ h => h) rfl dX3_partsIn_8 ?_
      refine e_cV (As := []) (rest := [.int (nI i)]) hx hb hml hown hts 1 (c_Jx4a65c_size_8abf5_1 (l := l) hc) cw_RX3_46 (by decide) (by decide) hz hP hI hK hc.1.2.1 (by decide) rfl rfl rfl hl.1 rfl (Nat.le_of_ble_eq_true rfl) ⟨Nat.zero_le _, Nat.zero_le _⟩ dX3_partsIn_11 ?_
      refine lv_icmp_ge (tgt := 50) hx hb dX3_partsIn_14 (by decide) (fun c_1 => ?_) (fun c_1 => ?_)
      · have nc_1 : (sp 0) ≤ i := (nI_leI (a := (sp 0)) (b := i) (by omega) (by omega)).mp c_1
        refine lv_iload_n hx hb dX3_partsIn_50 rfl (lv_at hl 1 rfl) ?_
        exact e_nrm (show x3 = cParts v (sp 1) a b (sp 0) from by rw [ex3, show i = sp 0 by omega]) (hret _ _ dX3_partsIn_51)
      · have nc_1 : ¬ (sp 0) ≤ i := fun h => c_1 ((nI_leI (a := (sp 0)) (b := i) (by omega) (by omega)).mpr h)
        refine lv_aload_n hx hb dX3_partsIn_17 rfl (lv_at hl 2 rfl) ?_
        refine lv_iload hx hb dX3_partsIn_18 (lv_at hl 0 rfl) ?_
        refine e_cV (As := [.int (nI i)]) (rest := []) hx hb hml hown hts 0 (c_X3_isOut (l := l) hc hcv i (by omega)) cw_RX3_126 (by decide) (by decide) hz hP hI hK hc.1.1 (by decide) rfl rfl rfl hl.1 rfl (Nat.le_of_ble_eq_true rfl) ⟨Nat.zero_le _, Nat.zero_le _⟩ dX3_partsIn_20 ?_
        refine lv_if_ne (tgt := 44) hx hb dX3_partsIn_23 (by decide) (fun c_2 => ?_) (fun c_2 => ?_)
        · have nc_2 : (cOut v i) = true := bI_n0.mp c_2
          refine lv_iinc (v := (nI (i + 1))) (lv' := [(4, .int (nI (i + 1))), (3, .int x3), (0, .ref (ad 0)), (1, .int (nI a)), (2, .int (nI b))]) hx hb dX3_partsIn_44 hl (k := 0) rfl (nI_add i 1) (by decide) rfl (fun ls hl => ?_)
          refine lv_goto (tgt := 5) hx hb dX3_partsIn_47 (by decide) ?_
          exact ih5 (i + 1) x3 (by omega) (by omega) (by rw [ex3]; exact (cParts_f (by simp [cPart, nc_1, nc_2])).symm)  ls (lv_sub hl [0, 1, 2, 3, 4] rfl)
        · have nc_2 : (cOut v i) = false := bI_0.mp c_2
          refine lv_aload_n hx hb dX3_partsIn_26 rfl (lv_at hl 2 rfl) ?_
          refine lv_iload hx hb dX3_partsIn_27 (lv_at hl 0 rfl) ?_
          refine lv_iload_n hx hb dX3_partsIn_29 rfl (lv_at hl 3 rfl) ?_
          refine lv_iload_n hx hb dX3_partsIn_30 rfl (lv_at hl 4 rfl) ?_
          refine e_cV (As := [.int (nI i), .int (nI a), .int (nI b)]) (rest := []) hx hb hml hown hts 0 (c_X3_pointsFor (l := l) hc i a b (by omega) (by omega) (by omega)) cw_RX3_267 (by decide) (by decide) hz hP hI hK hc.1.1 (by decide) rfl rfl rfl hl.1 rfl (Nat.le_of_ble_eq_true rfl) ⟨Nat.zero_le _, Nat.zero_le _⟩ dX3_partsIn_31 ?_
          refine lv_if_le (tgt := 44) hx hb dX3_partsIn_34 (by decide) (fun c_3 => ?_) (fun c_3 => ?_)
          · have nc_3 : ¬ 0 < (cPts v (sp 1) i a b) := Int32.not_lt.mpr c_3
            refine lv_iinc (v := (nI (i + 1))) (lv' := [(4, .int (nI (i + 1))), (3, .int x3), (0, .ref (ad 0)), (1, .int (nI a)), (2, .int (nI b))]) hx hb dX3_partsIn_44 hl (k := 0) rfl (nI_add i 1) (by decide) rfl (fun ls hl => ?_)
            refine lv_goto (tgt := 5) hx hb dX3_partsIn_47 (by decide) ?_
            exact ih5 (i + 1) x3 (by omega) (by omega) (by rw [ex3]; exact (cParts_f (by simp [cPart, nc_1, nc_2, nc_3])).symm)  ls (lv_sub hl [0, 1, 2, 3, 4] rfl)
          · have nc_3 : 0 < (cPts v (sp 1) i a b) := Int32.not_le.mp c_3
            refine lv_iload_n hx hb dX3_partsIn_37 rfl (lv_at hl 1 rfl) ?_
            refine lv_iconst (v := 1) hx hb dX3_partsIn_38 (by decide) ?_
            refine lv_iload hx hb dX3_partsIn_39 (lv_at hl 0 rfl) ?_
            refine lv_ishl hx hb dX3_partsIn_41 ?_
            refine lv_ior hx hb dX3_partsIn_42 ?_
            refine lv_istore_n (lv' := [(3, .int (x3 ||| (1 <<< ((nI i) &&& 31)))), (4, .int (nI i)), (0, .ref (ad 0)), (1, .int (nI a)), (2, .int (nI b))]) hx hb dX3_partsIn_43 rfl hl (by decide) rfl (fun ls hl => ?_)
            refine lv_iinc (v := (nI (i + 1))) (lv' := [(4, .int (nI (i + 1))), (3, .int (x3 ||| (1 <<< ((nI i) &&& 31)))), (0, .ref (ad 0)), (1, .int (nI a)), (2, .int (nI b))]) hx hb dX3_partsIn_44 hl (k := 1) rfl (nI_add i 1) (by decide) rfl (fun ls hl => ?_)
            refine lv_goto (tgt := 5) hx hb dX3_partsIn_47 (by decide) ?_
            exact ih5 (i + 1) (x3 ||| (1 <<< ((nI i) &&& 31))) (by omega) (by omega) (by rw [ex3]; exact (cParts_t (by simp [cPart, nc_1, nc_2, nc_3])).symm)  ls (lv_sub hl [0, 1, 2, 3, 4] rfl)
  exact L5 _ 0 0 (Nat.lt_succ_self _) (Nat.zero_le _) (rfl)  ls (lv_sub hl [0, 1, 2, 3, 4] rfl)

set_option maxRecDepth 100000 in
set_option maxHeartbeats 4000000 in
theorem c_X3_isAnyBusy {l : Launch} {X : eD} {z0 : Nat} {ad kd sp : Nat → Nat} {v : eV} (hc : cK kd sp) (x : Int32) (h : Nat) (hh : 8 ≤ h) (hh2 : h ≤ 20) : ePu l yX3_isAnyBusy cX3_isAnyBusy 5 (some .boolean) 0 [.ref (ad 0), .int x, .int (nI h)] (e_W X z0 ad kd sp v) (some (.int (bI (cBusy v x h 3)))) := by
  refine e_pureI (by decide +kernel) (Nat.le_of_ble_eq_true rfl) (bI_nar _) ?_
  intro p e s m args below meth c hx hb hml hown hts hW Q hret ls hl
  obtain ⟨hz, hP, hI, hK⟩ := hW
  have hl : lv_has ls 5 [(0, .ref (ad 0)), (1, .int x), (2, .int (nI h))] := hl
  refine lv_iconst (v := 0) hx hb dX3_isAnyBusy_0 (by decide) ?_
  refine lv_istore_n (lv' := [(3, .int 0), (0, .ref (ad 0)), (1, .int x), (2, .int (nI h))]) hx hb dX3_isAnyBusy_1 rfl hl (by decide) rfl (fun ls hl => ?_)
  have L2 : ∀ (k2 : Nat) (i : Nat), 3 - i < k2 → (i ≤ 3) → (cBusy v x h i = false) →  ∀ ls : Array Slot, lv_has ls 5 [(3, .int (nI i)), (0, .ref (ad 0)), (1, .int x), (2, .int (nI h))] → W p l e (e_rm 0 0 0) s m args below meth c s.heap [] 0 0 Q (F0 m 2 ls []) := by
    intro k2
    induction k2 with
    | zero => intro i hk; exact absurd hk (Nat.not_lt_zero _)
    | succ k2 ih2 =>
      intro i hk2 hi ef ls hl
      refine lv_iload_n hx hb dX3_isAnyBusy_2 rfl (lv_at hl 0 rfl) ?_
      refine lv_iconst (v := 3) hx hb dX3_isAnyBusy_3 (by decide) ?_
      refine lv_icmp_ge (tgt := 41) hx hb dX3_isAnyBusy_4 (by decide) (fun c_1 => ?_) (fun c_1 => ?_)
      · have nc_1 : 3 ≤ i := (nI_leI (a := 3) (b := i) (by omega) (by omega)).mp c_1
        refine lv_iconst (v := 0) hx hb dX3_isAnyBusy_41 (by decide) ?_
        exact e_nrm (show 0 = bI (cBusy v x h 3) from by rw [show 3 = i by omega, ef]; rfl) (hret _ _ dX3_isAnyBusy_42)
      · have nc_1 : ¬ 3 ≤ i := fun h => c_1 ((nI_leI (a := 3) (b := i) (by omega) (by omega)).mpr h)
        refine lv_aload_n hx hb dX3_isAnyBusy_7 rfl (lv_at hl 1 rfl) ?_
        refine e_getf hx hb hts inX3 hown hK hP 0 5 hc.1.1 (by decide) rfl rfl 3 (by decide) aw_270 (fun _ h => h) rfl dX3_isAnyBusy_8 ?_
        refine lv_iload_n hx hb dX3_isAnyBusy_11 rfl (lv_at hl 0 rfl) ?_
        refine e_aald hx hb hK hP 4 10 hc.1.2.2.2.2.1 (by decide) rfl 2 rfl (Or.inr rfl) i rfl (by omega) (by omega) (if_pos (by omega)) dX3_isAnyBusy_12 ?_
        refine lv_iload_n hx hb dX3_isAnyBusy_13 rfl (lv_at hl 3 rfl) ?_
        refine lv_bipush (v := 8) hx hb dX3_isAnyBusy_14 (by decide) ?_
        refine lv_isub hx hb dX3_isAnyBusy_16 ?_
        refine e_nrm (y := (nI (h - 8))) (pk_sub (a := h) (b := 8) (by omega)) ?_
        refine e_iald hx hb hK hP (5 + i) 13 (cK_rows hc (by omega : i < 3)) (h - 8) rfl (by omega) (by decide) dX3_isAnyBusy_17 ?_
        refine lv_istore (lv' := [(4, .int (v (5 + i) (h - 8))), (3, .int (nI i)), (0, .ref (ad 0)), (1, .int x), (2, .int (nI h))]) hx hb dX3_isAnyBusy_18 hl (by decide) rfl (fun ls hl => ?_)
        refine lv_iload hx hb dX3_isAnyBusy_20 (lv_at hl 0 rfl) ?_
        refine lv_iconst (v := (-1)) hx hb dX3_isAnyBusy_22 (by decide) ?_
        refine lv_icmp_eq (tgt := 35) hx hb dX3_isAnyBusy_23 (by decide) (fun c_2 => ?_) (fun c_2 => ?_)
        · skip
          refine lv_iinc (v := (nI (i + 1))) (lv' := [(3, .int (nI (i + 1))), (4, .int (v (5 + i) (h - 8))), (0, .ref (ad 0)), (1, .int x), (2, .int (nI h))]) hx hb dX3_isAnyBusy_35 hl (k := 1) rfl (nI_add i 1) (by decide) rfl (fun ls hl => ?_)
          refine lv_goto (tgt := 2) hx hb dX3_isAnyBusy_38 (by decide) ?_
          exact ih2 (i + 1) (by omega) (by omega) (anyN_s ef (by simp [nc_1, eq_true c_2]))  ls (lv_sub hl [0, 2, 3, 4] rfl)
        · skip
          refine lv_iload hx hb dX3_isAnyBusy_26 (lv_at hl 0 rfl) ?_
          refine lv_iload_n hx hb dX3_isAnyBusy_28 rfl (lv_at hl 3 rfl) ?_
          refine lv_iand hx hb dX3_isAnyBusy_29 ?_
          refine lv_if_eq (tgt := 35) hx hb dX3_isAnyBusy_30 (by decide) (fun c_3 => ?_) (fun c_3 => ?_)
          · skip
            refine lv_iinc (v := (nI (i + 1))) (lv' := [(3, .int (nI (i + 1))), (4, .int (v (5 + i) (h - 8))), (0, .ref (ad 0)), (1, .int x), (2, .int (nI h))]) hx hb dX3_isAnyBusy_35 hl (k := 1) rfl (nI_add i 1) (by decide) rfl (fun ls hl => ?_)
            refine lv_goto (tgt := 2) hx hb dX3_isAnyBusy_38 (by decide) ?_
            exact ih2 (i + 1) (by omega) (by omega) (anyN_s ef (by simp [nc_1, eq_false c_2, c_3]))  ls (lv_sub hl [0, 2, 3, 4] rfl)
          · skip
            refine lv_iconst (v := 1) hx hb dX3_isAnyBusy_33 (by decide) ?_
            exact e_nrm (show 1 = bI (cBusy v x h 3) from by rw [show cBusy v x h 3 = true from anyN_t (i := i) (by simp [nc_1, eq_false c_2, c_3]) (by omega)]; rfl) (hret _ _ dX3_isAnyBusy_34)
  exact L2 _ 0 (Nat.lt_succ_self _) (Nat.zero_le _) (rfl)  ls (lv_sub hl [0, 1, 2, 3] rfl)

set_option maxRecDepth 100000 in
set_option maxHeartbeats 4000000 in
theorem c_X3_canKneesBear {l : Launch} {X : eD} {z0 : Nat} {ad kd sp : Nat → Nat} {v : eV} (hc : cK kd sp) (x : Int32) (a b : Nat) (ha : a < 64) (hb9 : b < 64) : ePu l yX3_canKneesBear cX3_canKneesBear 5 (some .boolean) 8 [.ref (ad 0), .int x, .int (nI a), .int (nI b)] (e_W X z0 ad kd sp v) (some (.int (bI (!cTired v (sp 1) x a b (sp 0))))) := by
  refine e_pureI (by decide +kernel) (Nat.le_of_ble_eq_true rfl) (bI_nar _) ?_
  intro p e s m args below meth c hx hb hml hown hts hW Q hret ls hl
  obtain ⟨hz, hP, hI, hK⟩ := hW
  have hl : lv_has ls 5 [(0, .ref (ad 0)), (1, .int x), (2, .int (nI a)), (3, .int (nI b))] := hl
  have hc0 := hc.2.2.2.2.2
  have hs8 := hc0.1
  have hs12 := hc0.2.1
  have hq2 := hc0.2.2.1
  have hq3 := hc0.2.2.2.1
  have hq4 := hc0.2.2.2.2.1
  have hq5 := hc0.2.2.2.2.2.1
  have hq6 := hc0.2.2.2.2.2.2.1
  have hq7 := hc0.2.2.2.2.2.2.2
  refine lv_iconst (v := 0) hx hb dX3_canKneesBear_0 (by decide) ?_
  refine lv_istore (lv' := [(4, .int 0), (0, .ref (ad 0)), (1, .int x), (2, .int (nI a)), (3, .int (nI b))]) hx hb dX3_canKneesBear_1 hl (by decide) rfl (fun ls hl => ?_)
  have L3 : ∀ (k3 : Nat) (i : Nat), sp 0 - i < k3 → (i ≤ sp 0) → (cTired v (sp 1) x a b i = false) →  ∀ ls : Array Slot, lv_has ls 5 [(4, .int (nI i)), (0, .ref (ad 0)), (1, .int x), (2, .int (nI a)), (3, .int (nI b))] → W p l e (e_rm 8 0 0) s m args below meth c s.heap [] 0 0 Q (F0 m 3 ls []) := by
    intro k3
    induction k3 with
    | zero => intro i hk; exact absurd hk (Nat.not_lt_zero _)
    | succ k3 ih3 =>
      intro i hk3 hi ef ls hl
      refine lv_iload hx hb dX3_canKneesBear_3 (lv_at hl 0 rfl) ?_
      refine lv_aload_n hx hb dX3_canKneesBear_5 rfl (lv_at hl 1 rfl) ?_
      refine e_getf hx hb hts inX3 hown hK hP 0 5 hc.1.1 (by decide) rfl rfl 0 (by decide) aw_194 (fun _ h => h) rfl dX3_canKneesBear_6 ?_
      refine e_cV (As := []) (rest := [.int (nI i)]) hx hb hml hown hts 1 (c_Jx4a65c_size_8abf5_1 (l := l) hc) cw_RX3_46 (by decide) (by decide) hz hP hI hK hc.1.2.1 (by decide) rfl rfl rfl hl.1 rfl (Nat.le_of_ble_eq_true rfl) ⟨Nat.zero_le _, Nat.zero_le _⟩ dX3_canKneesBear_9 ?_
      refine lv_icmp_ge (tgt := 61) hx hb dX3_canKneesBear_12 (by decide) (fun c_1 => ?_) (fun c_1 => ?_)
      · have nc_1 : (sp 0) ≤ i := (nI_leI (a := (sp 0)) (b := i) (by omega) (by omega)).mp c_1
        refine lv_iconst (v := 1) hx hb dX3_canKneesBear_61 (by decide) ?_
        exact e_nrm (show 1 = bI (!cTired v (sp 1) x a b (sp 0)) from by rw [show sp 0 = i by omega, ef]; rfl) (hret _ _ dX3_canKneesBear_62)
      · have nc_1 : ¬ (sp 0) ≤ i := fun h => c_1 ((nI_leI (a := (sp 0)) (b := i) (by omega) (by omega)).mpr h)
        refine lv_iload_n hx hb dX3_canKneesBear_15 rfl (lv_at hl 2 rfl) ?_
        refine lv_iload hx hb dX3_canKneesBear_16 (lv_at hl 0 rfl) ?_
        refine e_cS (As := [.int x, .int (nI i)]) (rest := []) hx hb hml hown hts (c_X3_takesPart (l := l) x i) cw_RX3_273 (by decide) (by decide) hz hP hI hK rfl hl.1 rfl (Nat.le_of_ble_eq_true rfl) ⟨Nat.zero_le _, Nat.zero_le _⟩ dX3_canKneesBear_18 ?_
        refine lv_if_eq (tgt := 55) hx hb dX3_canKneesBear_21 (by decide) (fun c_2 => ?_) (fun c_2 => ?_)
        · have nc_2 : (cTakes x i) = false := bI_0.mp c_2
          refine lv_iinc (v := (nI (i + 1))) (lv' := [(4, .int (nI (i + 1))), (0, .ref (ad 0)), (1, .int x), (2, .int (nI a)), (3, .int (nI b))]) hx hb dX3_canKneesBear_55 hl (k := 0) rfl (nI_add i 1) (by decide) rfl (fun ls hl => ?_)
          refine lv_goto (tgt := 3) hx hb dX3_canKneesBear_58 (by decide) ?_
          exact ih3 (i + 1) (by omega) (by omega) (anyN_s ef (by simp [nc_1, nc_2]))  ls (lv_sub hl [0, 1, 2, 3, 4] rfl)
        · have nc_2 : (cTakes x i) = true := bI_n0.mp c_2
          refine lv_aload_n hx hb dX3_canKneesBear_24 rfl (lv_at hl 1 rfl) ?_
          refine e_getf hx hb hts inX3 hown hK hP 0 5 hc.1.1 (by decide) rfl rfl 0 (by decide) aw_194 (fun _ h => h) rfl dX3_canKneesBear_25 ?_
          refine lv_iload hx hb dX3_canKneesBear_28 (lv_at hl 0 rfl) ?_
          refine e_cV (As := [.int (nI i)]) (rest := []) hx hb hml hown hts 1 (c_Jx4a65c_get_915e3_1 (l := l) hc i (by omega)) cw_RX3_85 (by decide) (by decide) hz hP hI hK hc.1.2.1 (by decide) rfl rfl rfl hl.1 rfl (Nat.le_of_ble_eq_true rfl) ⟨Nat.zero_le _, Nat.zero_le _⟩ dX3_canKneesBear_30 ?_
          refine e_cast hx hb hts hown hK hP (20 + 7 * i) 1 (((hc.2.2.2.1 i (by omega))).1) (by decide) rfl rfl aw_200 dX3_canKneesBear_33 ?_
          refine e_getf hx hb hts inX0 hown hK hP (20 + 7 * i) 1 (((hc.2.2.2.1 i (by omega))).1) (by decide) rfl rfl 2 (by decide) aw_275 (fun _ h => h) rfl dX3_canKneesBear_36 ?_
          refine lv_aload_n hx hb dX3_canKneesBear_39 rfl (lv_at hl 1 rfl) ?_
          refine lv_iload hx hb dX3_canKneesBear_40 (lv_at hl 0 rfl) ?_
          refine lv_iload_n hx hb dX3_canKneesBear_42 rfl (lv_at hl 3 rfl) ?_
          refine lv_iload_n hx hb dX3_canKneesBear_43 rfl (lv_at hl 4 rfl) ?_
          refine e_cV (As := [.int (nI i), .int (nI a), .int (nI b)]) (rest := [.int (v (20 + 7 * i) 2)]) hx hb hml hown hts 0 (c_X3_pointsFor (l := l) hc i a b (by omega) (by omega) (by omega)) cw_RX3_267 (by decide) (by decide) hz hP hI hK hc.1.1 (by decide) rfl rfl rfl hl.1 rfl (Nat.le_of_ble_eq_true rfl) ⟨Nat.zero_le _, Nat.zero_le _⟩ dX3_canKneesBear_44 ?_
          refine lv_iadd hx hb dX3_canKneesBear_47 ?_
          refine lv_bipush (v := 60) hx hb dX3_canKneesBear_48 (by decide) ?_
          refine lv_icmp_le (tgt := 55) hx hb dX3_canKneesBear_50 (by decide) (fun c_3 => ?_) (fun c_3 => ?_)
          · have nc_3 : ¬ 60 < ((v (20 + 7 * i) 2) + (cPts v (sp 1) i a b)) := Int32.not_lt.mpr c_3
            refine lv_iinc (v := (nI (i + 1))) (lv' := [(4, .int (nI (i + 1))), (0, .ref (ad 0)), (1, .int x), (2, .int (nI a)), (3, .int (nI b))]) hx hb dX3_canKneesBear_55 hl (k := 0) rfl (nI_add i 1) (by decide) rfl (fun ls hl => ?_)
            refine lv_goto (tgt := 3) hx hb dX3_canKneesBear_58 (by decide) ?_
            exact ih3 (i + 1) (by omega) (by omega) (anyN_s ef (by simp [nc_1, nc_2, nc_3]))  ls (lv_sub hl [0, 1, 2, 3, 4] rfl)
          · have nc_3 : 60 < ((v (20 + 7 * i) 2) + (cPts v (sp 1) i a b)) := Int32.not_le.mp c_3
            refine lv_iconst (v := 0) hx hb dX3_canKneesBear_53 (by decide) ?_
            exact e_nrm (show 0 = bI (!cTired v (sp 1) x a b (sp 0)) from by rw [show cTired v (sp 1) x a b (sp 0) = true from anyN_t (i := i) (by simp [nc_1, nc_2, nc_3]) (by omega)]; rfl) (hret _ _ dX3_canKneesBear_54)
  exact L3 _ 0 (Nat.lt_succ_self _) (Nat.zero_le _) (rfl)  ls (lv_sub hl [0, 1, 2, 3, 4] rfl)

set_option maxRecDepth 100000 in
set_option maxHeartbeats 4000000 in
theorem c_X3_movesNeeded {l : Launch} {X : eD} {z0 : Nat} {ad kd sp : Nat → Nat} {v : eV} (hc : cK kd sp) (hcv : cI sp v) (l9 lv j c0 dl : Nat) (hl9 : l9 < sp 1) (hlv : lv < sp 0) (hj : j < sp 0) (hc9 : c0 < 64) (hdl : dl < sp 0) (ec : v (80 + l9) 0 = nI c0) (el : v (80 + l9) 1 = nI dl) : ePu l yX3_movesNeeded cX3_movesNeeded 5 (some .int) 7 [.ref (ad 0), .ref (ad (80 + l9)), .int (nI lv), .int (nI j)] (e_W X z0 ad kd sp v) (some (.int (cNeed v l9 lv j c0 dl (sp 1)))) := by
  refine e_pureI (by decide +kernel) (Nat.le_of_ble_eq_true rfl) rfl ?_
  intro p e s m args below meth c hx hb hml hown hts hW Q hret ls hl
  obtain ⟨hz, hP, hI, hK⟩ := hW
  have hl : lv_has ls 5 [(0, .ref (ad 0)), (1, .ref (ad (80 + l9))), (2, .int (nI lv)), (3, .int (nI j))] := hl
  have hc0 := hc.2.2.2.2.2
  have hs8 := hc0.1
  have hs12 := hc0.2.1
  have hq2 := hc0.2.2.1
  have hq3 := hc0.2.2.2.1
  have hq4 := hc0.2.2.2.2.1
  have hq5 := hc0.2.2.2.2.2.1
  have hq6 := hc0.2.2.2.2.2.2.1
  have hq7 := hc0.2.2.2.2.2.2.2
  refine lv_aload_n hx hb dX3_movesNeeded_0 rfl (lv_at hl 0 rfl) ?_
  refine lv_iload_n hx hb dX3_movesNeeded_1 rfl (lv_at hl 3 rfl) ?_
  refine e_cV (As := [.int (nI j)]) (rest := []) hx hb hml hown hts 0 (c_X3_isOut (l := l) hc hcv j (by omega)) cw_RX3_126 (by decide) (by decide) hz hP hI hK hc.1.1 (by decide) rfl rfl rfl hl.1 rfl (Nat.le_of_ble_eq_true rfl) ⟨Nat.zero_le _, Nat.zero_le _⟩ dX3_movesNeeded_2 ?_
  refine lv_if_ne (tgt := 24) hx hb dX3_movesNeeded_5 (by decide) (fun c_1 => ?_) (fun c_1 => ?_)
  · have nc_1 : (cOut v j) = true := bI_n0.mp c_1
    refine lv_iconst (v := 3) hx hb dX3_movesNeeded_24 (by decide) ?_
    exact e_nrm (show 3 = cNeed v l9 lv j c0 dl (sp 1) from (by first | (simp [cNeed, bI, nc_1]; done) | (exfalso; simp_all; done))) (hret _ _ dX3_movesNeeded_25)
  · have nc_1 : (cOut v j) = false := bI_0.mp c_1
    refine lv_aload_n hx hb dX3_movesNeeded_8 rfl (lv_at hl 0 rfl) ?_
    refine lv_iload_n hx hb dX3_movesNeeded_9 rfl (lv_at hl 3 rfl) ?_
    refine lv_aload_n hx hb dX3_movesNeeded_10 rfl (lv_at hl 1 rfl) ?_
    refine e_getf hx hb hts inX1 hown hK hP (80 + l9) 4 (hc.2.2.2.2.1 l9 hl9) (by decide) rfl rfl 0 (by decide) aw_225 (fun _ h => h) rfl dX3_movesNeeded_11 ?_
    refine lv_aload_n hx hb dX3_movesNeeded_14 rfl (lv_at hl 1 rfl) ?_
    refine e_getf hx hb hts inX1 hown hK hP (80 + l9) 4 (hc.2.2.2.2.1 l9 hl9) (by decide) rfl rfl 0 (by decide) aw_225 (fun _ h => h) rfl dX3_movesNeeded_15 ?_
    refine e_cV (As := [.int (nI j), .int (v (80 + l9) 0), .int (v (80 + l9) 0)]) (rest := []) hx hb hml hown hts 0 (c_X3_liftsWith (l := l) hc (nI j) (v (80 + l9) 0) (v (80 + l9) 0)) cw_RX3_254 (by decide) (by decide) hz hP hI hK hc.1.1 (by decide) rfl rfl rfl hl.1 rfl (Nat.le_of_ble_eq_true rfl) ⟨Nat.zero_le _, Nat.zero_le _⟩ dX3_movesNeeded_18 ?_
    refine lv_if_le (tgt := 26) hx hb dX3_movesNeeded_21 (by decide) (fun c_2 => ?_) (fun c_2 => ?_)
    · have nc_2 : ¬ 0 < (cLiftsW v (nI j) (v (80 + l9) 0) (v (80 + l9) 0) (sp 1)) := Int32.not_lt.mpr c_2
      refine lv_aload_n hx hb dX3_movesNeeded_26 rfl (lv_at hl 0 rfl) ?_
      refine lv_aload_n hx hb dX3_movesNeeded_27 rfl (lv_at hl 1 rfl) ?_
      refine lv_iload_n hx hb dX3_movesNeeded_28 rfl (lv_at hl 3 rfl) ?_
      refine e_cV (As := [.ref (ad (80 + l9)), .int (nI j)]) (rest := []) hx hb hml hown hts 0 (c_X3_isBesideLifted (l := l) hc hcv l9 j c0 dl (by omega) (by omega) (by omega) (by omega) ec el) cw_RX3_251 (by decide) (by decide) hz hP hI hK hc.1.1 (by decide) rfl rfl rfl hl.1 rfl (Nat.le_of_ble_eq_true rfl) ⟨Nat.zero_le _, Nat.zero_le _⟩ dX3_movesNeeded_29 ?_
      refine lv_if_eq (tgt := 37) hx hb dX3_movesNeeded_32 (by decide) (fun c_3 => ?_) (fun c_3 => ?_)
      · have nc_3 : (cBesL v j dl c0) = false := bI_0.mp c_3
        refine lv_aload_n hx hb dX3_movesNeeded_37 rfl (lv_at hl 0 rfl) ?_
        refine e_getf hx hb hts inX3 hown hK hP 0 5 hc.1.1 (by decide) rfl rfl 0 (by decide) aw_194 (fun _ h => h) rfl dX3_movesNeeded_38 ?_
        refine lv_iload_n hx hb dX3_movesNeeded_41 rfl (lv_at hl 3 rfl) ?_
        refine e_cV (As := [.int (nI j)]) (rest := []) hx hb hml hown hts 1 (c_Jx4a65c_get_915e3_1 (l := l) hc j (by omega)) cw_RX3_85 (by decide) (by decide) hz hP hI hK hc.1.2.1 (by decide) rfl rfl rfl hl.1 rfl (Nat.le_of_ble_eq_true rfl) ⟨Nat.zero_le _, Nat.zero_le _⟩ dX3_movesNeeded_42 ?_
        refine e_cast hx hb hts hown hK hP (20 + 7 * j) 1 (((hc.2.2.2.1 j (by omega))).1) (by decide) rfl rfl aw_200 dX3_movesNeeded_45 ?_
        refine lv_aload_n hx hb dX3_movesNeeded_48 rfl (lv_at hl 0 rfl) ?_
        refine e_getf hx hb hts inX3 hown hK hP 0 5 hc.1.1 (by decide) rfl rfl 0 (by decide) aw_194 (fun _ h => h) rfl dX3_movesNeeded_49 ?_
        refine lv_iload_n hx hb dX3_movesNeeded_52 rfl (lv_at hl 2 rfl) ?_
        refine e_cV (As := [.int (nI lv)]) (rest := [.ref (ad (20 + 7 * j))]) hx hb hml hown hts 1 (c_Jx4a65c_get_915e3_1 (l := l) hc lv (by omega)) cw_RX3_85 (by decide) (by decide) hz hP hI hK hc.1.2.1 (by decide) rfl rfl rfl hl.1 rfl (Nat.le_of_ble_eq_true rfl) ⟨Nat.zero_le _, Nat.zero_le _⟩ dX3_movesNeeded_53 ?_
        refine e_cast hx hb hts hown hK hP (20 + 7 * lv) 1 (((hc.2.2.2.1 lv (by omega))).1) (by decide) rfl rfl aw_200 dX3_movesNeeded_56 ?_
        refine lv_aload_n hx hb dX3_movesNeeded_59 rfl (lv_at hl 1 rfl) ?_
        refine e_getf hx hb hts inX1 hown hK hP (80 + l9) 4 (hc.2.2.2.2.1 l9 hl9) (by decide) rfl rfl 0 (by decide) aw_225 (fun _ h => h) rfl dX3_movesNeeded_60 ?_
        refine e_nrm (y := nI c0) ec ?_
        refine e_cV (As := [.ref (ad (20 + 7 * lv)), .int (nI c0)]) (rest := []) hx hb hml hown hts (20 + 7 * j) (c_X0_canVisit (l := l) (20 + 7 * j) (hc.2.2.2.1 j (by omega)) (20 + 7 * lv) (hc.2.2.2.1 lv (by omega)) c0 (by omega)) cw_RX3_287 (by decide) (by decide) hz hP hI hK (((hc.2.2.2.1 j (by omega))).1) (by decide) rfl rfl rfl hl.1 rfl (Nat.le_of_ble_eq_true rfl) ⟨Nat.zero_le _, Nat.zero_le _⟩ dX3_movesNeeded_63 ?_
        refine lv_istore (lv' := [(4, .int (bI (cCanD v (20 + 7 * j) (20 + 7 * lv) c0))), (0, .ref (ad 0)), (1, .ref (ad (80 + l9))), (2, .int (nI lv)), (3, .int (nI j))]) hx hb dX3_movesNeeded_66 hl (by decide) rfl (fun ls hl => ?_)
        refine lv_iload hx hb dX3_movesNeeded_68 (lv_at hl 0 rfl) ?_
        refine lv_if_eq (tgt := 77) hx hb dX3_movesNeeded_70 (by decide) (fun c_4 => ?_) (fun c_4 => ?_)
        · have nc_4 : (cCanD v (20 + 7 * j) (20 + 7 * lv) c0) = false := bI_0.mp c_4
          refine lv_iconst (v := 3) hx hb dX3_movesNeeded_77 (by decide) ?_
          exact e_nrm (show 3 = cNeed v l9 lv j c0 dl (sp 1) from (by first | (simp [cNeed, bI, nc_1, nc_2, nc_3, nc_4]; done) | (exfalso; simp_all; done))) (hret _ _ dX3_movesNeeded_78)
        · have nc_4 : (cCanD v (20 + 7 * j) (20 + 7 * lv) c0) = true := bI_n0.mp c_4
          refine lv_iconst (v := 2) hx hb dX3_movesNeeded_73 (by decide) ?_
          refine lv_goto (tgt := 78) hx hb dX3_movesNeeded_74 (by decide) ?_
          exact e_nrm (show 2 = cNeed v l9 lv j c0 dl (sp 1) from (by first | (simp [cNeed, bI, nc_1, nc_2, nc_3, nc_4]; done) | (exfalso; simp_all; done))) (hret _ _ dX3_movesNeeded_78)
      · have nc_3 : (cBesL v j dl c0) = true := bI_n0.mp c_3
        refine lv_iconst (v := 0) hx hb dX3_movesNeeded_35 (by decide) ?_
        exact e_nrm (show 0 = cNeed v l9 lv j c0 dl (sp 1) from (by first | (simp [cNeed, bI, nc_1, nc_2, nc_3]; done) | (exfalso; simp_all; done))) (hret _ _ dX3_movesNeeded_36)
    · have nc_2 : 0 < (cLiftsW v (nI j) (v (80 + l9) 0) (v (80 + l9) 0) (sp 1)) := Int32.not_le.mp c_2
      refine lv_iconst (v := 3) hx hb dX3_movesNeeded_24 (by decide) ?_
      exact e_nrm (show 3 = cNeed v l9 lv j c0 dl (sp 1) from (by first | (simp [cNeed, bI, nc_1, nc_2]; done) | (exfalso; simp_all; done))) (hret _ _ dX3_movesNeeded_25)

theorem aw_321 : Cond.methodLink RX3 70 yX3_needDancer ∈ AW := aw_of (List.mem_of_getElem? (i := 416) (by decide +kernel)) (by decide +kernel)
theorem aw_322 : Cond.instanceMethod yX3_needDancer ∈ AW := aw_of (List.mem_of_getElem? (i := 418) (by decide +kernel)) (by decide +kernel)
theorem aw_323 : Cond.selects RX3 yX3_needDancer yX3_needDancer ∈ AW := aw_of (List.mem_of_getElem? (i := 7) (by decide +kernel)) (by decide +kernel)
set_option maxRecDepth 100000 in
theorem aw_324 : Cond.code yX3_needDancer cX3_needDancer 2 none ∈ AW := aw_of (List.mem_of_getElem? (i := 419) rfl) (by decide +kernel)
theorem cw_RX3_70 : e_cwV RX3 70 RX3 yX3_needDancer cX3_needDancer 2 none 1 := ⟨aw_321, aw_322, aw_323, aw_162, aw_324, rfl, by decide +kernel, by decide +kernel, by decide +kernel⟩
theorem aw_326 : Cond.methodLink RX3 74 yX3_needCount ∈ AW := aw_of (List.mem_of_getElem? (i := 421) (by decide +kernel)) (by decide +kernel)
theorem aw_327 : Cond.static yX3_needCount ∈ AW := aw_of (List.mem_of_getElem? (i := 422) (by decide +kernel)) (by decide +kernel)
set_option maxRecDepth 100000 in
theorem aw_328 : Cond.code yX3_needCount cX3_needCount 1 none ∈ AW := aw_of (List.mem_of_getElem? (i := 423) rfl) (by decide +kernel)
theorem cw_RX3_74 : e_cwS RX3 74 yX3_needCount cX3_needCount 1 none 1 := ⟨aw_326, aw_327, aw_162, aw_328, by decide +kernel, by decide +kernel, by decide +kernel⟩
theorem aw_330 : Cond.methodLink RX3 110 yX0_track ∈ AW := aw_of (List.mem_of_getElem? (i := 460) (by decide +kernel)) (by decide +kernel)
theorem aw_331 : Cond.instanceMethod yX0_track ∈ AW := aw_of (List.mem_of_getElem? (i := 461) (by decide +kernel)) (by decide +kernel)
theorem aw_332 : Cond.selects RX0 yX0_track yX0_track ∈ AW := aw_of (List.mem_of_getElem? (i := 462) (by decide +kernel)) (by decide +kernel)
set_option maxRecDepth 100000 in
theorem aw_333 : Cond.code yX0_track cX0_track 2 (some (.object "Stepscript$Track")) ∈ AW := aw_of (List.mem_of_getElem? (i := 463) rfl) (by decide +kernel)
theorem cw_RX3_110 : e_cwV RX3 110 RX0 yX0_track cX0_track 2 (some (.object "Stepscript$Track")) 1 := ⟨aw_330, aw_331, aw_332, aw_175, aw_333, rfl, by decide +kernel, by decide +kernel, by decide +kernel⟩
theorem aw_335 : Cond.fieldLink RX3 114 "Stepscript$Track" "places" "[I" ∈ AW := aw_of (List.mem_of_getElem? (i := 327) (by decide +kernel)) (by decide +kernel)
theorem aw_336 : Cond.methodLink RX3 117 yX2_followedTo ∈ AW := aw_of (List.mem_of_getElem? (i := 471) (by decide +kernel)) (by decide +kernel)
theorem aw_337 : Cond.instanceMethod yX2_followedTo ∈ AW := aw_of (List.mem_of_getElem? (i := 472) (by decide +kernel)) (by decide +kernel)
theorem aw_338 : Cond.selects RX2 yX2_followedTo yX2_followedTo ∈ AW := aw_of (List.mem_of_getElem? (i := 473) (by decide +kernel)) (by decide +kernel)
set_option maxRecDepth 100000 in
theorem aw_339 : Cond.code yX2_followedTo cX2_followedTo 4 (some .int) ∈ AW := aw_of (List.mem_of_getElem? (i := 474) rfl) (by decide +kernel)
theorem cw_RX3_117 : e_cwV RX3 117 RX2 yX2_followedTo cX2_followedTo 4 (some .int) 1 := ⟨aw_336, aw_337, aw_338, aw_158, aw_339, rfl, by decide +kernel, by decide +kernel, by decide +kernel⟩
theorem aw_341 : Cond.methodLink RX3 121 yX3_clashesAt ∈ AW := aw_of (List.mem_of_getElem? (i := 131) (by decide +kernel)) (by decide +kernel)
theorem aw_342 : Cond.instanceMethod yX3_clashesAt ∈ AW := aw_of (List.mem_of_getElem? (i := 133) (by decide +kernel)) (by decide +kernel)
theorem aw_343 : Cond.selects RX3 yX3_clashesAt yX3_clashesAt ∈ AW := aw_of (List.mem_of_getElem? (i := 1) (by decide +kernel)) (by decide +kernel)
set_option maxRecDepth 100000 in
theorem aw_344 : Cond.code yX3_clashesAt cX3_clashesAt 7 (some .int) ∈ AW := aw_of (List.mem_of_getElem? (i := 134) rfl) (by decide +kernel)
theorem cw_RX3_121 : e_cwV RX3 121 RX3 yX3_clashesAt cX3_clashesAt 7 (some .int) 1 := ⟨aw_341, aw_342, aw_343, aw_162, aw_344, rfl, by decide +kernel, by decide +kernel, by decide +kernel⟩
theorem aw_346 : Cond.methodLink RX3 173 yX3_needRoom ∈ AW := aw_of (List.mem_of_getElem? (i := 612) (by decide +kernel)) (by decide +kernel)
theorem aw_347 : Cond.static yX3_needRoom ∈ AW := aw_of (List.mem_of_getElem? (i := 613) (by decide +kernel)) (by decide +kernel)
set_option maxRecDepth 100000 in
theorem aw_348 : Cond.code yX3_needRoom cX3_needRoom 1 none ∈ AW := aw_of (List.mem_of_getElem? (i := 614) rfl) (by decide +kernel)
theorem cw_RX3_173 : e_cwS RX3 173 yX3_needRoom cX3_needRoom 1 none 1 := ⟨aw_346, aw_347, aw_162, aw_348, by decide +kernel, by decide +kernel, by decide +kernel⟩
theorem aw_350 : Cond.methodLink RX3 176 yX3_needHour ∈ AW := aw_of (List.mem_of_getElem? (i := 616) (by decide +kernel)) (by decide +kernel)
theorem aw_351 : Cond.static yX3_needHour ∈ AW := aw_of (List.mem_of_getElem? (i := 617) (by decide +kernel)) (by decide +kernel)
set_option maxRecDepth 100000 in
theorem aw_352 : Cond.code yX3_needHour cX3_needHour 1 none ∈ AW := aw_of (List.mem_of_getElem? (i := 618) rfl) (by decide +kernel)
theorem cw_RX3_176 : e_cwS RX3 176 yX3_needHour cX3_needHour 1 none 1 := ⟨aw_350, aw_351, aw_162, aw_352, by decide +kernel, by decide +kernel, by decide +kernel⟩
theorem aw_354 : Cond.constant RX3 156 1000000000 ∈ AW := aw_of (List.mem_of_getElem? (i := 570) (by decide +kernel)) (by decide +kernel)
theorem aw_355 : Cond.methodLink RX3 159 yX3_lastOf ∈ AW := aw_of (List.mem_of_getElem? (i := 572) (by decide +kernel)) (by decide +kernel)
theorem aw_356 : Cond.instanceMethod yX3_lastOf ∈ AW := aw_of (List.mem_of_getElem? (i := 574) (by decide +kernel)) (by decide +kernel)
theorem aw_357 : Cond.selects RX3 yX3_lastOf yX3_lastOf ∈ AW := aw_of (List.mem_of_getElem? (i := 13) (by decide +kernel)) (by decide +kernel)
set_option maxRecDepth 100000 in
theorem aw_358 : Cond.code yX3_lastOf cX3_lastOf 3 (some .int) ∈ AW := aw_of (List.mem_of_getElem? (i := 575) rfl) (by decide +kernel)
theorem cw_RX3_159 : e_cwV RX3 159 RX3 yX3_lastOf cX3_lastOf 3 (some .int) 1 := ⟨aw_355, aw_356, aw_357, aw_162, aw_358, rfl, by decide +kernel, by decide +kernel, by decide +kernel⟩
theorem aw_360 : Cond.methodLink RX3 162 yX3_lastsAheadOf ∈ AW := aw_of (List.mem_of_getElem? (i := 597) (by decide +kernel)) (by decide +kernel)
theorem aw_361 : Cond.instanceMethod yX3_lastsAheadOf ∈ AW := aw_of (List.mem_of_getElem? (i := 599) (by decide +kernel)) (by decide +kernel)
theorem aw_362 : Cond.selects RX3 yX3_lastsAheadOf yX3_lastsAheadOf ∈ AW := aw_of (List.mem_of_getElem? (i := 14) (by decide +kernel)) (by decide +kernel)
set_option maxRecDepth 100000 in
theorem aw_363 : Cond.code yX3_lastsAheadOf cX3_lastsAheadOf 6 (some .long) ∈ AW := aw_of (List.mem_of_getElem? (i := 600) rfl) (by decide +kernel)
theorem cw_RX3_162 : e_cwV RX3 162 RX3 yX3_lastsAheadOf cX3_lastsAheadOf 6 (some .long) 1 := ⟨aw_360, aw_361, aw_362, aw_162, aw_363, rfl, by decide +kernel, by decide +kernel, by decide +kernel⟩
theorem aw_365 : Cond.constantLong RX3 166 2147483647 ∈ AW := aw_of (List.mem_of_getElem? (i := 601) (by decide +kernel)) (by decide +kernel)
set_option maxRecDepth 100000 in
set_option maxHeartbeats 4000000 in
theorem c_X3_needDancer {l : Launch} (hl9 : l.stackTraces = false) {X : eD} {z0 : Nat} {ad kd sp : Nat → Nat} {v : eV} (hc : cK kd sp) (x : Int32) : eTh l yX3_needDancer cX3_needDancer 2 none 6 1 6 [.ref (ad 0), .int x] X z0 ad kd sp v none v (cOkN (sp 0) x = true) (fun E => E = xIO ∧ cOkN (sp 0) x = false) := by
  refine e_thrV (by decide +kernel) (Nat.le_of_ble_eq_true rfl) ?_
  intro p e s m args below meth c hx hb hml hown hts hW hT hex hlocks Q hQ hret ls hl
  obtain ⟨hz, hP, hI, hK⟩ := hW
  have hl : lv_has ls 2 [(0, .ref (ad 0)), (1, .int x)] := hl
  have hS : va_S (e_A z0) s.heap s.heap [] := va_S.rf
  have hc0 := hc.2.2.2.2.2
  have hs8 := hc0.1
  have hs12 := hc0.2.1
  have hq2 := hc0.2.2.1
  have hq3 := hc0.2.2.2.1
  have hq4 := hc0.2.2.2.2.1
  have hq5 := hc0.2.2.2.2.2.1
  have hq6 := hc0.2.2.2.2.2.2.1
  have hq7 := hc0.2.2.2.2.2.2.2
  refine lv_iload_n hx hb dX3_needDancer_0 rfl (lv_at hl 1 rfl) ?_
  refine lv_if_lt (tgt := 15) hx hb dX3_needDancer_1 (by decide) (fun c_1 => ?_) (fun c_1 => ?_)
  · skip
    exact e_throw (text := "no such dancer") hQ hx hb hml hl9 hown hts hT hex hlocks hP hS tw_IO (by decide +kernel) (⟨rfl, by simp [cOkN, c_1]⟩) hl.1 (by decide) (Nat.le_of_ble_eq_true rfl) (by decide) (by decide) (by decide) (by decide) dX3_needDancer_15 dX3_needDancer_18 dX3_needDancer_19 dX3_needDancer_21 dX3_needDancer_24
  · skip
    refine lv_iload_n hx hb dX3_needDancer_4 rfl (lv_at hl 1 rfl) ?_
    refine lv_aload_n hx hb dX3_needDancer_5 rfl (lv_at hl 0 rfl) ?_
    refine e_getf hx hb hts inX3 hown hK hP 0 5 hc.1.1 (by decide) rfl rfl 0 (by decide) aw_194 (fun _ h => h) rfl dX3_needDancer_6 ?_
    refine e_cV (As := []) (rest := [.int x]) hx hb hml hown hts 1 (c_Jx4a65c_size_8abf5_1 (l := l) hc) cw_RX3_46 (by decide) (by decide) hz hP hI hK hc.1.2.1 (by decide) rfl rfl rfl hl.1 rfl (Nat.le_of_ble_eq_true rfl) ⟨by decide, by decide⟩ dX3_needDancer_9 ?_
    refine lv_icmp_lt (tgt := 25) hx hb dX3_needDancer_12 (by decide) (fun c_2 => ?_) (fun c_2 => ?_)
    · skip
      exact hret _ _ _ _ _ _ _ (show v = v from rfl) (by simp [cOkN, c_1, c_2]) (by decide) (by decide) hP hS dX3_needDancer_25
    · skip
      exact e_throw (text := "no such dancer") hQ hx hb hml hl9 hown hts hT hex hlocks hP hS tw_IO (by decide +kernel) (⟨rfl, by simp [cOkN, c_1, c_2]⟩) hl.1 (by decide) (Nat.le_of_ble_eq_true rfl) (by decide) (by decide) (by decide) (by decide) dX3_needDancer_15 dX3_needDancer_18 dX3_needDancer_19 dX3_needDancer_21 dX3_needDancer_24

set_option maxRecDepth 100000 in
set_option maxHeartbeats 4000000 in
theorem c_X3_needCount {l : Launch} (hl9 : l.stackTraces = false) {X : eD} {z0 : Nat} {ad kd sp : Nat → Nat} {v : eV} (x : Int32) : eTh l yX3_needCount cX3_needCount 1 none 6 1 6 [.int x] X z0 ad kd sp v none v (cOkC x = true) (fun E => E = xIO ∧ cOkC x = false) := by
  refine e_thrV (by decide +kernel) (Nat.le_of_ble_eq_true rfl) ?_
  intro p e s m args below meth c hx hb hml hown hts hW hT hex hlocks Q hQ hret ls hl
  obtain ⟨hz, hP, hI, hK⟩ := hW
  have hl : lv_has ls 1 [(0, .int x)] := hl
  have hS : va_S (e_A z0) s.heap s.heap [] := va_S.rf
  refine lv_iload_n hx hb dX3_needCount_0 rfl (lv_at hl 0 rfl) ?_
  refine lv_if_lt (tgt := 10) hx hb dX3_needCount_1 (by decide) (fun c_1 => ?_) (fun c_1 => ?_)
  · skip
    exact e_throw (text := "no such count") hQ hx hb hml hl9 hown hts hT hex hlocks hP hS tw_IO (by decide +kernel) (⟨rfl, by simp [cOkC, c_1]⟩) hl.1 (by decide) (Nat.le_of_ble_eq_true rfl) (by decide) (by decide) (by decide) (by decide) dX3_needCount_10 dX3_needCount_13 dX3_needCount_14 dX3_needCount_16 dX3_needCount_19
  · skip
    refine lv_iload_n hx hb dX3_needCount_4 rfl (lv_at hl 0 rfl) ?_
    refine lv_bipush (v := 64) hx hb dX3_needCount_5 (by decide) ?_
    refine lv_icmp_lt (tgt := 20) hx hb dX3_needCount_7 (by decide) (fun c_2 => ?_) (fun c_2 => ?_)
    · skip
      exact hret _ _ _ _ _ _ _ (show v = v from rfl) (by simp [cOkC, c_1, c_2]) (by decide) (by decide) hP hS dX3_needCount_20
    · skip
      exact e_throw (text := "no such count") hQ hx hb hml hl9 hown hts hT hex hlocks hP hS tw_IO (by decide +kernel) (⟨rfl, by simp [cOkC, c_1, c_2]⟩) hl.1 (by decide) (Nat.le_of_ble_eq_true rfl) (by decide) (by decide) (by decide) (by decide) dX3_needCount_10 dX3_needCount_13 dX3_needCount_14 dX3_needCount_16 dX3_needCount_19

set_option maxRecDepth 100000 in
set_option maxHeartbeats 4000000 in
theorem c_X3_needRoom {l : Launch} (hl9 : l.stackTraces = false) {X : eD} {z0 : Nat} {ad kd sp : Nat → Nat} {v : eV} (x : Int32) : eTh l yX3_needRoom cX3_needRoom 1 none 6 1 6 [.int x] X z0 ad kd sp v none v (cOkR x = true) (fun E => E = xIO ∧ cOkR x = false) := by
  refine e_thrV (by decide +kernel) (Nat.le_of_ble_eq_true rfl) ?_
  intro p e s m args below meth c hx hb hml hown hts hW hT hex hlocks Q hQ hret ls hl
  obtain ⟨hz, hP, hI, hK⟩ := hW
  have hl : lv_has ls 1 [(0, .int x)] := hl
  have hS : va_S (e_A z0) s.heap s.heap [] := va_S.rf
  refine lv_iload_n hx hb dX3_needRoom_0 rfl (lv_at hl 0 rfl) ?_
  refine lv_if_lt (tgt := 9) hx hb dX3_needRoom_1 (by decide) (fun c_1 => ?_) (fun c_1 => ?_)
  · skip
    exact e_throw (text := "no such room") hQ hx hb hml hl9 hown hts hT hex hlocks hP hS tw_IO (by decide +kernel) (⟨rfl, by simp [cOkR, c_1]⟩) hl.1 (by decide) (Nat.le_of_ble_eq_true rfl) (by decide) (by decide) (by decide) (by decide) dX3_needRoom_9 dX3_needRoom_12 dX3_needRoom_13 dX3_needRoom_15 dX3_needRoom_18
  · skip
    refine lv_iload_n hx hb dX3_needRoom_4 rfl (lv_at hl 0 rfl) ?_
    refine lv_iconst (v := 3) hx hb dX3_needRoom_5 (by decide) ?_
    refine lv_icmp_lt (tgt := 19) hx hb dX3_needRoom_6 (by decide) (fun c_2 => ?_) (fun c_2 => ?_)
    · skip
      exact hret _ _ _ _ _ _ _ (show v = v from rfl) (by simp [cOkR, c_1, c_2]) (by decide) (by decide) hP hS dX3_needRoom_19
    · skip
      exact e_throw (text := "no such room") hQ hx hb hml hl9 hown hts hT hex hlocks hP hS tw_IO (by decide +kernel) (⟨rfl, by simp [cOkR, c_1, c_2]⟩) hl.1 (by decide) (Nat.le_of_ble_eq_true rfl) (by decide) (by decide) (by decide) (by decide) dX3_needRoom_9 dX3_needRoom_12 dX3_needRoom_13 dX3_needRoom_15 dX3_needRoom_18

set_option maxRecDepth 100000 in
set_option maxHeartbeats 4000000 in
theorem c_X3_needHour {l : Launch} (hl9 : l.stackTraces = false) {X : eD} {z0 : Nat} {ad kd sp : Nat → Nat} {v : eV} (x : Int32) : eTh l yX3_needHour cX3_needHour 1 none 6 1 6 [.int x] X z0 ad kd sp v none v (cOkH x = true) (fun E => E = xIO ∧ cOkH x = false) := by
  refine e_thrV (by decide +kernel) (Nat.le_of_ble_eq_true rfl) ?_
  intro p e s m args below meth c hx hb hml hown hts hW hT hex hlocks Q hQ hret ls hl
  obtain ⟨hz, hP, hI, hK⟩ := hW
  have hl : lv_has ls 1 [(0, .int x)] := hl
  have hS : va_S (e_A z0) s.heap s.heap [] := va_S.rf
  refine lv_iload_n hx hb dX3_needHour_0 rfl (lv_at hl 0 rfl) ?_
  refine lv_bipush (v := 8) hx hb dX3_needHour_1 (by decide) ?_
  refine lv_icmp_lt (tgt := 12) hx hb dX3_needHour_3 (by decide) (fun c_1 => ?_) (fun c_1 => ?_)
  · skip
    exact e_throw (text := "no such hour") hQ hx hb hml hl9 hown hts hT hex hlocks hP hS tw_IO (by decide +kernel) (⟨rfl, by simp [cOkH, c_1]⟩) hl.1 (by decide) (Nat.le_of_ble_eq_true rfl) (by decide) (by decide) (by decide) (by decide) dX3_needHour_12 dX3_needHour_15 dX3_needHour_16 dX3_needHour_18 dX3_needHour_21
  · skip
    refine lv_iload_n hx hb dX3_needHour_6 rfl (lv_at hl 0 rfl) ?_
    refine lv_bipush (v := 21) hx hb dX3_needHour_7 (by decide) ?_
    refine lv_icmp_lt (tgt := 22) hx hb dX3_needHour_9 (by decide) (fun c_2 => ?_) (fun c_2 => ?_)
    · skip
      exact hret _ _ _ _ _ _ _ (show v = v from rfl) (by simp [cOkH, c_1, c_2]) (by decide) (by decide) hP hS dX3_needHour_22
    · skip
      exact e_throw (text := "no such hour") hQ hx hb hml hl9 hown hts hT hex hlocks hP hS tw_IO (by decide +kernel) (⟨rfl, by simp [cOkH, c_1, c_2]⟩) hl.1 (by decide) (Nat.le_of_ble_eq_true rfl) (by decide) (by decide) (by decide) (by decide) dX3_needHour_12 dX3_needHour_15 dX3_needHour_16 dX3_needHour_18 dX3_needHour_21

set_option maxRecDepth 100000 in
set_option maxHeartbeats 4000000 in
theorem c_X3_place {l : Launch} (hl9 : l.stackTraces = false) {X : eD} {z0 : Nat} {ad kd sp : Nat → Nat} {v : eV} (hc : cK kd sp) (d c0 b : Int32) : eTh l yX3_place cX3_place 4 (some .int) 8 60 2000 [.ref (ad 0), .int d, .int c0, .int b] X z0 ad kd sp v (some (.int (cPlaceV v d c0 b))) v (cPlaceC (sp 0) d c0 = 0) (xP [(xIO, 1)] (cPlaceC (sp 0) d c0)) := by
  refine e_thrI (by decide +kernel) (Nat.le_of_ble_eq_true rfl) ?_
  intro p e s m args below meth c hx hb hml hown hts hW hT hex hlocks Q hQ hret ls hl
  obtain ⟨hz, hP, hI, hK⟩ := hW
  have hl : lv_has ls 4 [(0, .ref (ad 0)), (1, .int d), (2, .int c0), (3, .int b)] := hl
  have hS : va_S (e_A z0) s.heap s.heap [] := va_S.rf
  have hc0 := hc.2.2.2.2.2
  have hs8 := hc0.1
  have hs12 := hc0.2.1
  have hq2 := hc0.2.2.1
  have hq3 := hc0.2.2.2.1
  have hq4 := hc0.2.2.2.2.1
  have hq5 := hc0.2.2.2.2.2.1
  have hq6 := hc0.2.2.2.2.2.2.1
  have hq7 := hc0.2.2.2.2.2.2.2
  refine lv_aload_n hx hb dX3_place_0 rfl (lv_at hl 0 rfl) ?_
  refine lv_iload_n hx hb dX3_place_1 rfl (lv_at hl 1 rfl) ?_
  refine e_cVX (As := [.int d]) (rest := []) hQ hex hlocks (fun E h => ⟨1, by rw [h.1]; exact .head _, by simp [cPlaceC, h.2]⟩) hx hb hml hown hts hT 0 (c_X3_needDancer (l := l) hl9 hc d) cw_RX3_70 (by decide) (by decide) hz hP hI hK hS hc.1.1 (by decide) rfl rfl rfl hl.1 rfl (Nat.le_of_ble_eq_true rfl) ⟨by decide, by decide⟩ (by decide) (by decide) dX3_place_2 (fun H locs g_1 hz hP hS => ?_)
  obtain ⟨d_2, hd_2, ed_2⟩ := cOkN_nat (by omega) g_1
  have nd_2 := nN_of ed_2 (by omega)
  refine lv_iload_n hx hb dX3_place_5 rfl (lv_at hl 2 rfl) ?_
  refine e_cSX (As := [.int c0]) (rest := []) hQ hex hlocks (fun E h => ⟨1, by rw [h.1]; exact .head _, by simp [cPlaceC, h.2, g_1, nd_2]⟩) hx hb hml hown hts hT (c_X3_needCount (l := l) hl9 c0) cw_RX3_74 (by decide) (by decide) hz hP hI hK hS rfl hl.1 rfl (Nat.le_of_ble_eq_true rfl) ⟨by decide, by decide⟩ (by decide) (by decide) dX3_place_6 (fun H locs g_3 hz hP hS => ?_)
  obtain ⟨c_4, hc_4, ec_4⟩ := cOkC_nat g_3
  have nc_4 := nN_of ec_4 (by omega)
  refine lv_aload_n hx hb dX3_place_9 rfl (lv_at hl 0 rfl) ?_
  refine e_getf hx hb hts inX3 hown hK hP 0 5 hc.1.1 (by decide) rfl rfl 0 (by decide) aw_194 (fun _ h => h) rfl dX3_place_10 ?_
  refine lv_iload_n hx hb dX3_place_13 rfl (lv_at hl 1 rfl) ?_
  refine e_nrm (y := nI d_2) ed_2 ?_
  refine e_cV (As := [.int (nI d_2)]) (rest := []) hx hb hml hown hts 1 (c_Jx4a65c_get_915e3_1 (l := l) hc d_2 (by omega)) cw_RX3_85 (by decide) (by decide) hz hP hI hK hc.1.2.1 (by decide) rfl rfl rfl hl.1 rfl (Nat.le_of_ble_eq_true rfl) ⟨by decide, by decide⟩ dX3_place_14 ?_
  refine e_cast hx hb hts hown hK hP (20 + 7 * d_2) 1 (((hc.2.2.2.1 d_2 (by omega))).1) (by decide) rfl rfl aw_200 dX3_place_17 ?_
  refine lv_iload_n hx hb dX3_place_20 rfl (lv_at hl 3 rfl) ?_
  refine e_cV (As := [.int b]) (rest := []) hx hb hml hown hts (20 + 7 * d_2) (c_X0_track (l := l) (20 + 7 * d_2) (hc.2.2.2.1 d_2 (by omega)) b) cw_RX3_110 (by decide) (by decide) hz hP hI hK (((hc.2.2.2.1 d_2 (by omega))).1) (by decide) rfl rfl rfl hl.1 rfl (Nat.le_of_ble_eq_true rfl) ⟨by decide, by decide⟩ dX3_place_21 ?_
  refine e_getf hx hb hts inX2 hown hK hP (cTr (20 + 7 * d_2) b) 2 (((isT_tr (hc.2.2.2.1 d_2 (by omega)) b)).1) (by decide) rfl rfl 2 (by decide) aw_335 (fun _ h => h) rfl dX3_place_24 ?_
  refine lv_iload_n hx hb dX3_place_27 rfl (lv_at hl 2 rfl) ?_
  refine e_nrm (y := nI c_4) ec_4 ?_
  refine e_iald hx hb hK hP ((cTr (20 + 7 * d_2) b) + 2) 64 (((isT_tr (hc.2.2.2.1 d_2 (by omega)) b)).2.2) c_4 rfl (by omega) (by decide) dX3_place_28 ?_
  exact hret _ _ _ _ _ _ _ _ (show (v ((cTr (20 + 7 * d_2) b) + 2) c_4) = cPlaceV v d c0 b from (by first | (simp [cPlaceV, bI, g_1, nd_2, g_3, nc_4]; done) | (exfalso; simp_all; done))) (show v = v from rfl) (by first | (simp [cPlaceC, g_1, nd_2, g_3, nc_4]; done) | (simp_all [cPlaceC]; done)) (by decide) (by decide) hP hS dX3_place_29

set_option maxRecDepth 100000 in
set_option maxHeartbeats 4000000 in
theorem c_X3_placeAnew {l : Launch} (hl9 : l.stackTraces = false) {X : eD} {z0 : Nat} {ad kd sp : Nat → Nat} {v : eV} (hc : cK kd sp) (d c0 b : Int32) : eTh l yX3_placeAnew cX3_placeAnew 4 (some .int) 8 60 2000 [.ref (ad 0), .int d, .int c0, .int b] X z0 ad kd sp v (some (.int (cAnewV v d c0 b))) v (cPlaceC (sp 0) d c0 = 0) (xP [(xIO, 1)] (cPlaceC (sp 0) d c0)) := by
  refine e_thrI (by decide +kernel) (Nat.le_of_ble_eq_true rfl) ?_
  intro p e s m args below meth c hx hb hml hown hts hW hT hex hlocks Q hQ hret ls hl
  obtain ⟨hz, hP, hI, hK⟩ := hW
  have hl : lv_has ls 4 [(0, .ref (ad 0)), (1, .int d), (2, .int c0), (3, .int b)] := hl
  have hS : va_S (e_A z0) s.heap s.heap [] := va_S.rf
  have hc0 := hc.2.2.2.2.2
  have hs8 := hc0.1
  have hs12 := hc0.2.1
  have hq2 := hc0.2.2.1
  have hq3 := hc0.2.2.2.1
  have hq4 := hc0.2.2.2.2.1
  have hq5 := hc0.2.2.2.2.2.1
  have hq6 := hc0.2.2.2.2.2.2.1
  have hq7 := hc0.2.2.2.2.2.2.2
  refine lv_aload_n hx hb dX3_placeAnew_0 rfl (lv_at hl 0 rfl) ?_
  refine lv_iload_n hx hb dX3_placeAnew_1 rfl (lv_at hl 1 rfl) ?_
  refine e_cVX (As := [.int d]) (rest := []) hQ hex hlocks (fun E h => ⟨1, by rw [h.1]; exact .head _, by simp [cPlaceC, h.2]⟩) hx hb hml hown hts hT 0 (c_X3_needDancer (l := l) hl9 hc d) cw_RX3_70 (by decide) (by decide) hz hP hI hK hS hc.1.1 (by decide) rfl rfl rfl hl.1 rfl (Nat.le_of_ble_eq_true rfl) ⟨by decide, by decide⟩ (by decide) (by decide) dX3_placeAnew_2 (fun H locs g_1 hz hP hS => ?_)
  obtain ⟨d_2, hd_2, ed_2⟩ := cOkN_nat (by omega) g_1
  have nd_2 := nN_of ed_2 (by omega)
  refine lv_iload_n hx hb dX3_placeAnew_5 rfl (lv_at hl 2 rfl) ?_
  refine e_cSX (As := [.int c0]) (rest := []) hQ hex hlocks (fun E h => ⟨1, by rw [h.1]; exact .head _, by simp [cPlaceC, h.2, g_1, nd_2]⟩) hx hb hml hown hts hT (c_X3_needCount (l := l) hl9 c0) cw_RX3_74 (by decide) (by decide) hz hP hI hK hS rfl hl.1 rfl (Nat.le_of_ble_eq_true rfl) ⟨by decide, by decide⟩ (by decide) (by decide) dX3_placeAnew_6 (fun H locs g_3 hz hP hS => ?_)
  obtain ⟨c_4, hc_4, ec_4⟩ := cOkC_nat g_3
  have nc_4 := nN_of ec_4 (by omega)
  refine lv_aload_n hx hb dX3_placeAnew_9 rfl (lv_at hl 0 rfl) ?_
  refine e_getf hx hb hts inX3 hown hK hP 0 5 hc.1.1 (by decide) rfl rfl 0 (by decide) aw_194 (fun _ h => h) rfl dX3_placeAnew_10 ?_
  refine lv_iload_n hx hb dX3_placeAnew_13 rfl (lv_at hl 1 rfl) ?_
  refine e_nrm (y := nI d_2) ed_2 ?_
  refine e_cV (As := [.int (nI d_2)]) (rest := []) hx hb hml hown hts 1 (c_Jx4a65c_get_915e3_1 (l := l) hc d_2 (by omega)) cw_RX3_85 (by decide) (by decide) hz hP hI hK hc.1.2.1 (by decide) rfl rfl rfl hl.1 rfl (Nat.le_of_ble_eq_true rfl) ⟨by decide, by decide⟩ dX3_placeAnew_14 ?_
  refine e_cast hx hb hts hown hK hP (20 + 7 * d_2) 1 (((hc.2.2.2.1 d_2 (by omega))).1) (by decide) rfl rfl aw_200 dX3_placeAnew_17 ?_
  refine lv_iload_n hx hb dX3_placeAnew_20 rfl (lv_at hl 3 rfl) ?_
  refine e_cV (As := [.int b]) (rest := []) hx hb hml hown hts (20 + 7 * d_2) (c_X0_track (l := l) (20 + 7 * d_2) (hc.2.2.2.1 d_2 (by omega)) b) cw_RX3_110 (by decide) (by decide) hz hP hI hK (((hc.2.2.2.1 d_2 (by omega))).1) (by decide) rfl rfl rfl hl.1 rfl (Nat.le_of_ble_eq_true rfl) ⟨by decide, by decide⟩ dX3_placeAnew_21 ?_
  refine lv_iload_n hx hb dX3_placeAnew_24 rfl (lv_at hl 2 rfl) ?_
  refine e_nrm (y := nI c_4) ec_4 ?_
  refine e_cV (As := [.int (nI c_4)]) (rest := []) hx hb hml hown hts (cTr (20 + 7 * d_2) b) (c_X2_followedTo (l := l) (cTr (20 + 7 * d_2) b) (isT_tr (hc.2.2.2.1 d_2 (by omega)) b) c_4 (by omega)) cw_RX3_117 (by decide) (by decide) hz hP hI hK (((isT_tr (hc.2.2.2.1 d_2 (by omega)) b)).1) (by decide) rfl rfl rfl hl.1 rfl (Nat.le_of_ble_eq_true rfl) ⟨by decide, by decide⟩ dX3_placeAnew_25 ?_
  exact hret _ _ _ _ _ _ _ _ (show (cFollow v (cTr (20 + 7 * d_2) b) (c_4 + 1)) = cAnewV v d c0 b from (by first | (simp [cAnewV, bI, g_1, nd_2, g_3, nc_4]; done) | (exfalso; simp_all; done))) (show v = v from rfl) (by first | (simp [cPlaceC, g_1, nd_2, g_3, nc_4]; done) | (simp_all [cPlaceC]; done)) (by decide) (by decide) hP hS dX3_placeAnew_28

set_option maxRecDepth 100000 in
set_option maxHeartbeats 4000000 in
theorem c_X3_clashes {l : Launch} (hl9 : l.stackTraces = false) {X : eD} {z0 : Nat} {ad kd sp : Nat → Nat} {v : eV} (hc : cK kd sp) (c0 : Int32) : eTh l yX3_clashes cX3_clashes 2 (some .int) 8 60 2000 [.ref (ad 0), .int c0] X z0 ad kd sp v (some (.int (cClash v (nN c0) (sp 0) (sp 0)))) v (cClashesC c0 = 0) (xP [(xIO, 1)] (cClashesC c0)) := by
  refine e_thrI (by decide +kernel) (Nat.le_of_ble_eq_true rfl) ?_
  intro p e s m args below meth c hx hb hml hown hts hW hT hex hlocks Q hQ hret ls hl
  obtain ⟨hz, hP, hI, hK⟩ := hW
  have hl : lv_has ls 2 [(0, .ref (ad 0)), (1, .int c0)] := hl
  have hS : va_S (e_A z0) s.heap s.heap [] := va_S.rf
  have hc0 := hc.2.2.2.2.2
  have hs8 := hc0.1
  have hs12 := hc0.2.1
  have hq2 := hc0.2.2.1
  have hq3 := hc0.2.2.2.1
  have hq4 := hc0.2.2.2.2.1
  have hq5 := hc0.2.2.2.2.2.1
  have hq6 := hc0.2.2.2.2.2.2.1
  have hq7 := hc0.2.2.2.2.2.2.2
  refine lv_iload_n hx hb dX3_clashes_0 rfl (lv_at hl 1 rfl) ?_
  refine e_cSX (As := [.int c0]) (rest := []) hQ hex hlocks (fun E h => ⟨1, by rw [h.1]; exact .head _, by simp [cClashesC, h.2]⟩) hx hb hml hown hts hT (c_X3_needCount (l := l) hl9 c0) cw_RX3_74 (by decide) (by decide) hz hP hI hK hS rfl hl.1 rfl (Nat.le_of_ble_eq_true rfl) ⟨by decide, by decide⟩ (by decide) (by decide) dX3_clashes_1 (fun H locs g_1 hz hP hS => ?_)
  obtain ⟨c_2, hc_2, ec_2⟩ := cOkC_nat g_1
  have nc_2 := nN_of ec_2 (by omega)
  refine lv_aload_n hx hb dX3_clashes_4 rfl (lv_at hl 0 rfl) ?_
  refine lv_iload_n hx hb dX3_clashes_5 rfl (lv_at hl 1 rfl) ?_
  refine e_nrm (y := nI c_2) ec_2 ?_
  refine e_cV (As := [.int (nI c_2)]) (rest := []) hx hb hml hown hts 0 (c_X3_clashesAt (l := l) hc c_2 (by omega)) cw_RX3_121 (by decide) (by decide) hz hP hI hK hc.1.1 (by decide) rfl rfl rfl hl.1 rfl (Nat.le_of_ble_eq_true rfl) ⟨by decide, by decide⟩ dX3_clashes_6 ?_
  exact hret _ _ _ _ _ _ _ _ (show (cClash v c_2 (sp 0) (sp 0)) = cClash v (nN c0) (sp 0) (sp 0) from (by first | (simp [bI, g_1, nc_2]; done) | (exfalso; simp_all; done))) (show v = v from rfl) (by first | (simp [cClashesC, g_1, nc_2]; done) | (simp_all [cClashesC]; done)) (by decide) (by decide) hP hS dX3_clashes_9

set_option maxRecDepth 100000 in
set_option maxHeartbeats 4000000 in
theorem c_X3_knees {l : Launch} (hl9 : l.stackTraces = false) {X : eD} {z0 : Nat} {ad kd sp : Nat → Nat} {v : eV} (hc : cK kd sp) (d : Int32) : eTh l yX3_knees cX3_knees 2 (some .int) 8 60 2000 [.ref (ad 0), .int d] X z0 ad kd sp v (some (.int (v (20 + 7 * nN d) 2))) v (cKneesC (sp 0) d = 0) (xP [(xIO, 1)] (cKneesC (sp 0) d)) := by
  refine e_thrI (by decide +kernel) (Nat.le_of_ble_eq_true rfl) ?_
  intro p e s m args below meth c hx hb hml hown hts hW hT hex hlocks Q hQ hret ls hl
  obtain ⟨hz, hP, hI, hK⟩ := hW
  have hl : lv_has ls 2 [(0, .ref (ad 0)), (1, .int d)] := hl
  have hS : va_S (e_A z0) s.heap s.heap [] := va_S.rf
  have hc0 := hc.2.2.2.2.2
  have hs8 := hc0.1
  have hs12 := hc0.2.1
  have hq2 := hc0.2.2.1
  have hq3 := hc0.2.2.2.1
  have hq4 := hc0.2.2.2.2.1
  have hq5 := hc0.2.2.2.2.2.1
  have hq6 := hc0.2.2.2.2.2.2.1
  have hq7 := hc0.2.2.2.2.2.2.2
  refine lv_aload_n hx hb dX3_knees_0 rfl (lv_at hl 0 rfl) ?_
  refine lv_iload_n hx hb dX3_knees_1 rfl (lv_at hl 1 rfl) ?_
  refine e_cVX (As := [.int d]) (rest := []) hQ hex hlocks (fun E h => ⟨1, by rw [h.1]; exact .head _, by simp [cKneesC, h.2]⟩) hx hb hml hown hts hT 0 (c_X3_needDancer (l := l) hl9 hc d) cw_RX3_70 (by decide) (by decide) hz hP hI hK hS hc.1.1 (by decide) rfl rfl rfl hl.1 rfl (Nat.le_of_ble_eq_true rfl) ⟨by decide, by decide⟩ (by decide) (by decide) dX3_knees_2 (fun H locs g_1 hz hP hS => ?_)
  obtain ⟨d_2, hd_2, ed_2⟩ := cOkN_nat (by omega) g_1
  have nd_2 := nN_of ed_2 (by omega)
  refine lv_aload_n hx hb dX3_knees_5 rfl (lv_at hl 0 rfl) ?_
  refine e_getf hx hb hts inX3 hown hK hP 0 5 hc.1.1 (by decide) rfl rfl 0 (by decide) aw_194 (fun _ h => h) rfl dX3_knees_6 ?_
  refine lv_iload_n hx hb dX3_knees_9 rfl (lv_at hl 1 rfl) ?_
  refine e_nrm (y := nI d_2) ed_2 ?_
  refine e_cV (As := [.int (nI d_2)]) (rest := []) hx hb hml hown hts 1 (c_Jx4a65c_get_915e3_1 (l := l) hc d_2 (by omega)) cw_RX3_85 (by decide) (by decide) hz hP hI hK hc.1.2.1 (by decide) rfl rfl rfl hl.1 rfl (Nat.le_of_ble_eq_true rfl) ⟨by decide, by decide⟩ dX3_knees_10 ?_
  refine e_cast hx hb hts hown hK hP (20 + 7 * d_2) 1 (((hc.2.2.2.1 d_2 (by omega))).1) (by decide) rfl rfl aw_200 dX3_knees_13 ?_
  refine e_getf hx hb hts inX0 hown hK hP (20 + 7 * d_2) 1 (((hc.2.2.2.1 d_2 (by omega))).1) (by decide) rfl rfl 2 (by decide) aw_275 (fun _ h => h) rfl dX3_knees_16 ?_
  exact hret _ _ _ _ _ _ _ _ (show (v (20 + 7 * d_2) 2) = v (20 + 7 * nN d) 2 from (by first | (simp [bI, g_1, nd_2]; done) | (exfalso; simp_all; done))) (show v = v from rfl) (by first | (simp [cKneesC, g_1, nd_2]; done) | (simp_all [cKneesC]; done)) (by decide) (by decide) hP hS dX3_knees_19

set_option maxRecDepth 100000 in
set_option maxHeartbeats 4000000 in
theorem c_X3_rehearsal {l : Launch} (hl9 : l.stackTraces = false) {X : eD} {z0 : Nat} {ad kd sp : Nat → Nat} {v : eV} (hc : cK kd sp) (r h : Int32) : eTh l yX3_rehearsal cX3_rehearsal 3 (some .int) 8 60 2000 [.ref (ad 0), .int r, .int h] X z0 ad kd sp v (some (.int (v (5 + nN r) (nN h - 8)))) v (cRehearsalC r h = 0) (xP [(xIO, 1)] (cRehearsalC r h)) := by
  refine e_thrI (by decide +kernel) (Nat.le_of_ble_eq_true rfl) ?_
  intro p e s m args below meth c hx hb hml hown hts hW hT hex hlocks Q hQ hret ls hl
  obtain ⟨hz, hP, hI, hK⟩ := hW
  have hl : lv_has ls 3 [(0, .ref (ad 0)), (1, .int r), (2, .int h)] := hl
  have hS : va_S (e_A z0) s.heap s.heap [] := va_S.rf
  have hc0 := hc.2.2.2.2.2
  have hs8 := hc0.1
  have hs12 := hc0.2.1
  have hq2 := hc0.2.2.1
  have hq3 := hc0.2.2.2.1
  have hq4 := hc0.2.2.2.2.1
  have hq5 := hc0.2.2.2.2.2.1
  have hq6 := hc0.2.2.2.2.2.2.1
  have hq7 := hc0.2.2.2.2.2.2.2
  refine lv_iload_n hx hb dX3_rehearsal_0 rfl (lv_at hl 1 rfl) ?_
  refine e_cSX (As := [.int r]) (rest := []) hQ hex hlocks (fun E h => ⟨1, by rw [h.1]; exact .head _, by simp [cRehearsalC, h.2]⟩) hx hb hml hown hts hT (c_X3_needRoom (l := l) hl9 r) cw_RX3_173 (by decide) (by decide) hz hP hI hK hS rfl hl.1 rfl (Nat.le_of_ble_eq_true rfl) ⟨by decide, by decide⟩ (by decide) (by decide) dX3_rehearsal_1 (fun H locs g_1 hz hP hS => ?_)
  obtain ⟨r_2, hr_2, er_2⟩ := cOkR_nat g_1
  have nr_2 := nN_of er_2 (by omega)
  refine lv_iload_n hx hb dX3_rehearsal_4 rfl (lv_at hl 2 rfl) ?_
  refine e_cSX (As := [.int h]) (rest := []) hQ hex hlocks (fun E h => ⟨1, by rw [h.1]; exact .head _, by simp [cRehearsalC, h.2, g_1, nr_2]⟩) hx hb hml hown hts hT (c_X3_needHour (l := l) hl9 h) cw_RX3_176 (by decide) (by decide) hz hP hI hK hS rfl hl.1 rfl (Nat.le_of_ble_eq_true rfl) ⟨by decide, by decide⟩ (by decide) (by decide) dX3_rehearsal_5 (fun H locs g_3 hz hP hS => ?_)
  obtain ⟨h_4, hh_4, eh_4⟩ := cOkH_nat g_3
  have nh_4 := nN_of eh_4 (by omega)
  refine lv_aload_n hx hb dX3_rehearsal_8 rfl (lv_at hl 0 rfl) ?_
  refine e_getf hx hb hts inX3 hown hK hP 0 5 hc.1.1 (by decide) rfl rfl 3 (by decide) aw_270 (fun _ h => h) rfl dX3_rehearsal_9 ?_
  refine lv_iload_n hx hb dX3_rehearsal_12 rfl (lv_at hl 1 rfl) ?_
  refine e_nrm (y := nI r_2) er_2 ?_
  refine e_aald hx hb hK hP 4 10 hc.1.2.2.2.2.1 (by decide) rfl 2 rfl (Or.inr rfl) r_2 rfl (by omega) (by omega) (if_pos (by omega)) dX3_rehearsal_13 ?_
  refine lv_iload_n hx hb dX3_rehearsal_14 rfl (lv_at hl 2 rfl) ?_
  refine e_nrm (y := nI h_4) eh_4 ?_
  refine lv_bipush (v := 8) hx hb dX3_rehearsal_15 (by decide) ?_
  refine lv_isub hx hb dX3_rehearsal_17 ?_
  refine e_nrm (y := (nI (h_4 - 8))) (pk_sub (a := h_4) (b := 8) (by omega)) ?_
  refine e_iald hx hb hK hP (5 + r_2) 13 (cK_rows hc (by omega : r_2 < 3)) (h_4 - 8) rfl (by omega) (by decide) dX3_rehearsal_18 ?_
  exact hret _ _ _ _ _ _ _ _ (show (v (5 + r_2) (h_4 - 8)) = v (5 + nN r) (nN h - 8) from (by first | (simp [bI, g_1, nr_2, g_3, nh_4]; done) | (exfalso; simp_all; done))) (show v = v from rfl) (by first | (simp [cRehearsalC, g_1, nr_2, g_3, nh_4]; done) | (simp_all [cRehearsalC]; done)) (by decide) (by decide) hP hS dX3_rehearsal_19

set_option maxRecDepth 100000 in
set_option maxHeartbeats 4000000 in
theorem c_X3_tempo {l : Launch} (hl9 : l.stackTraces = false) {X : eD} {z0 : Nat} {ad kd sp : Nat → Nat} {v : eV} (hc : cK kd sp) (c0 x : Int32) : eTh l yX3_tempo cX3_tempo 4 (some .int) 8 60 2000 [.ref (ad 0), .int c0, .int x] X z0 ad kd sp v (some (.int (cLast v (nN c0)))) (e_set v 3 (nN c0) x) (cTempoC c0 x = 0) (xP [(xIO, 1), (xIA, 2)] (cTempoC c0 x)) := by
  refine e_thrI (by decide +kernel) (Nat.le_of_ble_eq_true rfl) ?_
  intro p e s m args below meth c hx hb hml hown hts hW hT hex hlocks Q hQ hret ls hl
  obtain ⟨hz, hP, hI, hK⟩ := hW
  have hl : lv_has ls 4 [(0, .ref (ad 0)), (1, .int c0), (2, .int x)] := hl
  have hS : va_S (e_A z0) s.heap s.heap [] := va_S.rf
  have hc0 := hc.2.2.2.2.2
  have hs8 := hc0.1
  have hs12 := hc0.2.1
  have hq2 := hc0.2.2.1
  have hq3 := hc0.2.2.2.1
  have hq4 := hc0.2.2.2.2.1
  have hq5 := hc0.2.2.2.2.2.1
  have hq6 := hc0.2.2.2.2.2.2.1
  have hq7 := hc0.2.2.2.2.2.2.2
  refine lv_iload_n hx hb dX3_tempo_0 rfl (lv_at hl 1 rfl) ?_
  refine e_cSX (As := [.int c0]) (rest := []) hQ hex hlocks (fun E h => ⟨1, by rw [h.1]; exact .head _, by simp [cTempoC, mIn, h.2]⟩) hx hb hml hown hts hT (c_X3_needCount (l := l) hl9 c0) cw_RX3_74 (by decide) (by decide) hz hP hI hK hS rfl hl.1 rfl (Nat.le_of_ble_eq_true rfl) ⟨by decide, by decide⟩ (by decide) (by decide) dX3_tempo_1 (fun H locs g_1 hz hP hS => ?_)
  obtain ⟨c_2, hc_2, ec_2⟩ := cOkC_nat g_1
  have nc_2 := nN_of ec_2 (by omega)
  refine lv_iload_n hx hb dX3_tempo_4 rfl (lv_at hl 2 rfl) ?_
  refine lv_iconst (v := 1) hx hb dX3_tempo_5 (by decide) ?_
  refine lv_icmp_lt (tgt := 15) hx hb dX3_tempo_6 (by decide) (fun c_3 => ?_) (fun c_3 => ?_)
  · skip
    exact e_throw (text := "no such last") hQ hx hb hml hl9 hown hts hT hex hlocks hP hS tw_IA (by decide +kernel) (⟨2, .tail _ (.head _), by first | (simp [cTempoC, mIn, g_1, nc_2, c_3]; done) | (simp_all [cTempoC, mIn]; done)⟩) hl.1 (by decide) (Nat.le_of_ble_eq_true rfl) (by decide) (by decide) (by decide) (by decide) dX3_tempo_15 dX3_tempo_18 dX3_tempo_19 dX3_tempo_21 dX3_tempo_24
  · skip
    refine lv_iload_n hx hb dX3_tempo_9 rfl (lv_at hl 2 rfl) ?_
    refine lv_ldc hx hb hown (hts _ aw_354) dX3_tempo_10 ?_
    refine lv_icmp_le (tgt := 25) hx hb dX3_tempo_12 (by decide) (fun c_4 => ?_) (fun c_4 => ?_)
    · have nc_4 : ¬ 1000000000 < x := Int32.not_lt.mpr c_4
      refine lv_aload_n hx hb dX3_tempo_25 rfl (lv_at hl 0 rfl) ?_
      refine lv_iload_n hx hb dX3_tempo_26 rfl (lv_at hl 1 rfl) ?_
      refine e_nrm (y := nI c_2) ec_2 ?_
      refine e_cV (As := [.int (nI c_2)]) (rest := []) hx hb hml hown hts 0 (c_X3_lastOf (l := l) hc c_2 (by omega)) cw_RX3_159 (by decide) (by decide) hz hP hI hK hc.1.1 (by decide) rfl rfl rfl hl.1 rfl (Nat.le_of_ble_eq_true rfl) ⟨by decide, by decide⟩ dX3_tempo_27 ?_
      refine lv_istore_n (lv' := [(3, .int (cLast v c_2)), (0, .ref (ad 0)), (1, .int c0), (2, .int x)]) hx hb dX3_tempo_30 rfl hl (by decide) rfl (fun ls hl => ?_)
      refine lv_aload_n hx hb dX3_tempo_31 rfl (lv_at hl 1 rfl) ?_
      refine e_getf hx hb hts inX3 hown hK hP 0 5 hc.1.1 (by decide) rfl rfl 2 (by decide) aw_259 (fun _ h => h) rfl dX3_tempo_32 ?_
      refine lv_iload_n hx hb dX3_tempo_35 rfl (lv_at hl 2 rfl) ?_
      refine e_nrm (y := nI c_2) ec_2 ?_
      refine lv_iload_n hx hb dX3_tempo_36 rfl (lv_at hl 3 rfl) ?_
      refine e_iast hx hb hK hP hI hS 3 64 hc.1.2.2.2.1 c_2 rfl (by omega) (by omega) dX3_tempo_37 (fun H locs hz1 hP hS => ?_)
      have hz := Nat.le_trans hz (Nat.le_of_eq hz1.symm)
      refine lv_iload_n hx hb dX3_tempo_38 rfl (lv_at hl 0 rfl) ?_
      exact hret _ _ _ _ _ _ _ _ (show (cLast v c_2) = cLast v (nN c0) from (by first | (simp [bI, g_1, nc_2, c_3, nc_4]; done) | (exfalso; simp_all; done))) (show (e_set v 3 c_2 x) = e_set v 3 (nN c0) x from (by first | (simp [bI, g_1, nc_2, c_3, nc_4]; done) | (exfalso; simp_all; done))) (by first | (simp [cTempoC, mIn, g_1, nc_2, c_3, nc_4]; done) | (simp_all [cTempoC, mIn]; done)) (by decide) (by decide) hP hS dX3_tempo_39
    · have nc_4 : 1000000000 < x := Int32.not_le.mp c_4
      exact e_throw (text := "no such last") hQ hx hb hml hl9 hown hts hT hex hlocks hP hS tw_IA (by decide +kernel) (⟨2, .tail _ (.head _), by first | (simp [cTempoC, mIn, g_1, nc_2, c_3, nc_4]; done) | (simp_all [cTempoC, mIn]; done)⟩) hl.1 (by decide) (Nat.le_of_ble_eq_true rfl) (by decide) (by decide) (by decide) (by decide) dX3_tempo_15 dX3_tempo_18 dX3_tempo_19 dX3_tempo_21 dX3_tempo_24

set_option maxRecDepth 100000 in
set_option maxHeartbeats 4000000 in
theorem c_X3_begins {l : Launch} (hl9 : l.stackTraces = false) {X : eD} {z0 : Nat} {ad kd sp : Nat → Nat} {v : eV} (hc : cK kd sp) (c0 : Int32) : eTh l yX3_begins cX3_begins 4 (some .int) 8 60 2000 [.ref (ad 0), .int c0] X z0 ad kd sp v (some (.int ((cSum v (nN c0)).toInt32))) v (cBeginsC v c0 = 0) (xP [(xIO, 1), (xAR, 2)] (cBeginsC v c0)) := by
  refine e_thrI (by decide +kernel) (Nat.le_of_ble_eq_true rfl) ?_
  intro p e s m args below meth c hx hb hml hown hts hW hT hex hlocks Q hQ hret ls hl
  obtain ⟨hz, hP, hI, hK⟩ := hW
  have hl : lv_has ls 4 [(0, .ref (ad 0)), (1, .int c0)] := hl
  have hS : va_S (e_A z0) s.heap s.heap [] := va_S.rf
  have hc0 := hc.2.2.2.2.2
  have hs8 := hc0.1
  have hs12 := hc0.2.1
  have hq2 := hc0.2.2.1
  have hq3 := hc0.2.2.2.1
  have hq4 := hc0.2.2.2.2.1
  have hq5 := hc0.2.2.2.2.2.1
  have hq6 := hc0.2.2.2.2.2.2.1
  have hq7 := hc0.2.2.2.2.2.2.2
  refine lv_iload_n hx hb dX3_begins_0 rfl (lv_at hl 1 rfl) ?_
  refine e_cSX (As := [.int c0]) (rest := []) hQ hex hlocks (fun E h => ⟨1, by rw [h.1]; exact .head _, by simp [cBeginsC, h.2]⟩) hx hb hml hown hts hT (c_X3_needCount (l := l) hl9 c0) cw_RX3_74 (by decide) (by decide) hz hP hI hK hS rfl hl.1 rfl (Nat.le_of_ble_eq_true rfl) ⟨by decide, by decide⟩ (by decide) (by decide) dX3_begins_1 (fun H locs g_1 hz hP hS => ?_)
  obtain ⟨c_2, hc_2, ec_2⟩ := cOkC_nat g_1
  have nc_2 := nN_of ec_2 (by omega)
  refine lv_aload_n hx hb dX3_begins_4 rfl (lv_at hl 0 rfl) ?_
  refine lv_iload_n hx hb dX3_begins_5 rfl (lv_at hl 1 rfl) ?_
  refine e_nrm (y := nI c_2) ec_2 ?_
  refine e_cV (As := [.int (nI c_2)]) (rest := []) hx hb hml hown hts 0 (c_X3_lastsAheadOf (l := l) hc c_2 (by omega)) cw_RX3_162 (by decide) (by decide) hz hP hI hK hc.1.1 (by decide) rfl rfl rfl hl.1 rfl (Nat.le_of_ble_eq_true rfl) ⟨by decide, by decide⟩ dX3_begins_6 ?_
  refine lv_lstore_n (lv' := [(2, .long (cSum v c_2)), (0, .ref (ad 0)), (1, .int c0)]) hx hb dX3_begins_9 rfl hl (by decide) rfl (fun ls hl => ?_)
  refine lv_lload_n hx hb dX3_begins_10 rfl (lv_at hl 0 rfl) ?_
  refine lv_ldc2 hx hb hown (hts _ aw_365) dX3_begins_11 ?_
  refine W.lcmp hx hb dX3_begins_14 ?_
  refine lv_if_le (tgt := 28) hx hb dX3_begins_15 (by decide) (fun c_3 => ?_) (fun c_3 => ?_)
  · have nc_3 : ¬ 2147483647 < cSum v c_2 := e_cmp_le.mp c_3
    refine lv_lload_n hx hb dX3_begins_28 rfl (lv_at hl 0 rfl) ?_
    refine lv_l2i hx hb dX3_begins_29 rfl ?_
    exact hret _ _ _ _ _ _ _ _ (show (Int64.toInt32 (cSum v c_2)) = (cSum v (nN c0)).toInt32 from (by first | (simp [bI, g_1, nc_2, nc_3]; done) | (exfalso; simp_all; done))) (show v = v from rfl) (by first | (simp [cBeginsC, g_1, nc_2, nc_3]; done) | (simp_all [cBeginsC]; done)) (by decide) (by decide) hP hS dX3_begins_30
  · have nc_3 : 2147483647 < cSum v c_2 := Decidable.not_not.mp (fun h => c_3 (e_cmp_le.mpr h))
    exact e_throw (text := "beyond an int") hQ hx hb hml hl9 hown hts hT hex hlocks hP hS tw_AR (by decide +kernel) (⟨2, .tail _ (.head _), by first | (simp [cBeginsC, g_1, nc_2, nc_3]; done) | (simp_all [cBeginsC]; done)⟩) hl.1 (by decide) (Nat.le_of_ble_eq_true rfl) (by decide) (by decide) (by decide) (by decide) dX3_begins_18 dX3_begins_21 dX3_begins_22 dX3_begins_24 dX3_begins_27

set_option maxRecDepth 100000 in
set_option maxHeartbeats 4000000 in
theorem c_X3_firstClash {l : Launch} {X : eD} {z0 : Nat} {ad kd sp : Nat → Nat} {v : eV} (hc : cK kd sp) : ePu l yX3_firstClash cX3_firstClash 2 (some .int) 7 [.ref (ad 0)] (e_W X z0 ad kd sp v) (some (.int (cFirst v (sp 0)))) := by
  refine e_pureI (by decide +kernel) (Nat.le_of_ble_eq_true rfl) rfl ?_
  intro p e s m args below meth c hx hb hml hown hts hW Q hret ls hl
  obtain ⟨hz, hP, hI, hK⟩ := hW
  have hl : lv_has ls 2 [(0, .ref (ad 0))] := hl
  have hc0 := hc.2.2.2.2.2
  have hs8 := hc0.1
  have hs12 := hc0.2.1
  have hq2 := hc0.2.2.1
  have hq3 := hc0.2.2.2.1
  have hq4 := hc0.2.2.2.2.1
  have hq5 := hc0.2.2.2.2.2.1
  have hq6 := hc0.2.2.2.2.2.2.1
  have hq7 := hc0.2.2.2.2.2.2.2
  refine lv_iconst (v := 0) hx hb dX3_firstClash_0 (by decide) ?_
  refine lv_istore_n (lv' := [(1, .int 0), (0, .ref (ad 0))]) hx hb dX3_firstClash_1 rfl hl (by decide) rfl (fun ls hl => ?_)
  have L2 : ∀ (k2 : Nat) (i : Nat), 64 - i < k2 → (i ≤ 64) → (firstN (fun c => decide (0 < cClash v c (sp 0) (sp 0))) (64 - i) i = cFirst v (sp 0)) →  ∀ ls : Array Slot, lv_has ls 2 [(1, .int (nI i)), (0, .ref (ad 0))] → W p l e (e_rm 7 0 0) s m args below meth c s.heap [] 0 0 Q (F0 m 2 ls []) := by
    intro k2
    induction k2 with
    | zero => intro i hk; exact absurd hk (Nat.not_lt_zero _)
    | succ k2 ih2 =>
      intro i hk2 hi ef ls hl
      refine lv_iload_n hx hb dX3_firstClash_2 rfl (lv_at hl 0 rfl) ?_
      refine lv_bipush (v := 64) hx hb dX3_firstClash_3 (by decide) ?_
      refine lv_icmp_ge (tgt := 24) hx hb dX3_firstClash_5 (by decide) (fun c_1 => ?_) (fun c_1 => ?_)
      · have nc_1 : 64 ≤ i := (nI_leI (a := 64) (b := i) (by omega) (by omega)).mp c_1
        refine lv_iconst (v := (-1)) hx hb dX3_firstClash_24 (by decide) ?_
        exact e_nrm (show (-1) = cFirst v (sp 0) from by rw [← ef, firstN_end (by omega)]) (hret _ _ dX3_firstClash_25)
      · have nc_1 : ¬ 64 ≤ i := fun h => c_1 ((nI_leI (a := 64) (b := i) (by omega) (by omega)).mpr h)
        refine lv_aload_n hx hb dX3_firstClash_8 rfl (lv_at hl 1 rfl) ?_
        refine lv_iload_n hx hb dX3_firstClash_9 rfl (lv_at hl 0 rfl) ?_
        refine e_cV (As := [.int (nI i)]) (rest := []) hx hb hml hown hts 0 (c_X3_clashesAt (l := l) hc i (by omega)) cw_RX3_121 (by decide) (by decide) hz hP hI hK hc.1.1 (by decide) rfl rfl rfl hl.1 rfl (Nat.le_of_ble_eq_true rfl) ⟨Nat.zero_le _, Nat.zero_le _⟩ dX3_firstClash_10 ?_
        refine lv_if_le (tgt := 18) hx hb dX3_firstClash_13 (by decide) (fun c_2 => ?_) (fun c_2 => ?_)
        · have nc_2 : ¬ 0 < (cClash v i (sp 0) (sp 0)) := Int32.not_lt.mpr c_2
          refine lv_iinc (v := (nI (i + 1))) (lv' := [(1, .int (nI (i + 1))), (0, .ref (ad 0))]) hx hb dX3_firstClash_18 hl (k := 0) rfl (nI_add i 1) (by decide) rfl (fun ls hl => ?_)
          refine lv_goto (tgt := 2) hx hb dX3_firstClash_21 (by decide) ?_
          exact ih2 (i + 1) (by omega) (by omega) (by rw [← ef, firstN_step (by omega : i < 64), if_neg (by simpa using nc_2)])  ls (lv_sub hl [0, 1] rfl)
        · have nc_2 : 0 < (cClash v i (sp 0) (sp 0)) := Int32.not_le.mp c_2
          refine lv_iload_n hx hb dX3_firstClash_16 rfl (lv_at hl 0 rfl) ?_
          exact e_nrm (show (nI i) = cFirst v (sp 0) from by rw [← ef, firstN_step (by omega : i < 64), if_pos (by simpa using nc_2)]) (hret _ _ dX3_firstClash_17)
  exact L2 _ 0 (Nat.lt_succ_self _) (Nat.zero_le _) (rfl)  ls (lv_sub hl [0, 1] rfl)

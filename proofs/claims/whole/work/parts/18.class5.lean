theorem aw_366 : Cond.methodLink RX3 152 yX3_stateOf ∈ AW := aw_of (List.mem_of_getElem? (i := 531) (by decide +kernel)) (by decide +kernel)
theorem aw_367 : Cond.instanceMethod yX3_stateOf ∈ AW := aw_of (List.mem_of_getElem? (i := 533) (by decide +kernel)) (by decide +kernel)
theorem aw_368 : Cond.selects RX3 yX3_stateOf yX3_stateOf ∈ AW := aw_of (List.mem_of_getElem? (i := 9) (by decide +kernel)) (by decide +kernel)
set_option maxRecDepth 100000 in
theorem aw_369 : Cond.code yX3_stateOf cX3_stateOf 3 (some .int) ∈ AW := aw_of (List.mem_of_getElem? (i := 534) rfl) (by decide +kernel)
theorem cw_RX3_152 : e_cwV RX3 152 RX3 yX3_stateOf cX3_stateOf 3 (some .int) 1 := ⟨aw_366, aw_367, aw_368, aw_162, aw_369, rfl, by decide +kernel, by decide +kernel, by decide +kernel⟩
theorem aw_371 : Cond.methodLink RX3 77 yX3_isMove ∈ AW := aw_of (List.mem_of_getElem? (i := 425) (by decide +kernel)) (by decide +kernel)
theorem cw_RX3_77 : e_cwS RX3 77 yX3_isMove cX3_isMove 1 (some .boolean) 1 := ⟨aw_371, aw_161, aw_162, aw_163, by decide +kernel, by decide +kernel, by decide +kernel⟩
theorem aw_373 : Cond.methodLink RX3 99 yX2_write ∈ AW := aw_of (List.mem_of_getElem? (i := 445) (by decide +kernel)) (by decide +kernel)
theorem cw_RX3_99 : e_cwV RX3 99 RX2 yX2_write cX2_write 5 none 2 := ⟨aw_373, aw_282, aw_283, aw_158, aw_284, rfl, by decide +kernel, by decide +kernel, by decide +kernel⟩
theorem aw_375 : Cond.methodLink RX3 107 yX0_countsWithMoves ∈ AW := aw_of (List.mem_of_getElem? (i := 449) (by decide +kernel)) (by decide +kernel)
theorem aw_376 : Cond.instanceMethod yX0_countsWithMoves ∈ AW := aw_of (List.mem_of_getElem? (i := 450) (by decide +kernel)) (by decide +kernel)
theorem aw_377 : Cond.selects RX0 yX0_countsWithMoves yX0_countsWithMoves ∈ AW := aw_of (List.mem_of_getElem? (i := 451) (by decide +kernel)) (by decide +kernel)
set_option maxRecDepth 100000 in
theorem aw_378 : Cond.code yX0_countsWithMoves cX0_countsWithMoves 3 (some .int) ∈ AW := aw_of (List.mem_of_getElem? (i := 452) rfl) (by decide +kernel)
theorem cw_RX3_107 : e_cwV RX3 107 RX0 yX0_countsWithMoves cX0_countsWithMoves 3 (some .int) 0 := ⟨aw_375, aw_376, aw_377, aw_175, aw_378, rfl, by decide +kernel, by decide +kernel, by decide +kernel⟩
theorem aw_380 : Cond.methodLink RX3 183 yX3_partsIn ∈ AW := aw_of (List.mem_of_getElem? (i := 622) (by decide +kernel)) (by decide +kernel)
theorem aw_381 : Cond.instanceMethod yX3_partsIn ∈ AW := aw_of (List.mem_of_getElem? (i := 624) (by decide +kernel)) (by decide +kernel)
theorem aw_382 : Cond.selects RX3 yX3_partsIn yX3_partsIn ∈ AW := aw_of (List.mem_of_getElem? (i := 15) (by decide +kernel)) (by decide +kernel)
set_option maxRecDepth 100000 in
theorem aw_383 : Cond.code yX3_partsIn cX3_partsIn 5 (some .int) ∈ AW := aw_of (List.mem_of_getElem? (i := 625) rfl) (by decide +kernel)
theorem cw_RX3_183 : e_cwV RX3 183 RX3 yX3_partsIn cX3_partsIn 5 (some .int) 2 := ⟨aw_380, aw_381, aw_382, aw_162, aw_383, rfl, by decide +kernel, by decide +kernel, by decide +kernel⟩
theorem aw_385 : Cond.methodLink RX3 187 yX3_isAnyBusy ∈ AW := aw_of (List.mem_of_getElem? (i := 635) (by decide +kernel)) (by decide +kernel)
theorem aw_386 : Cond.instanceMethod yX3_isAnyBusy ∈ AW := aw_of (List.mem_of_getElem? (i := 637) (by decide +kernel)) (by decide +kernel)
theorem aw_387 : Cond.selects RX3 yX3_isAnyBusy yX3_isAnyBusy ∈ AW := aw_of (List.mem_of_getElem? (i := 17) (by decide +kernel)) (by decide +kernel)
set_option maxRecDepth 100000 in
theorem aw_388 : Cond.code yX3_isAnyBusy cX3_isAnyBusy 5 (some .boolean) ∈ AW := aw_of (List.mem_of_getElem? (i := 638) rfl) (by decide +kernel)
theorem cw_RX3_187 : e_cwV RX3 187 RX3 yX3_isAnyBusy cX3_isAnyBusy 5 (some .boolean) 2 := ⟨aw_385, aw_386, aw_387, aw_162, aw_388, rfl, by decide +kernel, by decide +kernel, by decide +kernel⟩
theorem aw_390 : Cond.methodLink RX3 192 yX3_canKneesBear ∈ AW := aw_of (List.mem_of_getElem? (i := 640) (by decide +kernel)) (by decide +kernel)
theorem aw_391 : Cond.instanceMethod yX3_canKneesBear ∈ AW := aw_of (List.mem_of_getElem? (i := 642) (by decide +kernel)) (by decide +kernel)
theorem aw_392 : Cond.selects RX3 yX3_canKneesBear yX3_canKneesBear ∈ AW := aw_of (List.mem_of_getElem? (i := 18) (by decide +kernel)) (by decide +kernel)
set_option maxRecDepth 100000 in
theorem aw_393 : Cond.code yX3_canKneesBear cX3_canKneesBear 5 (some .boolean) ∈ AW := aw_of (List.mem_of_getElem? (i := 643) rfl) (by decide +kernel)
theorem cw_RX3_192 : e_cwV RX3 192 RX3 yX3_canKneesBear cX3_canKneesBear 5 (some .boolean) 3 := ⟨aw_390, aw_391, aw_392, aw_162, aw_393, rfl, by decide +kernel, by decide +kernel, by decide +kernel⟩
theorem aw_395 : Cond.methodLink RX3 198 yX3_chargeKnees ∈ AW := aw_of (List.mem_of_getElem? (i := 648) (by decide +kernel)) (by decide +kernel)
theorem aw_396 : Cond.instanceMethod yX3_chargeKnees ∈ AW := aw_of (List.mem_of_getElem? (i := 650) (by decide +kernel)) (by decide +kernel)
theorem aw_397 : Cond.selects RX3 yX3_chargeKnees yX3_chargeKnees ∈ AW := aw_of (List.mem_of_getElem? (i := 19) (by decide +kernel)) (by decide +kernel)
set_option maxRecDepth 100000 in
theorem aw_398 : Cond.code yX3_chargeKnees cX3_chargeKnees 5 none ∈ AW := aw_of (List.mem_of_getElem? (i := 651) rfl) (by decide +kernel)
theorem cw_RX3_198 : e_cwV RX3 198 RX3 yX3_chargeKnees cX3_chargeKnees 5 none 3 := ⟨aw_395, aw_396, aw_397, aw_162, aw_398, rfl, by decide +kernel, by decide +kernel, by decide +kernel⟩
theorem aw_400 : Cond.methodLink RX3 210 yX3_dropLiftsOf ∈ AW := aw_of (List.mem_of_getElem? (i := 673) (by decide +kernel)) (by decide +kernel)
theorem aw_401 : Cond.instanceMethod yX3_dropLiftsOf ∈ AW := aw_of (List.mem_of_getElem? (i := 675) (by decide +kernel)) (by decide +kernel)
theorem aw_402 : Cond.selects RX3 yX3_dropLiftsOf yX3_dropLiftsOf ∈ AW := aw_of (List.mem_of_getElem? (i := 20) (by decide +kernel)) (by decide +kernel)
set_option maxRecDepth 100000 in
theorem aw_403 : Cond.code yX3_dropLiftsOf cX3_dropLiftsOf 4 none ∈ AW := aw_of (List.mem_of_getElem? (i := 676) rfl) (by decide +kernel)
theorem cw_RX3_210 : e_cwV RX3 210 RX3 yX3_dropLiftsOf cX3_dropLiftsOf 4 none 1 := ⟨aw_400, aw_401, aw_402, aw_162, aw_403, rfl, by decide +kernel, by decide +kernel, by decide +kernel⟩
theorem aw_405 : Cond.methodLink RX3 216 yX1_isBy ∈ AW := aw_of (List.mem_of_getElem? (i := 677) (by decide +kernel)) (by decide +kernel)
theorem cw_RX3_216 : e_cwV RX3 216 RX1 yX1_isBy cX1_isBy 2 (some .boolean) 1 := ⟨aw_405, aw_142, aw_143, aw_144, aw_145, rfl, by decide +kernel, by decide +kernel, by decide +kernel⟩
theorem aw_407 : Cond.methodLink RX3 219 yX3_replaceIn ∈ AW := aw_of (List.mem_of_getElem? (i := 678) (by decide +kernel)) (by decide +kernel)
theorem aw_408 : Cond.instanceMethod yX3_replaceIn ∈ AW := aw_of (List.mem_of_getElem? (i := 680) (by decide +kernel)) (by decide +kernel)
theorem aw_409 : Cond.selects RX3 yX3_replaceIn yX3_replaceIn ∈ AW := aw_of (List.mem_of_getElem? (i := 21) (by decide +kernel)) (by decide +kernel)
set_option maxRecDepth 100000 in
theorem aw_410 : Cond.code yX3_replaceIn cX3_replaceIn 7 (some .int) ∈ AW := aw_of (List.mem_of_getElem? (i := 681) rfl) (by decide +kernel)
theorem cw_RX3_219 : e_cwV RX3 219 RX3 yX3_replaceIn cX3_replaceIn 7 (some .int) 2 := ⟨aw_407, aw_408, aw_409, aw_162, aw_410, rfl, by decide +kernel, by decide +kernel, by decide +kernel⟩
set_option maxRecDepth 100000 in
set_option maxHeartbeats 4000000 in
theorem c_X3_ofLift {l : Launch} (hl9 : l.stackTraces = false) {X : eD} {z0 : Nat} {ad kd sp : Nat → Nat} {v : eV} (hc : cK kd sp) (hcv : cI sp v) (i0 x : Int32) : eTh l yX3_ofLift cX3_ofLift 4 (some .int) 10 60 2000 [.ref (ad 0), .int i0, .int x] X z0 ad kd sp v (some (.int (cOfLiftV v (sp 1) i0 x))) v (cOfLiftC (sp 1) i0 x = 0) (xP [(xIO, 1), (xIA, 2)] (cOfLiftC (sp 1) i0 x)) := by
  refine e_thrI (by decide +kernel) (Nat.le_of_ble_eq_true rfl) ?_
  intro p e s m args below meth c hx hb hml hown hts hW hT hex hlocks Q hQ hret ls hl
  obtain ⟨hz, hP, hI, hK⟩ := hW
  have hl : lv_has ls 4 [(0, .ref (ad 0)), (1, .int i0), (2, .int x)] := hl
  have hS : va_S (e_A z0) s.heap s.heap [] := va_S.rf
  have hc0 := hc.2.2.2.2.2
  have hs8 := hc0.1
  have hs12 := hc0.2.1
  have hq2 := hc0.2.2.1
  have hq3 := hc0.2.2.2.1
  have hq4 := hc0.2.2.2.2.1
  have hq5 := hc0.2.2.2.2.2.1
  have hq6 := hc0.2.2.2.2.2.2.1
  have hq7 := hc0.2.2.2.2.2.2.2
  refine lv_iload_n hx hb dX3_ofLift_0 rfl (lv_at hl 1 rfl) ?_
  refine lv_if_lt (tgt := 15) hx hb dX3_ofLift_1 (by decide) (fun c_1 => ?_) (fun c_1 => ?_)
  · skip
    exact e_throw (text := "no such lift") hQ hx hb hml hl9 hown hts hT hex hlocks hP hS tw_IO (by decide +kernel) (⟨1, .head _, by first | (simp [cOfLiftC, cOkN, c_1]; done) | (simp_all [cOfLiftC, cOkN]; done)⟩) hl.1 (by decide) (Nat.le_of_ble_eq_true rfl) (by decide) (by decide) (by decide) (by decide) dX3_ofLift_15 dX3_ofLift_18 dX3_ofLift_19 dX3_ofLift_21 dX3_ofLift_24
  · skip
    refine lv_iload_n hx hb dX3_ofLift_4 rfl (lv_at hl 1 rfl) ?_
    refine lv_aload_n hx hb dX3_ofLift_5 rfl (lv_at hl 0 rfl) ?_
    refine e_getf hx hb hts inX3 hown hK hP 0 5 hc.1.1 (by decide) rfl rfl 1 (by decide) aw_222 (fun _ h => h) rfl dX3_ofLift_6 ?_
    refine e_cV (As := []) (rest := [.int i0]) hx hb hml hown hts 2 (c_Jx4a65c_size_8abf5_2 (l := l) hc) cw_RX3_46 (by decide) (by decide) hz hP hI hK hc.1.2.2.1 (by decide) rfl rfl rfl hl.1 rfl (Nat.le_of_ble_eq_true rfl) ⟨by decide, by decide⟩ dX3_ofLift_9 ?_
    refine lv_icmp_lt (tgt := 25) hx hb dX3_ofLift_12 (by decide) (fun c_2 => ?_) (fun c_2 => ?_)
    · skip
      refine lv_iload_n hx hb dX3_ofLift_25 rfl (lv_at hl 2 rfl) ?_
      refine lv_if_lt (tgt := 34) hx hb dX3_ofLift_26 (by decide) (fun c_3 => ?_) (fun c_3 => ?_)
      · skip
        exact e_throw (text := "nothing of a lift") hQ hx hb hml hl9 hown hts hT hex hlocks hP hS tw_IA (by decide +kernel) (⟨2, .tail _ (.head _), by first | (simp [cOfLiftC, cOkN, c_1, c_2, c_3]; done) | (simp_all [cOfLiftC, cOkN]; done)⟩) hl.1 (by decide) (Nat.le_of_ble_eq_true rfl) (by decide) (by decide) (by decide) (by decide) dX3_ofLift_34 dX3_ofLift_37 dX3_ofLift_38 dX3_ofLift_40 dX3_ofLift_43
      · skip
        refine lv_iload_n hx hb dX3_ofLift_29 rfl (lv_at hl 2 rfl) ?_
        refine lv_iconst (v := 5) hx hb dX3_ofLift_30 (by decide) ?_
        refine lv_icmp_lt (tgt := 44) hx hb dX3_ofLift_31 (by decide) (fun c_4 => ?_) (fun c_4 => ?_)
        · skip
          obtain ⟨i, hi, ei⟩ := cOkN_nat (n := sp 1) (d := i0) (by omega) (by simp [cOkN, c_1, c_2, c_3, c_4])
          have ni := nN_of ei (by omega)
          obtain ⟨w, hw, ew⟩ := cOkN_nat (n := 5) (d := x) (by omega) (by simp [cOkN, nl5, c_1, c_2, c_3, c_4])
          have hC : cOfLiftC (sp 1) i0 x = 0 := by simp [cOfLiftC, cOkN, c_1, c_2, c_3, c_4]
          refine lv_aload_n hx hb dX3_ofLift_44 rfl (lv_at hl 0 rfl) ?_
          refine e_getf hx hb hts inX3 hown hK hP 0 5 hc.1.1 (by decide) rfl rfl 1 (by decide) aw_222 (fun _ h => h) rfl dX3_ofLift_45 ?_
          refine lv_iload_n hx hb dX3_ofLift_48 rfl (lv_at hl 1 rfl) ?_
          refine e_nrm (y := nI i) ei ?_
          refine e_cV (As := [.int (nI i)]) (rest := []) hx hb hml hown hts 2 (c_Jx4a65c_get_915e3_2 (l := l) hc i (by omega)) cw_RX3_85 (by decide) (by decide) hz hP hI hK hc.1.2.2.1 (by decide) rfl rfl rfl hl.1 rfl (Nat.le_of_ble_eq_true rfl) ⟨by decide, by decide⟩ dX3_ofLift_49 ?_
          refine e_cast hx hb hts hown hK hP (80 + i) 4 (hc.2.2.2.2.1 i (by omega)) (by decide) rfl rfl aw_223 dX3_ofLift_52 ?_
          refine lv_astore_n (lv' := [(3, .ref (ad (80 + i))), (0, .ref (ad 0)), (1, .int i0), (2, .int x)]) hx hb dX3_ofLift_55 rfl hl (by decide) rfl (fun ls hl => ?_)
          refine lv_iload_n hx hb dX3_ofLift_56 rfl (lv_at hl 3 rfl) ?_
          refine e_nrm (y := nI w) ew ?_
          rcases (show w = 0 ∨ w = 1 ∨ w = 2 ∨ w = 3 ∨ w = 4 by omega) with hk | hk | hk | hk | hk
          · refine e_nrm (show nI w = nI 0 by rw [hk]) ?_
            have hx0 : x = 0 := by rw [ew, hk]; rfl
            refine lv_tableIn (off := 31) (tgt := 88) hx hb dX3_ofLift_57 (by decide) (by decide) rfl (by decide) ?_
            refine lv_aload_n hx hb dX3_ofLift_88 rfl (lv_at hl 0 rfl) ?_
            refine e_getf hx hb hts inX1 hown hK hP (80 + i) 4 (hc.2.2.2.2.1 i (by omega)) (by decide) rfl rfl 0 (by decide) aw_225 (fun _ h => h) rfl dX3_ofLift_89 ?_
            exact hret _ _ _ _ _ _ _ _ (show (v (80 + i) 0) = cOfLiftV v (sp 1) i0 x from (by first | (simp [cOfLiftV, bI, ni, eq_true hx0]; done) | (exfalso; simp_all; done))) (show v = v from rfl) hC (by decide) (by decide) hP hS dX3_ofLift_92
          · refine e_nrm (show nI w = nI 1 by rw [hk]) ?_
            have hx0 : ¬ x = 0 := by rw [ew, hk]; decide
            have hx1 : x = 1 := by rw [ew, hk]; rfl
            refine lv_tableIn (off := 36) (tgt := 93) hx hb dX3_ofLift_57 (by decide) (by decide) rfl (by decide) ?_
            refine lv_aload_n hx hb dX3_ofLift_93 rfl (lv_at hl 0 rfl) ?_
            refine e_getf hx hb hts inX1 hown hK hP (80 + i) 4 (hc.2.2.2.2.1 i (by omega)) (by decide) rfl rfl 1 (by decide) aw_241 (fun _ h => h) rfl dX3_ofLift_94 ?_
            exact hret _ _ _ _ _ _ _ _ (show (v (80 + i) 1) = cOfLiftV v (sp 1) i0 x from (by first | (simp [cOfLiftV, bI, ni, hx0, eq_true hx1]; done) | (exfalso; simp_all; done))) (show v = v from rfl) hC (by decide) (by decide) hP hS dX3_ofLift_97
          · refine e_nrm (show nI w = nI 2 by rw [hk]) ?_
            have hx0 : ¬ x = 0 := by rw [ew, hk]; decide
            have hx1 : ¬ x = 1 := by rw [ew, hk]; decide
            have hx2 : x = 2 := by rw [ew, hk]; rfl
            refine lv_tableIn (off := 41) (tgt := 98) hx hb dX3_ofLift_57 (by decide) (by decide) rfl (by decide) ?_
            refine lv_aload_n hx hb dX3_ofLift_98 rfl (lv_at hl 0 rfl) ?_
            refine e_getf hx hb hts inX1 hown hK hP (80 + i) 4 (hc.2.2.2.2.1 i (by omega)) (by decide) rfl rfl 2 (by decide) aw_252 (fun _ h => h) rfl dX3_ofLift_99 ?_
            exact hret _ _ _ _ _ _ _ _ (show (v (80 + i) 2) = cOfLiftV v (sp 1) i0 x from (by first | (simp [cOfLiftV, bI, ni, hx0, hx1, eq_true hx2]; done) | (exfalso; simp_all; done))) (show v = v from rfl) hC (by decide) (by decide) hP hS dX3_ofLift_102
          · refine e_nrm (show nI w = nI 3 by rw [hk]) ?_
            have hx0 : ¬ x = 0 := by rw [ew, hk]; decide
            have hx1 : ¬ x = 1 := by rw [ew, hk]; decide
            have hx2 : ¬ x = 2 := by rw [ew, hk]; decide
            have hx3 : x = 3 := by rw [ew, hk]; rfl
            refine lv_tableIn (off := 46) (tgt := 103) hx hb dX3_ofLift_57 (by decide) (by decide) rfl (by decide) ?_
            refine lv_aload_n hx hb dX3_ofLift_103 rfl (lv_at hl 0 rfl) ?_
            refine e_getf hx hb hts inX1 hown hK hP (80 + i) 4 (hc.2.2.2.2.1 i (by omega)) (by decide) rfl rfl 3 (by decide) aw_253 (fun _ h => h) rfl dX3_ofLift_104 ?_
            exact hret _ _ _ _ _ _ _ _ (show (v (80 + i) 3) = cOfLiftV v (sp 1) i0 x from (by first | (simp [cOfLiftV, bI, ni, hx0, hx1, hx2, eq_true hx3]; done) | (exfalso; simp_all; done))) (show v = v from rfl) hC (by decide) (by decide) hP hS dX3_ofLift_107
          · refine e_nrm (show nI w = nI 4 by rw [hk]) ?_
            have hx0 : ¬ x = 0 := by rw [ew, hk]; decide
            have hx1 : ¬ x = 1 := by rw [ew, hk]; decide
            have hx2 : ¬ x = 2 := by rw [ew, hk]; decide
            have hx3 : ¬ x = 3 := by rw [ew, hk]; decide
            refine lv_tableOut (tgt := 108) hx hb dX3_ofLift_57 (Or.inr (by decide)) (by decide) ?_
            obtain ⟨c0, hc0, ec⟩ := hcv.2.1 i (by omega)
            have nc0 := nN_of ec (by omega)
            obtain ⟨dl, hdl, el⟩ := hcv.2.2.1 i (by omega)
            have ndl := nN_of el (by omega)
            obtain ⟨da, hda, ea⟩ := hcv.2.2.2.1 i (by omega)
            have nda := nN_of ea (by omega)
            obtain ⟨db, hdb, eb⟩ := hcv.2.2.2.2 i (by omega)
            have ndb := nN_of eb (by omega)
            refine lv_aload_n hx hb dX3_ofLift_108 rfl (lv_at hl 1 rfl) ?_
            refine lv_aload_n hx hb dX3_ofLift_109 rfl (lv_at hl 0 rfl) ?_
            refine e_cV (As := [.ref (ad (80 + i))]) (rest := []) hx hb hml hown hts 0 (c_X3_stateOf (l := l) hc hcv i c0 dl da db (by omega) (by omega) (by omega) (by omega) (by omega) ec el ea eb) cw_RX3_152 (by decide) (by decide) hz hP hI hK hc.1.1 (by decide) rfl rfl rfl hl.1 rfl (Nat.le_of_ble_eq_true rfl) ⟨by decide, by decide⟩ dX3_ofLift_110 ?_
            exact hret _ _ _ _ _ _ _ _ (show (cState v i c0 dl da db (sp 1)) = cOfLiftV v (sp 1) i0 x from (by first | (simp [cOfLiftV, bI, ni, hx0, hx1, hx2, hx3, nc0, ndl, nda, ndb]; done) | (exfalso; simp_all; done))) (show v = v from rfl) hC (by decide) (by decide) hP hS dX3_ofLift_113
        · skip
          exact e_throw (text := "nothing of a lift") hQ hx hb hml hl9 hown hts hT hex hlocks hP hS tw_IA (by decide +kernel) (⟨2, .tail _ (.head _), by first | (simp [cOfLiftC, cOkN, c_1, c_2, c_3, c_4]; done) | (simp_all [cOfLiftC, cOkN]; done)⟩) hl.1 (by decide) (Nat.le_of_ble_eq_true rfl) (by decide) (by decide) (by decide) (by decide) dX3_ofLift_34 dX3_ofLift_37 dX3_ofLift_38 dX3_ofLift_40 dX3_ofLift_43
    · skip
      exact e_throw (text := "no such lift") hQ hx hb hml hl9 hown hts hT hex hlocks hP hS tw_IO (by decide +kernel) (⟨1, .head _, by first | (simp [cOfLiftC, cOkN, c_1, c_2]; done) | (simp_all [cOfLiftC, cOkN]; done)⟩) hl.1 (by decide) (Nat.le_of_ble_eq_true rfl) (by decide) (by decide) (by decide) (by decide) dX3_ofLift_15 dX3_ofLift_18 dX3_ofLift_19 dX3_ofLift_21 dX3_ofLift_24

set_option maxRecDepth 100000 in
set_option maxHeartbeats 4000000 in
theorem c_X3_move {l : Launch} (hl9 : l.stackTraces = false) {X : eD} {z0 : Nat} {ad kd sp : Nat → Nat} {v : eV} (hc : cK kd sp) (hcv : cI sp v) (d c0 x y : Int32) : eTh l yX3_move cX3_move 6 (some .int) 8 60 2000 [.ref (ad 0), .int d, .int c0, .int x, .int y] X z0 ad kd sp v (some (.int (cCount (cMoveS v (nN d) (nN c0) x y) (20 + 7 * nN d) 64))) (cMoveS v (nN d) (nN c0) x y) (cMoveC v (sp 0) d c0 x y = 0) (xP [(xIO, 1), (xIA, 2), (xIS, 3)] (cMoveC v (sp 0) d c0 x y)) := by
  refine e_thrI (by decide +kernel) (Nat.le_of_ble_eq_true rfl) ?_
  intro p e s m args below meth c hx hb hml hown hts hW hT hex hlocks Q hQ hret ls hl
  obtain ⟨hz, hP, hI, hK⟩ := hW
  have hl : lv_has ls 6 [(0, .ref (ad 0)), (1, .int d), (2, .int c0), (3, .int x), (4, .int y)] := hl
  have hS : va_S (e_A z0) s.heap s.heap [] := va_S.rf
  have hc0 := hc.2.2.2.2.2
  have hs8 := hc0.1
  have hs12 := hc0.2.1
  have hq2 := hc0.2.2.1
  have hq3 := hc0.2.2.2.1
  have hq4 := hc0.2.2.2.2.1
  have hq5 := hc0.2.2.2.2.2.1
  have hq6 := hc0.2.2.2.2.2.2.1
  have hq7 := hc0.2.2.2.2.2.2.2
  refine lv_aload_n hx hb dX3_move_0 rfl (lv_at hl 0 rfl) ?_
  refine lv_iload_n hx hb dX3_move_1 rfl (lv_at hl 1 rfl) ?_
  refine e_cVX (As := [.int d]) (rest := []) hQ hex hlocks (fun E h => ⟨1, by rw [h.1]; exact .head _, by simp [cMoveC, h.2]⟩) hx hb hml hown hts hT 0 (c_X3_needDancer (l := l) hl9 hc d) cw_RX3_70 (by decide) (by decide) hz hP hI hK hS hc.1.1 (by decide) rfl rfl rfl hl.1 rfl (Nat.le_of_ble_eq_true rfl) ⟨by decide, by decide⟩ (by decide) (by decide) dX3_move_2 (fun H locs g_1 hz hP hS => ?_)
  obtain ⟨d_2, hd_2, ed_2⟩ := cOkN_nat (by omega) g_1
  have nd_2 := nN_of ed_2 (by omega)
  refine lv_iload_n hx hb dX3_move_5 rfl (lv_at hl 2 rfl) ?_
  refine e_cSX (As := [.int c0]) (rest := []) hQ hex hlocks (fun E h => ⟨1, by rw [h.1]; exact .head _, by simp [cMoveC, h.2, g_1, nd_2]⟩) hx hb hml hown hts hT (c_X3_needCount (l := l) hl9 c0) cw_RX3_74 (by decide) (by decide) hz hP hI hK hS rfl hl.1 rfl (Nat.le_of_ble_eq_true rfl) ⟨by decide, by decide⟩ (by decide) (by decide) dX3_move_6 (fun H locs g_3 hz hP hS => ?_)
  obtain ⟨c_4, hc_4, ec_4⟩ := cOkC_nat g_3
  have nc_4 := nN_of ec_4 (by omega)
  refine lv_iload_n hx hb dX3_move_9 rfl (lv_at hl 3 rfl) ?_
  refine e_cS (As := [.int x]) (rest := []) hx hb hml hown hts (c_X3_isMove (l := l) x) cw_RX3_77 (by decide) (by decide) hz hP hI hK rfl hl.1 rfl (Nat.le_of_ble_eq_true rfl) ⟨by decide, by decide⟩ dX3_move_10 ?_
  refine lv_if_eq (tgt := 24) hx hb dX3_move_13 (by decide) (fun c_5 => ?_) (fun c_5 => ?_)
  · have nc_5 : (mIn x (-2) 2) = false := bI_0.mp c_5
    exact e_throw (text := "too far for a move") hQ hx hb hml hl9 hown hts hT hex hlocks hP hS tw_IA (by decide +kernel) (⟨2, .tail _ (.head _), by first | (simp [cMoveC, g_1, nd_2, g_3, nc_4, nc_5]; done) | (simp_all [cMoveC]; done)⟩) hl.1 (by decide) (Nat.le_of_ble_eq_true rfl) (by decide) (by decide) (by decide) (by decide) dX3_move_24 dX3_move_27 dX3_move_28 dX3_move_30 dX3_move_33
  · have nc_5 : (mIn x (-2) 2) = true := bI_n0.mp c_5
    refine lv_iload hx hb dX3_move_16 (lv_at hl 4 rfl) ?_
    refine e_cS (As := [.int y]) (rest := []) hx hb hml hown hts (c_X3_isMove (l := l) y) cw_RX3_77 (by decide) (by decide) hz hP hI hK rfl hl.1 rfl (Nat.le_of_ble_eq_true rfl) ⟨by decide, by decide⟩ dX3_move_18 ?_
    refine lv_if_ne (tgt := 34) hx hb dX3_move_21 (by decide) (fun c_6 => ?_) (fun c_6 => ?_)
    · have nc_6 : (mIn y (-2) 2) = true := bI_n0.mp c_6
      refine lv_aload_n hx hb dX3_move_34 rfl (lv_at hl 0 rfl) ?_
      refine e_getf hx hb hts inX3 hown hK hP 0 5 hc.1.1 (by decide) rfl rfl 0 (by decide) aw_194 (fun _ h => h) rfl dX3_move_35 ?_
      refine lv_iload_n hx hb dX3_move_38 rfl (lv_at hl 1 rfl) ?_
      refine e_nrm (y := nI d_2) ed_2 ?_
      refine e_cV (As := [.int (nI d_2)]) (rest := []) hx hb hml hown hts 1 (c_Jx4a65c_get_915e3_1 (l := l) hc d_2 (by omega)) cw_RX3_85 (by decide) (by decide) hz hP hI hK hc.1.2.1 (by decide) rfl rfl rfl hl.1 rfl (Nat.le_of_ble_eq_true rfl) ⟨by decide, by decide⟩ dX3_move_39 ?_
      refine e_cast hx hb hts hown hK hP (20 + 7 * d_2) 1 (((hc.2.2.2.1 d_2 (by omega))).1) (by decide) rfl rfl aw_200 dX3_move_42 ?_
      refine lv_astore (lv' := [(5, .ref (ad (20 + 7 * d_2))), (0, .ref (ad 0)), (1, .int d), (2, .int c0), (3, .int x), (4, .int y)]) hx hb dX3_move_45 hl (by decide) rfl (fun ls hl => ?_)
      refine lv_aload hx hb dX3_move_47 (lv_at hl 0 rfl) ?_
      refine e_getf hx hb hts inX0 hown hK hP (20 + 7 * d_2) 1 (((hc.2.2.2.1 d_2 (by omega))).1) (by decide) rfl rfl 3 (by decide) aw_201 (fun _ h => h) rfl dX3_move_49 ?_
      refine e_nrm (y := bI (cOut v d_2)) (cOut_b hcv (by omega)) ?_
      refine lv_if_eq (tgt := 65) hx hb dX3_move_52 (by decide) (fun c_7 => ?_) (fun c_7 => ?_)
      · have nc_7 : (cOut v d_2) = false := bI_0.mp c_7
        refine lv_aload hx hb dX3_move_65 (lv_at hl 0 rfl) ?_
        refine e_getf hx hb hts inX0 hown hK hP (20 + 7 * d_2) 1 (((hc.2.2.2.1 d_2 (by omega))).1) (by decide) rfl rfl 0 (by decide) aw_207 (fun _ h => h) rfl dX3_move_67 ?_
        refine lv_iload_n hx hb dX3_move_70 rfl (lv_at hl 3 rfl) ?_
        refine e_nrm (y := nI c_4) ec_4 ?_
        refine lv_iload_n hx hb dX3_move_71 rfl (lv_at hl 4 rfl) ?_
        refine e_cVM (As := [.int (nI c_4), .int x]) (rest := []) hx hb hml hown hts ((20 + 7 * d_2) + 1) (c_X2_write (l := l) ((20 + 7 * d_2) + 1) (((hc.2.2.2.1 d_2 (by omega))).2.1) c_4 x (by omega)) cw_RX3_99 (by decide) (by decide) hz hP hI hK hS ((((hc.2.2.2.1 d_2 (by omega))).2.1).1) (by decide) rfl rfl rfl hl.1 rfl (Nat.le_of_ble_eq_true rfl) ⟨by decide, by decide⟩ dX3_move_72 (fun H locs hz hP hS => ?_)
        refine lv_aload hx hb dX3_move_75 (lv_at hl 0 rfl) ?_
        refine e_getf hx hb hts inX0 hown hK hP (20 + 7 * d_2) 1 (((hc.2.2.2.1 d_2 (by omega))).1) (by decide) rfl rfl 1 (by decide) aw_209 (fun _ h => h) rfl dX3_move_77 ?_
        refine lv_iload_n hx hb dX3_move_80 rfl (lv_at hl 3 rfl) ?_
        refine e_nrm (y := nI c_4) ec_4 ?_
        refine lv_iload hx hb dX3_move_81 (lv_at hl 5 rfl) ?_
        refine e_cVM (As := [.int (nI c_4), .int y]) (rest := []) hx hb hml hown hts ((20 + 7 * d_2) + 4) (c_X2_write (l := l) (v := (cWrite v ((20 + 7 * d_2) + 1) c_4 x)) ((20 + 7 * d_2) + 4) (((hc.2.2.2.1 d_2 (by omega))).2.2) c_4 y (by omega)) cw_RX3_99 (by decide) (by decide) hz hP hI hK hS ((((hc.2.2.2.1 d_2 (by omega))).2.2).1) (by decide) rfl rfl rfl hl.1 rfl (Nat.le_of_ble_eq_true rfl) ⟨by decide, by decide⟩ dX3_move_83 (fun H locs hz hP hS => ?_)
        refine lv_aload hx hb dX3_move_86 (lv_at hl 0 rfl) ?_
        refine e_cV (As := []) (rest := []) hx hb hml hown hts (20 + 7 * d_2) (c_X0_countsWithMoves (l := l) (v := (cWrite (cWrite v ((20 + 7 * d_2) + 1) c_4 x) ((20 + 7 * d_2) + 4) c_4 y)) (20 + 7 * d_2) (hc.2.2.2.1 d_2 (by omega))) cw_RX3_107 (by decide) (by decide) hz hP hI hK (((hc.2.2.2.1 d_2 (by omega))).1) (by decide) rfl rfl rfl hl.1 rfl (Nat.le_of_ble_eq_true rfl) ⟨by decide, by decide⟩ dX3_move_88 ?_
        exact hret _ _ _ _ _ _ _ _ (show (cCount (cWrite (cWrite v ((20 + 7 * d_2) + 1) c_4 x) ((20 + 7 * d_2) + 4) c_4 y) (20 + 7 * d_2) 64) = cCount (cMoveS v (nN d) (nN c0) x y) (20 + 7 * nN d) 64 from (by first | (simp [cMoveS, bI, g_1, nd_2, g_3, nc_4, nc_5, nc_6, nc_7]; done) | (exfalso; simp_all; done))) (show (cWrite (cWrite v ((20 + 7 * d_2) + 1) c_4 x) ((20 + 7 * d_2) + 4) c_4 y) = cMoveS v (nN d) (nN c0) x y from (by first | (simp [cMoveS, bI, g_1, nd_2, g_3, nc_4, nc_5, nc_6, nc_7]; done) | (exfalso; simp_all; done))) (by first | (simp [cMoveC, g_1, nd_2, g_3, nc_4, nc_5, nc_6, nc_7]; done) | (simp_all [cMoveC]; done)) (by decide) (by decide) hP hS dX3_move_91
      · have nc_7 : (cOut v d_2) = true := bI_n0.mp c_7
        exact e_throw (text := "written out") hQ hx hb hml hl9 hown hts hT hex hlocks hP hS tw_IS (by decide +kernel) (⟨3, .tail _ (.tail _ (.head _)), by first | (simp [cMoveC, g_1, nd_2, g_3, nc_4, nc_5, nc_6, nc_7]; done) | (simp_all [cMoveC]; done)⟩) hl.1 (by decide) (Nat.le_of_ble_eq_true rfl) (by decide) (by decide) (by decide) (by decide) dX3_move_55 dX3_move_58 dX3_move_59 dX3_move_61 dX3_move_64
    · have nc_6 : (mIn y (-2) 2) = false := bI_0.mp c_6
      exact e_throw (text := "too far for a move") hQ hx hb hml hl9 hown hts hT hex hlocks hP hS tw_IA (by decide +kernel) (⟨2, .tail _ (.head _), by first | (simp [cMoveC, g_1, nd_2, g_3, nc_4, nc_5, nc_6]; done) | (simp_all [cMoveC]; done)⟩) hl.1 (by decide) (Nat.le_of_ble_eq_true rfl) (by decide) (by decide) (by decide) (by decide) dX3_move_24 dX3_move_27 dX3_move_28 dX3_move_30 dX3_move_33

set_option maxRecDepth 100000 in
set_option maxHeartbeats 4000000 in
theorem c_X3_rehearse {l : Launch} (hl9 : l.stackTraces = false) {X : eD} {z0 : Nat} {ad kd sp : Nat → Nat} {v : eV} (hc : cK kd sp) (hcv : cI sp v) (r h a b : Int32) : eTh l yX3_rehearse cX3_rehearse 6 (some .int) 10 60 2000 [.ref (ad 0), .int r, .int h, .int a, .int b] X z0 ad kd sp v (some (.int (cParts v (sp 1) (nN a) (nN b) (sp 0)))) (cRehS v (sp 0) (sp 1) (nN r) (nN h) (nN a) (nN b)) (cRehC v (sp 0) (sp 1) r h a b = 0) (xP [(xIO, 1), (xIA, 2), (xIS, 3)] (cRehC v (sp 0) (sp 1) r h a b)) := by
  refine e_thrI (by decide +kernel) (Nat.le_of_ble_eq_true rfl) ?_
  intro p e s m args below meth c hx hb hml hown hts hW hT hex hlocks Q hQ hret ls hl
  obtain ⟨hz, hP, hI, hK⟩ := hW
  have hl : lv_has ls 6 [(0, .ref (ad 0)), (1, .int r), (2, .int h), (3, .int a), (4, .int b)] := hl
  have hS : va_S (e_A z0) s.heap s.heap [] := va_S.rf
  have hc0 := hc.2.2.2.2.2
  have hs8 := hc0.1
  have hs12 := hc0.2.1
  have hq2 := hc0.2.2.1
  have hq3 := hc0.2.2.2.1
  have hq4 := hc0.2.2.2.2.1
  have hq5 := hc0.2.2.2.2.2.1
  have hq6 := hc0.2.2.2.2.2.2.1
  have hq7 := hc0.2.2.2.2.2.2.2
  refine lv_iload_n hx hb dX3_rehearse_0 rfl (lv_at hl 1 rfl) ?_
  refine e_cSX (As := [.int r]) (rest := []) hQ hex hlocks (fun E h => ⟨1, by rw [h.1]; exact .head _, by simp [cRehC, cRehB, h.2]⟩) hx hb hml hown hts hT (c_X3_needRoom (l := l) hl9 r) cw_RX3_173 (by decide) (by decide) hz hP hI hK hS rfl hl.1 rfl (Nat.le_of_ble_eq_true rfl) ⟨by decide, by decide⟩ (by decide) (by decide) dX3_rehearse_1 (fun H locs g_1 hz hP hS => ?_)
  obtain ⟨r_2, hr_2, er_2⟩ := cOkR_nat g_1
  have nr_2 := nN_of er_2 (by omega)
  refine lv_iload_n hx hb dX3_rehearse_4 rfl (lv_at hl 2 rfl) ?_
  refine e_cSX (As := [.int h]) (rest := []) hQ hex hlocks (fun E h => ⟨1, by rw [h.1]; exact .head _, by simp [cRehC, cRehB, h.2, g_1, nr_2]⟩) hx hb hml hown hts hT (c_X3_needHour (l := l) hl9 h) cw_RX3_176 (by decide) (by decide) hz hP hI hK hS rfl hl.1 rfl (Nat.le_of_ble_eq_true rfl) ⟨by decide, by decide⟩ (by decide) (by decide) dX3_rehearse_5 (fun H locs g_3 hz hP hS => ?_)
  obtain ⟨h_4, hh_4, eh_4⟩ := cOkH_nat g_3
  have nh_4 := nN_of eh_4 (by omega)
  refine lv_iload_n hx hb dX3_rehearse_8 rfl (lv_at hl 3 rfl) ?_
  refine e_cSX (As := [.int a]) (rest := []) hQ hex hlocks (fun E h => ⟨1, by rw [h.1]; exact .head _, by simp [cRehC, cRehB, h.2, g_1, nr_2, g_3, nh_4]⟩) hx hb hml hown hts hT (c_X3_needCount (l := l) hl9 a) cw_RX3_74 (by decide) (by decide) hz hP hI hK hS rfl hl.1 rfl (Nat.le_of_ble_eq_true rfl) ⟨by decide, by decide⟩ (by decide) (by decide) dX3_rehearse_9 (fun H locs g_5 hz hP hS => ?_)
  obtain ⟨c_6, hc_6, ec_6⟩ := cOkC_nat g_5
  have nc_6 := nN_of ec_6 (by omega)
  refine lv_iload hx hb dX3_rehearse_12 (lv_at hl 4 rfl) ?_
  refine e_cSX (As := [.int b]) (rest := []) hQ hex hlocks (fun E h => ⟨1, by rw [h.1]; exact .head _, by simp [cRehC, cRehB, h.2, g_1, nr_2, g_3, nh_4, g_5, nc_6]⟩) hx hb hml hown hts hT (c_X3_needCount (l := l) hl9 b) cw_RX3_74 (by decide) (by decide) hz hP hI hK hS rfl hl.1 rfl (Nat.le_of_ble_eq_true rfl) ⟨by decide, by decide⟩ (by decide) (by decide) dX3_rehearse_14 (fun H locs g_7 hz hP hS => ?_)
  obtain ⟨c_8, hc_8, ec_8⟩ := cOkC_nat g_7
  have nc_8 := nN_of ec_8 (by omega)
  refine lv_iload hx hb dX3_rehearse_17 (lv_at hl 4 rfl) ?_
  refine e_nrm (y := nI c_8) ec_8 ?_
  refine lv_iload_n hx hb dX3_rehearse_19 rfl (lv_at hl 3 rfl) ?_
  refine e_nrm (y := nI c_6) ec_6 ?_
  refine lv_icmp_ge (tgt := 33) hx hb dX3_rehearse_20 (by decide) (fun c_9 => ?_) (fun c_9 => ?_)
  · have nc_9 : c_6 ≤ c_8 := (nI_leI (a := c_6) (b := c_8) (by omega) (by omega)).mp c_9
    have q9 : ¬ b < a := by rw [ec_6, ec_8]; exact nI_nlt nc_9 (by omega)
    refine lv_aload_n hx hb dX3_rehearse_33 rfl (lv_at hl 0 rfl) ?_
    refine e_getf hx hb hts inX3 hown hK hP 0 5 hc.1.1 (by decide) rfl rfl 3 (by decide) aw_270 (fun _ h => h) rfl dX3_rehearse_34 ?_
    refine lv_iload_n hx hb dX3_rehearse_37 rfl (lv_at hl 1 rfl) ?_
    refine e_nrm (y := nI r_2) er_2 ?_
    refine e_aald hx hb hK hP 4 10 hc.1.2.2.2.2.1 (by decide) rfl 2 rfl (Or.inr rfl) r_2 rfl (by omega) (by omega) (if_pos (by omega)) dX3_rehearse_38 ?_
    refine lv_iload_n hx hb dX3_rehearse_39 rfl (lv_at hl 2 rfl) ?_
    refine e_nrm (y := nI h_4) eh_4 ?_
    refine lv_bipush (v := 8) hx hb dX3_rehearse_40 (by decide) ?_
    refine lv_isub hx hb dX3_rehearse_42 ?_
    refine e_nrm (y := (nI (h_4 - 8))) (pk_sub (a := h_4) (b := 8) (by omega)) ?_
    refine e_iald hx hb hK hP (5 + r_2) 13 (cK_rows hc (by omega : r_2 < 3)) (h_4 - 8) rfl (by omega) (by decide) dX3_rehearse_43 ?_
    refine lv_iconst (v := (-1)) hx hb dX3_rehearse_44 (by decide) ?_
    refine lv_icmp_eq (tgt := 58) hx hb dX3_rehearse_45 (by decide) (fun c_10 => ?_) (fun c_10 => ?_)
    · skip
      refine lv_aload_n hx hb dX3_rehearse_58 rfl (lv_at hl 0 rfl) ?_
      refine lv_iload_n hx hb dX3_rehearse_59 rfl (lv_at hl 3 rfl) ?_
      refine e_nrm (y := nI c_6) ec_6 ?_
      refine lv_iload hx hb dX3_rehearse_60 (lv_at hl 4 rfl) ?_
      refine e_nrm (y := nI c_8) ec_8 ?_
      refine e_cV (As := [.int (nI c_6), .int (nI c_8)]) (rest := []) hx hb hml hown hts 0 (c_X3_partsIn (l := l) hc hcv c_6 c_8 (by omega) (by omega)) cw_RX3_183 (by decide) (by decide) hz hP hI hK hc.1.1 (by decide) rfl rfl rfl hl.1 rfl (Nat.le_of_ble_eq_true rfl) ⟨by decide, by decide⟩ dX3_rehearse_62 ?_
      refine lv_istore (lv' := [(5, .int (cParts v (sp 1) c_6 c_8 (sp 0))), (0, .ref (ad 0)), (1, .int r), (2, .int h), (3, .int a), (4, .int b)]) hx hb dX3_rehearse_65 hl (by decide) rfl (fun ls hl => ?_)
      refine lv_aload_n hx hb dX3_rehearse_67 rfl (lv_at hl 1 rfl) ?_
      refine lv_iload hx hb dX3_rehearse_68 (lv_at hl 0 rfl) ?_
      refine lv_iload_n hx hb dX3_rehearse_70 rfl (lv_at hl 3 rfl) ?_
      refine e_nrm (y := nI h_4) eh_4 ?_
      refine e_cV (As := [.int (cParts v (sp 1) c_6 c_8 (sp 0)), .int (nI h_4)]) (rest := []) hx hb hml hown hts 0 (c_X3_isAnyBusy (l := l) hc (cParts v (sp 1) c_6 c_8 (sp 0)) h_4 (by omega) (by omega)) cw_RX3_187 (by decide) (by decide) hz hP hI hK hc.1.1 (by decide) rfl rfl rfl hl.1 rfl (Nat.le_of_ble_eq_true rfl) ⟨by decide, by decide⟩ dX3_rehearse_71 ?_
      refine lv_if_eq (tgt := 87) hx hb dX3_rehearse_74 (by decide) (fun c_11 => ?_) (fun c_11 => ?_)
      · have nc_11 : (cBusy v (cParts v (sp 1) c_6 c_8 (sp 0)) h_4 3) = false := bI_0.mp c_11
        refine lv_aload_n hx hb dX3_rehearse_87 rfl (lv_at hl 1 rfl) ?_
        refine lv_iload hx hb dX3_rehearse_88 (lv_at hl 0 rfl) ?_
        refine lv_iload_n hx hb dX3_rehearse_90 rfl (lv_at hl 4 rfl) ?_
        refine e_nrm (y := nI c_6) ec_6 ?_
        refine lv_iload hx hb dX3_rehearse_91 (lv_at hl 5 rfl) ?_
        refine e_nrm (y := nI c_8) ec_8 ?_
        refine e_cV (As := [.int (cParts v (sp 1) c_6 c_8 (sp 0)), .int (nI c_6), .int (nI c_8)]) (rest := []) hx hb hml hown hts 0 (c_X3_canKneesBear (l := l) hc (cParts v (sp 1) c_6 c_8 (sp 0)) c_6 c_8 (by omega) (by omega)) cw_RX3_192 (by decide) (by decide) hz hP hI hK hc.1.1 (by decide) rfl rfl rfl hl.1 rfl (Nat.le_of_ble_eq_true rfl) ⟨by decide, by decide⟩ dX3_rehearse_93 ?_
        refine lv_if_ne (tgt := 109) hx hb dX3_rehearse_96 (by decide) (fun c_12 => ?_) (fun c_12 => ?_)
        · have nc_12 : (!cTired v (sp 1) (cParts v (sp 1) c_6 c_8 (sp 0)) c_6 c_8 (sp 0)) = true := bI_n0.mp c_12
          refine lv_aload_n hx hb dX3_rehearse_109 rfl (lv_at hl 1 rfl) ?_
          refine lv_iload hx hb dX3_rehearse_110 (lv_at hl 0 rfl) ?_
          refine lv_iload_n hx hb dX3_rehearse_112 rfl (lv_at hl 4 rfl) ?_
          refine e_nrm (y := nI c_6) ec_6 ?_
          refine lv_iload hx hb dX3_rehearse_113 (lv_at hl 5 rfl) ?_
          refine e_nrm (y := nI c_8) ec_8 ?_
          refine e_cVM (As := [.int (cParts v (sp 1) c_6 c_8 (sp 0)), .int (nI c_6), .int (nI c_8)]) (rest := []) hx hb hml hown hts 0 (c_X3_chargeKnees (l := l) hc (cParts v (sp 1) c_6 c_8 (sp 0)) c_6 c_8 (by omega) (by omega)) cw_RX3_198 (by decide) (by decide) hz hP hI hK hS hc.1.1 (by decide) rfl rfl rfl hl.1 rfl (Nat.le_of_ble_eq_true rfl) ⟨by decide, by decide⟩ dX3_rehearse_115 (fun H locs hz hP hS => ?_)
          refine lv_aload_n hx hb dX3_rehearse_118 rfl (lv_at hl 1 rfl) ?_
          refine e_getf hx hb hts inX3 hown hK hP 0 5 hc.1.1 (by decide) rfl rfl 3 (by decide) aw_270 (fun _ h => h) rfl dX3_rehearse_119 ?_
          refine lv_iload_n hx hb dX3_rehearse_122 rfl (lv_at hl 2 rfl) ?_
          refine e_nrm (y := nI r_2) er_2 ?_
          refine e_aald hx hb hK hP 4 10 hc.1.2.2.2.2.1 (by decide) rfl 2 rfl (Or.inr rfl) r_2 rfl (by omega) (by omega) (if_pos (by omega)) dX3_rehearse_123 ?_
          refine lv_iload_n hx hb dX3_rehearse_124 rfl (lv_at hl 3 rfl) ?_
          refine e_nrm (y := nI h_4) eh_4 ?_
          refine lv_bipush (v := 8) hx hb dX3_rehearse_125 (by decide) ?_
          refine lv_isub hx hb dX3_rehearse_127 ?_
          refine e_nrm (y := (nI (h_4 - 8))) (pk_sub (a := h_4) (b := 8) (by omega)) ?_
          refine lv_iload hx hb dX3_rehearse_128 (lv_at hl 0 rfl) ?_
          refine e_iast hx hb hK hP hI hS (5 + r_2) 13 (cK_rows hc (by omega : r_2 < 3)) (h_4 - 8) rfl (by omega) (by omega) dX3_rehearse_130 (fun H locs hz1 hP hS => ?_)
          have hz := Nat.le_trans hz (Nat.le_of_eq hz1.symm)
          refine lv_iload hx hb dX3_rehearse_131 (lv_at hl 0 rfl) ?_
          exact hret _ _ _ _ _ _ _ _ (show (cParts v (sp 1) c_6 c_8 (sp 0)) = cParts v (sp 1) (nN a) (nN b) (sp 0) from (by first | (simp [cRehS, bI, g_1, nr_2, g_3, nh_4, g_5, nc_6, g_7, nc_8, q9, eq_true c_10, nc_11, nc_12]; done) | (exfalso; simp_all; done))) (show (e_set (cCharge v (sp 1) (cParts v (sp 1) c_6 c_8 (sp 0)) c_6 c_8 (sp 0)) (5 + r_2) (h_4 - 8) (cParts v (sp 1) c_6 c_8 (sp 0))) = cRehS v (sp 0) (sp 1) (nN r) (nN h) (nN a) (nN b) from (by first | (simp [cRehS, bI, g_1, nr_2, g_3, nh_4, g_5, nc_6, g_7, nc_8, q9, eq_true c_10, nc_11, nc_12]; done) | (exfalso; simp_all; done))) (by first | (simp [cRehC, cRehB, g_1, nr_2, g_3, nh_4, g_5, nc_6, g_7, nc_8, q9, eq_true c_10, nc_11, nc_12]; done) | (simp_all [cRehC, cRehB]; done)) (by decide) (by decide) hP hS dX3_rehearse_133
        · have nc_12 : (!cTired v (sp 1) (cParts v (sp 1) c_6 c_8 (sp 0)) c_6 c_8 (sp 0)) = false := bI_0.mp c_12
          exact e_throw (text := "too much for the knees of one") hQ hx hb hml hl9 hown hts hT hex hlocks hP hS tw_IS (by decide +kernel) (⟨3, .tail _ (.tail _ (.head _)), by first | (simp [cRehC, cRehB, g_1, nr_2, g_3, nh_4, g_5, nc_6, g_7, nc_8, q9, eq_true c_10, nc_11, nc_12]; done) | (simp_all [cRehC, cRehB]; done)⟩) hl.1 (by decide) (Nat.le_of_ble_eq_true rfl) (by decide) (by decide) (by decide) (by decide) dX3_rehearse_99 dX3_rehearse_102 dX3_rehearse_103 dX3_rehearse_105 dX3_rehearse_108
      · have nc_11 : (cBusy v (cParts v (sp 1) c_6 c_8 (sp 0)) h_4 3) = true := bI_n0.mp c_11
        exact e_throw (text := "one takes part in another rehearsal") hQ hx hb hml hl9 hown hts hT hex hlocks hP hS tw_IS (by decide +kernel) (⟨3, .tail _ (.tail _ (.head _)), by first | (simp [cRehC, cRehB, g_1, nr_2, g_3, nh_4, g_5, nc_6, g_7, nc_8, q9, eq_true c_10, nc_11]; done) | (simp_all [cRehC, cRehB]; done)⟩) hl.1 (by decide) (Nat.le_of_ble_eq_true rfl) (by decide) (by decide) (by decide) (by decide) dX3_rehearse_77 dX3_rehearse_80 dX3_rehearse_81 dX3_rehearse_83 dX3_rehearse_86
    · skip
      exact e_throw (text := "the room is taken") hQ hx hb hml hl9 hown hts hT hex hlocks hP hS tw_IS (by decide +kernel) (⟨3, .tail _ (.tail _ (.head _)), by first | (simp [cRehC, cRehB, g_1, nr_2, g_3, nh_4, g_5, nc_6, g_7, nc_8, q9, eq_false c_10]; done) | (simp_all [cRehC, cRehB]; done)⟩) hl.1 (by decide) (Nat.le_of_ble_eq_true rfl) (by decide) (by decide) (by decide) (by decide) dX3_rehearse_48 dX3_rehearse_51 dX3_rehearse_52 dX3_rehearse_54 dX3_rehearse_57
  · have nc_9 : ¬ c_6 ≤ c_8 := fun h => c_9 ((nI_leI (a := c_6) (b := c_8) (by omega) (by omega)).mpr h)
    have q9 : b < a := by rw [ec_6, ec_8]; exact nI_lt (Nat.not_le.mp nc_9) (by omega)
    exact e_throw (text := "ends ahead of its start") hQ hx hb hml hl9 hown hts hT hex hlocks hP hS tw_IA (by decide +kernel) (⟨2, .tail _ (.head _), by first | (simp [cRehC, cRehB, g_1, nr_2, g_3, nh_4, g_5, nc_6, g_7, nc_8, q9]; done) | (simp_all [cRehC, cRehB]; done)⟩) hl.1 (by decide) (Nat.le_of_ble_eq_true rfl) (by decide) (by decide) (by decide) (by decide) dX3_rehearse_23 dX3_rehearse_26 dX3_rehearse_27 dX3_rehearse_29 dX3_rehearse_32

set_option maxRecDepth 100000 in
set_option maxHeartbeats 4000000 in
theorem c_X3_hurt {l : Launch} (hl9 : l.stackTraces = false) {X : eD} {z0 : Nat} {ad kd sp : Nat → Nat} {v : eV} (hc : cK kd sp) (hcv : cI sp v) (d : Int32) : eTh l yX3_hurt cX3_hurt 5 (some .int) 10 60 2000 [.ref (ad 0), .int d] X z0 ad kd sp v (some (.int ((cMendAll (cHurt0 v (sp 1) (nN d)) (sp 0) (sp 1) (nN d) (sp 1)).2))) ((cMendAll (cHurt0 v (sp 1) (nN d)) (sp 0) (sp 1) (nN d) (sp 1)).1) (cHurtC v (sp 0) d = 0) (xP [(xIO, 1), (xIS, 2)] (cHurtC v (sp 0) d)) := by
  refine e_thrI (by decide +kernel) (Nat.le_of_ble_eq_true rfl) ?_
  intro p e s m args below meth c hx hb hml hown hts hW hT hex hlocks Q hQ hret ls hl
  obtain ⟨hz, hP, hI, hK⟩ := hW
  have hl : lv_has ls 5 [(0, .ref (ad 0)), (1, .int d)] := hl
  have hS : va_S (e_A z0) s.heap s.heap [] := va_S.rf
  have hc0 := hc.2.2.2.2.2
  have hs8 := hc0.1
  have hs12 := hc0.2.1
  have hq2 := hc0.2.2.1
  have hq3 := hc0.2.2.2.1
  have hq4 := hc0.2.2.2.2.1
  have hq5 := hc0.2.2.2.2.2.1
  have hq6 := hc0.2.2.2.2.2.2.1
  have hq7 := hc0.2.2.2.2.2.2.2
  refine lv_aload_n hx hb dX3_hurt_0 rfl (lv_at hl 0 rfl) ?_
  refine lv_iload_n hx hb dX3_hurt_1 rfl (lv_at hl 1 rfl) ?_
  refine e_cVX (As := [.int d]) (rest := []) hQ hex hlocks (fun E h => ⟨1, by rw [h.1]; exact .head _, by simp [cHurtC, h.2]⟩) hx hb hml hown hts hT 0 (c_X3_needDancer (l := l) hl9 hc d) cw_RX3_70 (by decide) (by decide) hz hP hI hK hS hc.1.1 (by decide) rfl rfl rfl hl.1 rfl (Nat.le_of_ble_eq_true rfl) ⟨by decide, by decide⟩ (by decide) (by decide) dX3_hurt_2 (fun H locs g_1 hz hP hS => ?_)
  obtain ⟨d_2, hd_2, ed_2⟩ := cOkN_nat (by omega) g_1
  have nd_2 := nN_of ed_2 (by omega)
  refine lv_aload_n hx hb dX3_hurt_5 rfl (lv_at hl 0 rfl) ?_
  refine lv_iload_n hx hb dX3_hurt_6 rfl (lv_at hl 1 rfl) ?_
  refine e_nrm (y := nI d_2) ed_2 ?_
  refine e_cV (As := [.int (nI d_2)]) (rest := []) hx hb hml hown hts 0 (c_X3_isOut (l := l) hc hcv d_2 (by omega)) cw_RX3_126 (by decide) (by decide) hz hP hI hK hc.1.1 (by decide) rfl rfl rfl hl.1 rfl (Nat.le_of_ble_eq_true rfl) ⟨by decide, by decide⟩ dX3_hurt_7 ?_
  refine lv_if_eq (tgt := 23) hx hb dX3_hurt_10 (by decide) (fun c_3 => ?_) (fun c_3 => ?_)
  · have nc_3 : (cOut v d_2) = false := bI_0.mp c_3
    refine lv_aload_n hx hb dX3_hurt_23 rfl (lv_at hl 0 rfl) ?_
    refine e_getf hx hb hts inX3 hown hK hP 0 5 hc.1.1 (by decide) rfl rfl 0 (by decide) aw_194 (fun _ h => h) rfl dX3_hurt_24 ?_
    refine lv_iload_n hx hb dX3_hurt_27 rfl (lv_at hl 1 rfl) ?_
    refine e_nrm (y := nI d_2) ed_2 ?_
    refine e_cV (As := [.int (nI d_2)]) (rest := []) hx hb hml hown hts 1 (c_Jx4a65c_get_915e3_1 (l := l) hc d_2 (by omega)) cw_RX3_85 (by decide) (by decide) hz hP hI hK hc.1.2.1 (by decide) rfl rfl rfl hl.1 rfl (Nat.le_of_ble_eq_true rfl) ⟨by decide, by decide⟩ dX3_hurt_28 ?_
    refine e_cast hx hb hts hown hK hP (20 + 7 * d_2) 1 (((hc.2.2.2.1 d_2 (by omega))).1) (by decide) rfl rfl aw_200 dX3_hurt_31 ?_
    refine lv_iconst (v := 1) hx hb dX3_hurt_34 (by decide) ?_
    refine e_putf hx hb hts inX0 tyX0 tyX0_ok nmX0 hown hK hP hI hS (20 + 7 * d_2) 1 (((hc.2.2.2.1 d_2 (by omega))).1) (by decide) rfl rfl 3 (by decide) aw_201 (fun _ h => h) rfl (ty := .boolean) (by decide +kernel) (by decide) (by decide) (Nat.le_of_ble_eq_true rfl) (by simp [e_sh, e_set, upd]) dX3_hurt_35 (fun H locs hz1 hP hS => ?_)
    have hz := Nat.le_trans hz (Nat.le_of_eq hz1.symm)
    refine lv_aload_n hx hb dX3_hurt_38 rfl (lv_at hl 0 rfl) ?_
    refine lv_iload_n hx hb dX3_hurt_39 rfl (lv_at hl 1 rfl) ?_
    refine e_nrm (y := nI d_2) ed_2 ?_
    refine e_cVM (As := [.int (nI d_2)]) (rest := []) hx hb hml hown hts 0 (c_X3_dropLiftsOf (l := l) (v := (e_set v (20 + 7 * d_2) 3 1)) hc (nI d_2)) cw_RX3_210 (by decide) (by decide) hz hP hI hK hS hc.1.1 (by decide) rfl rfl rfl hl.1 rfl (Nat.le_of_ble_eq_true rfl) ⟨by decide, by decide⟩ dX3_hurt_40 (fun H locs hz hP hS => ?_)
    have hcv := cI_hurt0 (n2 := sp 1) (d := d_2) hcv (by omega) hs8
    have hP : e_P X ad kd sp (cHurt0 v (sp 1) d_2) H := hP
    refine lv_iconst (v := 0) hx hb dX3_hurt_43 (by decide) ?_
    refine lv_istore_n (lv' := [(2, .int 0), (0, .ref (ad 0)), (1, .int d)]) hx hb dX3_hurt_44 rfl hl (by decide) rfl (fun ls hl => ?_)
    refine lv_iconst (v := 0) hx hb dX3_hurt_45 (by decide) ?_
    refine lv_istore_n (lv' := [(3, .int 0), (2, .int 0), (0, .ref (ad 0)), (1, .int d)]) hx hb dX3_hurt_46 rfl hl (by decide) rfl (fun ls hl => ?_)
    have L47 : ∀ (k47 : Nat) (j : Nat) (u : eV) (y2 : Int32), sp 1 - j < k47 → (j ≤ sp 1) → (cMendAll (cHurt0 v (sp 1) d_2) (sp 0) (sp 1) d_2 j = (u, y2)) → (cI sp u) → ∀ (H : Heap) (locs : List Loc), z0 ≤ H.size → e_P X ad kd sp u H → va_S (e_A z0) s.heap H locs →  ∀ ls : Array Slot, lv_has ls 5 [(3, .int (nI j)), (2, .int y2), (0, .ref (ad 0)), (1, .int d)] → W p l e (e_rm 10 60 2000) s m args below meth c H locs 1 6 Q (F0 m 47 ls []) := by
      intro k47
      induction k47 with
      | zero => intro j u y2 hk; exact absurd hk (Nat.not_lt_zero _)
      | succ k47 ih47 =>
        intro j u y2 hk47 hj ep hcv H locs hz hP hS ls hl
        refine lv_iload_n hx hb dX3_hurt_47 rfl (lv_at hl 0 rfl) ?_
        refine lv_aload_n hx hb dX3_hurt_48 rfl (lv_at hl 2 rfl) ?_
        refine e_getf hx hb hts inX3 hown hK hP 0 5 hc.1.1 (by decide) rfl rfl 1 (by decide) aw_222 (fun _ h => h) rfl dX3_hurt_49 ?_
        refine e_cV (As := []) (rest := [.int (nI j)]) hx hb hml hown hts 2 (c_Jx4a65c_size_8abf5_2 (l := l) (v := u) hc) cw_RX3_46 (by decide) (by decide) hz hP hI hK hc.1.2.2.1 (by decide) rfl rfl rfl hl.1 rfl (Nat.le_of_ble_eq_true rfl) ⟨by decide, by decide⟩ dX3_hurt_52 ?_
        refine lv_icmp_ge (tgt := 104) hx hb dX3_hurt_55 (by decide) (fun c_4 => ?_) (fun c_4 => ?_)
        · have nc_4 : (sp 1) ≤ j := (nI_leI (a := (sp 1)) (b := j) (by omega) (by omega)).mp c_4
          refine lv_iload_n hx hb dX3_hurt_104 rfl (lv_at hl 1 rfl) ?_
          exact hret _ _ _ _ _ _ _ _ (show y2 = (cMendAll (cHurt0 v (sp 1) (nN d)) (sp 0) (sp 1) (nN d) (sp 1)).2 from by have e9 : j = sp 1 := (by omega); rw [e9] at ep; rw [nd_2, ep]) (show u = (cMendAll (cHurt0 v (sp 1) (nN d)) (sp 0) (sp 1) (nN d) (sp 1)).1 from by have e9 : j = sp 1 := (by omega); rw [e9] at ep; rw [nd_2, ep]) (by first | (simp [cHurtC, g_1, nd_2, nc_3, nc_4]; done) | (simp_all [cHurtC]; done)) (by decide) (by decide) hP hS dX3_hurt_105
        · have nc_4 : ¬ (sp 1) ≤ j := fun h => c_4 ((nI_leI (a := (sp 1)) (b := j) (by omega) (by omega)).mpr h)
          refine lv_aload_n hx hb dX3_hurt_58 rfl (lv_at hl 2 rfl) ?_
          refine e_getf hx hb hts inX3 hown hK hP 0 5 hc.1.1 (by decide) rfl rfl 1 (by decide) aw_222 (fun _ h => h) rfl dX3_hurt_59 ?_
          refine lv_iload_n hx hb dX3_hurt_62 rfl (lv_at hl 0 rfl) ?_
          refine e_cV (As := [.int (nI j)]) (rest := []) hx hb hml hown hts 2 (c_Jx4a65c_get_915e3_2 (l := l) (v := u) hc j (by omega)) cw_RX3_85 (by decide) (by decide) hz hP hI hK hc.1.2.2.1 (by decide) rfl rfl rfl hl.1 rfl (Nat.le_of_ble_eq_true rfl) ⟨by decide, by decide⟩ dX3_hurt_63 ?_
          refine e_cast hx hb hts hown hK hP (80 + j) 4 (hc.2.2.2.2.1 j (by omega)) (by decide) rfl rfl aw_223 dX3_hurt_66 ?_
          refine lv_astore (lv' := [(4, .ref (ad (80 + j))), (3, .int (nI j)), (2, .int y2), (0, .ref (ad 0)), (1, .int d)]) hx hb dX3_hurt_69 hl (by decide) rfl (fun ls hl => ?_)
          refine lv_aload hx hb dX3_hurt_71 (lv_at hl 0 rfl) ?_
          refine e_getf hx hb hts inX1 hown hK hP (80 + j) 4 (hc.2.2.2.2.1 j (by omega)) (by decide) rfl rfl 4 (by decide) aw_224 (fun _ h => h) rfl dX3_hurt_73 ?_
          refine lv_if_ne (tgt := 98) hx hb dX3_hurt_76 (by decide) (fun c_5 => ?_) (fun c_5 => ?_)
          · skip
            refine lv_iinc (v := (nI (j + 1))) (lv' := [(3, .int (nI (j + 1))), (4, .ref (ad (80 + j))), (2, .int y2), (0, .ref (ad 0)), (1, .int d)]) hx hb dX3_hurt_98 hl (k := 1) rfl (nI_add j 1) (by decide) rfl (fun ls hl => ?_)
            refine lv_goto (tgt := 47) hx hb dX3_hurt_101 (by decide) ?_
            exact ih47 (j + 1) u y2 (by omega) (by omega) (cMendAll_miss ep (by simp [cHit, g_1, nd_2, nc_3, nc_4, c_5])) (hcv) _ _ hz hP hS ls (lv_sub hl [0, 2, 3, 4] rfl)
          · skip
            refine lv_aload hx hb dX3_hurt_79 (lv_at hl 0 rfl) ?_
            refine lv_iload_n hx hb dX3_hurt_81 rfl (lv_at hl 4 rfl) ?_
            refine e_nrm (y := nI d_2) ed_2 ?_
            refine e_cV (As := [.int (nI d_2)]) (rest := []) hx hb hml hown hts (80 + j) (c_X1_isBy (l := l) (v := u) (80 + j) (hc.2.2.2.2.1 j (by omega)) (nI d_2)) cw_RX3_216 (by decide) (by decide) hz hP hI hK (hc.2.2.2.2.1 j (by omega)) (by decide) rfl rfl rfl hl.1 rfl (Nat.le_of_ble_eq_true rfl) ⟨by decide, by decide⟩ dX3_hurt_82 ?_
            refine lv_if_eq (tgt := 98) hx hb dX3_hurt_85 (by decide) (fun c_6 => ?_) (fun c_6 => ?_)
            · have nc_6 : (cBy u (80 + j) (nI d_2)) = false := bI_0.mp c_6
              refine lv_iinc (v := (nI (j + 1))) (lv' := [(3, .int (nI (j + 1))), (4, .ref (ad (80 + j))), (2, .int y2), (0, .ref (ad 0)), (1, .int d)]) hx hb dX3_hurt_98 hl (k := 1) rfl (nI_add j 1) (by decide) rfl (fun ls hl => ?_)
              refine lv_goto (tgt := 47) hx hb dX3_hurt_101 (by decide) ?_
              exact ih47 (j + 1) u y2 (by omega) (by omega) (cMendAll_miss ep (by simp [cHit, g_1, nd_2, nc_3, nc_4, c_5, nc_6])) (hcv) _ _ hz hP hS ls (lv_sub hl [0, 2, 3, 4] rfl)
            · have nc_6 : (cBy u (80 + j) (nI d_2)) = true := bI_n0.mp c_6
              have hit : cHit u j d_2 = true := by simp [cHit, g_1, nd_2, nc_3, nc_4, c_5, nc_6]
              obtain ⟨c0, hc0, ec⟩ := hcv.2.1 j (by omega)
              obtain ⟨dl, hdl, el⟩ := hcv.2.2.1 j (by omega)
              refine lv_iload_n hx hb dX3_hurt_88 rfl (lv_at hl 2 rfl) ?_
              refine lv_aload_n hx hb dX3_hurt_89 rfl (lv_at hl 3 rfl) ?_
              refine lv_aload hx hb dX3_hurt_90 (lv_at hl 0 rfl) ?_
              refine lv_iload_n hx hb dX3_hurt_92 rfl (lv_at hl 4 rfl) ?_
              refine e_nrm (y := nI d_2) ed_2 ?_
              refine e_cVM (As := [.ref (ad (80 + j)), .int (nI d_2)]) (rest := [.int y2]) hx hb hml hown hts 0 (c_X3_replaceIn (l := l) (v := u) hc hcv j d_2 c0 dl (by omega) (by omega) (by omega) (by omega) ec el) cw_RX3_219 (by decide) (by decide) hz hP hI hK hS hc.1.1 (by decide) rfl rfl rfl hl.1 rfl (Nat.le_of_ble_eq_true rfl) ⟨by decide, by decide⟩ dX3_hurt_93 (fun H locs hz hP hS => ?_)
              refine lv_iadd hx hb dX3_hurt_96 ?_
              refine lv_istore_n (lv' := [(2, .int (y2 + (cReplV u j d_2 c0 dl (sp 0) (sp 1)))), (4, .ref (ad (80 + j))), (3, .int (nI j)), (0, .ref (ad 0)), (1, .int d)]) hx hb dX3_hurt_97 rfl hl (by decide) rfl (fun ls hl => ?_)
              refine lv_iinc (v := (nI (j + 1))) (lv' := [(3, .int (nI (j + 1))), (2, .int (y2 + (cReplV u j d_2 c0 dl (sp 0) (sp 1)))), (4, .ref (ad (80 + j))), (0, .ref (ad 0)), (1, .int d)]) hx hb dX3_hurt_98 hl (k := 2) rfl (nI_add j 1) (by decide) rfl (fun ls hl => ?_)
              refine lv_goto (tgt := 47) hx hb dX3_hurt_101 (by decide) ?_
              exact ih47 (j + 1) (cReplS u j d_2 c0 dl (sp 0) (sp 1)) (y2 + (cReplV u j d_2 c0 dl (sp 0) (sp 1))) (by omega) (by omega) (cMendAll_hit ep hit ec el (by omega) (by omega)) (cI_replS hcv hs8 (by omega)) _ _ hz hP hS ls (lv_sub hl [0, 1, 3, 4] rfl)
    exact L47 _ 0 (cHurt0 v (sp 1) d_2) 0 (Nat.lt_succ_self _) (Nat.zero_le _) (rfl) (hcv) _ _ hz hP hS ls (lv_sub hl [0, 1, 2, 3] rfl)
  · have nc_3 : (cOut v d_2) = true := bI_n0.mp c_3
    exact e_throw (text := "written out") hQ hx hb hml hl9 hown hts hT hex hlocks hP hS tw_IS (by decide +kernel) (⟨2, .tail _ (.head _), by first | (simp [cHurtC, g_1, nd_2, nc_3]; done) | (simp_all [cHurtC]; done)⟩) hl.1 (by decide) (Nat.le_of_ble_eq_true rfl) (by decide) (by decide) (by decide) (by decide) dX3_hurt_13 dX3_hurt_16 dX3_hurt_17 dX3_hurt_19 dX3_hurt_22

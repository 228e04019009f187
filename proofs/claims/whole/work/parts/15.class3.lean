theorem aw_281 : Cond.methodLink RX2 42 yX2_write ∈ AW := aw_of (List.mem_of_getElem? (i := 704) (by decide +kernel)) (by decide +kernel)
theorem aw_282 : Cond.instanceMethod yX2_write ∈ AW := aw_of (List.mem_of_getElem? (i := 446) (by decide +kernel)) (by decide +kernel)
theorem aw_283 : Cond.selects RX2 yX2_write yX2_write ∈ AW := aw_of (List.mem_of_getElem? (i := 447) (by decide +kernel)) (by decide +kernel)
set_option maxRecDepth 100000 in
theorem aw_284 : Cond.code yX2_write cX2_write 5 none ∈ AW := aw_of (List.mem_of_getElem? (i := 448) rfl) (by decide +kernel)
theorem cw_RX2_42 : e_cwV RX2 42 RX2 yX2_write cX2_write 5 none 2 := ⟨aw_281, aw_282, aw_283, aw_158, aw_284, rfl, by decide +kernel, by decide +kernel, by decide +kernel⟩
theorem aw_286 : Cond.methodLink RX0 66 yX2_visit ∈ AW := aw_of (List.mem_of_getElem? (i := 700) (by decide +kernel)) (by decide +kernel)
theorem aw_287 : Cond.instanceMethod yX2_visit ∈ AW := aw_of (List.mem_of_getElem? (i := 701) (by decide +kernel)) (by decide +kernel)
theorem aw_288 : Cond.selects RX2 yX2_visit yX2_visit ∈ AW := aw_of (List.mem_of_getElem? (i := 702) (by decide +kernel)) (by decide +kernel)
set_option maxRecDepth 100000 in
theorem aw_289 : Cond.code yX2_visit cX2_visit 4 none ∈ AW := aw_of (List.mem_of_getElem? (i := 703) rfl) (by decide +kernel)
theorem cw_RX0_66 : e_cwV RX0 66 RX2 yX2_visit cX2_visit 4 none 2 := ⟨aw_286, aw_287, aw_288, aw_158, aw_289, rfl, by decide +kernel, by decide +kernel, by decide +kernel⟩
theorem aw_291 : Cond.methodLink RX3 261 yJ7_fill_53178 ∈ AW := aw_of (List.mem_of_getElem? (i := 107) (by decide +kernel)) (by decide +kernel)
theorem aw_292 : Cond.static yJ7_fill_53178 ∈ AW := aw_of (List.mem_of_getElem? (i := 108) (by decide +kernel)) (by decide +kernel)
theorem aw_293 : Cond.initialized RJ7 ∈ AW := aw_of (List.mem_of_getElem? (i := 48) (by decide +kernel)) (by decide +kernel)
set_option maxRecDepth 100000 in
theorem aw_294 : Cond.code yJ7_fill_53178 cJ7_fill_53178 4 none ∈ AW := aw_of (List.mem_of_getElem? (i := 109) rfl) (by decide +kernel)
theorem cw_RX3_261 : e_cwS RX3 261 yJ7_fill_53178 cJ7_fill_53178 4 none 2 := ⟨aw_291, aw_292, aw_293, aw_294, by decide +kernel, by decide +kernel, by decide +kernel⟩
theorem aw_296 : Cond.methodLink RX3 284 yX1_replace ∈ AW := aw_of (List.mem_of_getElem? (i := 705) (by decide +kernel)) (by decide +kernel)
theorem aw_297 : Cond.instanceMethod yX1_replace ∈ AW := aw_of (List.mem_of_getElem? (i := 706) (by decide +kernel)) (by decide +kernel)
theorem aw_298 : Cond.selects RX1 yX1_replace yX1_replace ∈ AW := aw_of (List.mem_of_getElem? (i := 707) (by decide +kernel)) (by decide +kernel)
set_option maxRecDepth 100000 in
theorem aw_299 : Cond.code yX1_replace cX1_replace 3 none ∈ AW := aw_of (List.mem_of_getElem? (i := 708) rfl) (by decide +kernel)
theorem cw_RX3_284 : e_cwV RX3 284 RX1 yX1_replace cX1_replace 3 none 2 := ⟨aw_296, aw_297, aw_298, aw_144, aw_299, rfl, by decide +kernel, by decide +kernel, by decide +kernel⟩
theorem aw_301 : Cond.methodLink RX3 280 yX0_visit ∈ AW := aw_of (List.mem_of_getElem? (i := 696) (by decide +kernel)) (by decide +kernel)
theorem aw_302 : Cond.instanceMethod yX0_visit ∈ AW := aw_of (List.mem_of_getElem? (i := 697) (by decide +kernel)) (by decide +kernel)
theorem aw_303 : Cond.selects RX0 yX0_visit yX0_visit ∈ AW := aw_of (List.mem_of_getElem? (i := 698) (by decide +kernel)) (by decide +kernel)
set_option maxRecDepth 100000 in
theorem aw_304 : Cond.code yX0_visit cX0_visit 3 none ∈ AW := aw_of (List.mem_of_getElem? (i := 699) rfl) (by decide +kernel)
theorem cw_RX3_280 : e_cwV RX3 280 RX0 yX0_visit cX0_visit 3 none 2 := ⟨aw_301, aw_302, aw_303, aw_175, aw_304, rfl, by decide +kernel, by decide +kernel, by decide +kernel⟩
theorem aw_306 : Cond.methodLink RX3 276 yX3_movesNeeded ∈ AW := aw_of (List.mem_of_getElem? (i := 682) (by decide +kernel)) (by decide +kernel)
theorem aw_307 : Cond.instanceMethod yX3_movesNeeded ∈ AW := aw_of (List.mem_of_getElem? (i := 684) (by decide +kernel)) (by decide +kernel)
theorem aw_308 : Cond.selects RX3 yX3_movesNeeded yX3_movesNeeded ∈ AW := aw_of (List.mem_of_getElem? (i := 22) (by decide +kernel)) (by decide +kernel)
set_option maxRecDepth 100000 in
theorem aw_309 : Cond.code yX3_movesNeeded cX3_movesNeeded 5 (some .int) ∈ AW := aw_of (List.mem_of_getElem? (i := 685) rfl) (by decide +kernel)
theorem cw_RX3_276 : e_cwV RX3 276 RX3 yX3_movesNeeded cX3_movesNeeded 5 (some .int) 3 := ⟨aw_306, aw_307, aw_308, aw_162, aw_309, rfl, by decide +kernel, by decide +kernel, by decide +kernel⟩
theorem aw_311 : Cond.methodLink RX3 32 yX3_freeRooms ∈ AW := aw_of (List.mem_of_getElem? (i := 103) (by decide +kernel)) (by decide +kernel)
theorem aw_312 : Cond.instanceMethod yX3_freeRooms ∈ AW := aw_of (List.mem_of_getElem? (i := 105) (by decide +kernel)) (by decide +kernel)
theorem aw_313 : Cond.selects RX3 yX3_freeRooms yX3_freeRooms ∈ AW := aw_of (List.mem_of_getElem? (i := 0) (by decide +kernel)) (by decide +kernel)
set_option maxRecDepth 100000 in
theorem aw_314 : Cond.code yX3_freeRooms cX3_freeRooms 2 none ∈ AW := aw_of (List.mem_of_getElem? (i := 106) rfl) (by decide +kernel)
theorem cw_RX3_32 : e_cwV RX3 32 RX3 yX3_freeRooms cX3_freeRooms 2 none 0 := ⟨aw_311, aw_312, aw_313, aw_162, aw_314, rfl, by decide +kernel, by decide +kernel, by decide +kernel⟩
theorem aw_316 : Cond.fieldLink RX3 28 "Stepscript" "day" "I" ∈ AW := aw_of (List.mem_of_getElem? (i := 114) (by decide +kernel)) (by decide +kernel)
theorem aw_317 : Cond.methodLink RX3 205 yJ9_max_7cf53 ∈ AW := aw_of (List.mem_of_getElem? (i := 185) (by decide +kernel)) (by decide +kernel)
set_option maxRecDepth 100000 in
theorem aw_318 : Cond.code yJ9_max_7cf53 cJ9_max_7cf53 2 (some .int) ∈ AW := aw_of (List.mem_of_getElem? (i := 187) rfl) (by decide +kernel)
theorem em_code_max : Cond.code Lib.Math.max.name Lib.Math.max.code 2 (some .int) ∈ AW := aw_318
theorem aw_320 : Cond.static yJ9_max_7cf53 ∈ AW := aw_of (List.mem_of_getElem? (i := 186) (by decide +kernel)) (by decide +kernel)
set_option maxRecDepth 100000 in
set_option maxHeartbeats 4000000 in
theorem c_X2_write {l : Launch} {X : eD} {z0 : Nat} {ad kd sp : Nat → Nat} {v : eV} (t : Nat) (ht : isT kd t) (c0 : Nat) (w : Int32) (hc9 : c0 < 64) : eMu l yX2_write cX2_write 5 none 0 [.ref (ad t), .int (nI c0), .int w] X z0 ad kd sp v none (cWrite v t c0 w) := by
  refine e_mutV (by decide +kernel) (Nat.le_of_ble_eq_true rfl) ?_
  intro p e s m args below meth c hx hb hml hown hts hW Q hret ls hl
  obtain ⟨hz, hP, hI, hK⟩ := hW
  have hl : lv_has ls 5 [(0, .ref (ad t)), (1, .int (nI c0)), (2, .int w)] := hl
  have hS : va_S (e_A z0) s.heap s.heap [] := va_S.rf
  refine lv_iload_n hx hb dX2_write_0 rfl (lv_at hl 2 rfl) ?_
  refine lv_aload_n hx hb dX2_write_1 rfl (lv_at hl 0 rfl) ?_
  refine e_getf hx hb hts inX2 hown hK hP t 2 ht.1 (by decide) rfl rfl 1 (by decide) aw_149 (fun _ h => h) rfl dX2_write_2 ?_
  refine lv_iload_n hx hb dX2_write_5 rfl (lv_at hl 1 rfl) ?_
  refine e_iald hx hb hK hP (t + 1) 64 ht.2.1 c0 rfl (by omega) (by decide) dX2_write_6 ?_
  refine lv_isub hx hb dX2_write_7 ?_
  refine lv_istore_n (lv' := [(3, .int (w - (v (t + 1) c0))), (0, .ref (ad t)), (1, .int (nI c0)), (2, .int w)]) hx hb dX2_write_8 rfl hl (by decide) rfl (fun ls hl => ?_)
  refine lv_aload_n hx hb dX2_write_9 rfl (lv_at hl 1 rfl) ?_
  refine e_getf hx hb hts inX2 hown hK hP t 2 ht.1 (by decide) rfl rfl 1 (by decide) aw_149 (fun _ h => h) rfl dX2_write_10 ?_
  refine lv_iload_n hx hb dX2_write_13 rfl (lv_at hl 2 rfl) ?_
  refine lv_iload_n hx hb dX2_write_14 rfl (lv_at hl 3 rfl) ?_
  refine e_iast hx hb hK hP hI hS (t + 1) 64 ht.2.1 c0 rfl (by omega) (by omega) dX2_write_15 (fun H locs hz1 hP hS => ?_)
  have hz := Nat.le_trans hz (Nat.le_of_eq hz1.symm)
  refine lv_iload_n hx hb dX2_write_16 rfl (lv_at hl 2 rfl) ?_
  refine lv_istore (lv' := [(4, .int (nI c0)), (3, .int (w - (v (t + 1) c0))), (0, .ref (ad t)), (1, .int (nI c0)), (2, .int w)]) hx hb dX2_write_17 hl (by decide) rfl (fun ls hl => ?_)
  have L19 : ∀ (k19 : Nat) (i : Nat) (u : eV), 64 - c0 - i < k19 → (i ≤ 64 - c0) → (u = cShift (e_set v (t + 1) c0 w) t c0 (w - v (t + 1) c0) i) → ∀ (H : Heap) (locs : List Loc), z0 ≤ H.size → e_P X ad kd sp u H → va_S (e_A z0) s.heap H locs →  ∀ ls : Array Slot, lv_has ls 5 [(4, .int (nI (c0 + i))), (3, .int (w - (v (t + 1) c0))), (0, .ref (ad t)), (1, .int (nI c0)), (2, .int w)] → W p l e (e_rm 0 0 0) s m args below meth c H locs 0 0 Q (F0 m 19 ls []) := by
    intro k19
    induction k19 with
    | zero => intro i u hk; exact absurd hk (Nat.not_lt_zero _)
    | succ k19 ih19 =>
      intro i u hk19 hi eu H locs hz hP hS ls hl
      refine lv_iload hx hb dX2_write_19 (lv_at hl 0 rfl) ?_
      refine lv_bipush (v := 64) hx hb dX2_write_21 (by decide) ?_
      refine lv_icmp_ge (tgt := 43) hx hb dX2_write_23 (by decide) (fun c_1 => ?_) (fun c_1 => ?_)
      · have nc_1 : 64 ≤ (c0 + i) := (nI_leI (a := 64) (b := (c0 + i)) (by omega) (by omega)).mp c_1
        exact hret _ _ _ _ _ (show u = cWrite v t c0 w from by rw [eu, show i = 64 - c0 by omega]; rfl) hP hS dX2_write_43
      · have nc_1 : ¬ 64 ≤ (c0 + i) := fun h => c_1 ((nI_leI (a := 64) (b := (c0 + i)) (by omega) (by omega)).mpr h)
        refine lv_aload_n hx hb dX2_write_26 rfl (lv_at hl 2 rfl) ?_
        refine e_getf hx hb hts inX2 hown hK hP t 2 ht.1 (by decide) rfl rfl 2 (by decide) aw_148 (fun _ h => h) rfl dX2_write_27 ?_
        refine lv_iload hx hb dX2_write_30 (lv_at hl 0 rfl) ?_
        refine lv_dup2_11 hx hb dX2_write_32 rfl rfl ?_
        refine e_iald hx hb hK hP (t + 2) 64 ht.2.2 (c0 + i) rfl (by omega) (by decide) dX2_write_33 ?_
        refine lv_iload_n hx hb dX2_write_34 rfl (lv_at hl 1 rfl) ?_
        refine lv_iadd hx hb dX2_write_35 ?_
        refine e_iast hx hb hK hP hI hS (t + 2) 64 ht.2.2 (c0 + i) rfl (by omega) (by omega) dX2_write_36 (fun H locs hz1 hP hS => ?_)
        have hz := Nat.le_trans hz (Nat.le_of_eq hz1.symm)
        refine lv_iinc (v := (nI ((c0 + i) + 1))) (lv' := [(4, .int (nI ((c0 + i) + 1))), (3, .int (w - (v (t + 1) c0))), (0, .ref (ad t)), (1, .int (nI c0)), (2, .int w)]) hx hb dX2_write_37 hl (k := 0) rfl (nI_add (c0 + i) 1) (by decide) rfl (fun ls hl => ?_)
        refine lv_goto (tgt := 19) hx hb dX2_write_40 (by decide) ?_
        exact ih19 (i + 1) (e_set u (t + 2) (c0 + i) ((u (t + 2) (c0 + i)) + (w - (v (t + 1) c0)))) (by omega) (by omega) (by rw [eu]; rfl) _ _ hz hP hS ls (lv_sub hl [0, 1, 2, 3, 4] rfl)
  exact L19 _ 0 (e_set v (t + 1) c0 w) (Nat.lt_succ_self _) (Nat.zero_le _) (rfl) _ _ hz hP hS ls (lv_sub hl [0, 1, 2, 3, 4] rfl)

set_option maxRecDepth 100000 in
set_option maxHeartbeats 4000000 in
theorem c_X2_visit {l : Launch} {X : eD} {z0 : Nat} {ad kd sp : Nat → Nat} {v : eV} (t : Nat) (ht : isT kd t) (g : Nat) (hg : isT kd g) (c0 : Nat) (hc9 : c0 < 63) : eMu l yX2_visit cX2_visit 4 none 1 [.ref (ad t), .ref (ad g), .int (nI c0)] X z0 ad kd sp v none (cVisit v t g c0) := by
  refine e_mutV (by decide +kernel) (Nat.le_of_ble_eq_true rfl) ?_
  intro p e s m args below meth c hx hb hml hown hts hW Q hret ls hl
  obtain ⟨hz, hP, hI, hK⟩ := hW
  have hl : lv_has ls 4 [(0, .ref (ad t)), (1, .ref (ad g)), (2, .int (nI c0))] := hl
  have hS : va_S (e_A z0) s.heap s.heap [] := va_S.rf
  refine lv_aload_n hx hb dX2_visit_0 rfl (lv_at hl 0 rfl) ?_
  refine lv_aload_n hx hb dX2_visit_1 rfl (lv_at hl 1 rfl) ?_
  refine lv_iload_n hx hb dX2_visit_2 rfl (lv_at hl 2 rfl) ?_
  refine e_cV (As := [.ref (ad g), .int (nI c0)]) (rest := []) hx hb hml hown hts t (c_X2_wayTo (l := l) t ht g hg c0 (by omega)) cw_RX2_34 (by decide) (by decide) hz hP hI hK ht.1 (by decide) rfl rfl rfl hl.1 rfl (Nat.le_of_ble_eq_true rfl) ⟨Nat.zero_le _, Nat.zero_le _⟩ dX2_visit_3 ?_
  refine lv_istore_n (lv' := [(3, .int (cWay v t g c0)), (0, .ref (ad t)), (1, .ref (ad g)), (2, .int (nI c0))]) hx hb dX2_visit_6 rfl hl (by decide) rfl (fun ls hl => ?_)
  refine lv_aload_n hx hb dX2_visit_7 rfl (lv_at hl 1 rfl) ?_
  refine lv_iload_n hx hb dX2_visit_8 rfl (lv_at hl 3 rfl) ?_
  refine lv_aload_n hx hb dX2_visit_9 rfl (lv_at hl 1 rfl) ?_
  refine e_getf hx hb hts inX2 hown hK hP t 2 ht.1 (by decide) rfl rfl 1 (by decide) aw_149 (fun _ h => h) rfl dX2_visit_10 ?_
  refine lv_iload_n hx hb dX2_visit_13 rfl (lv_at hl 3 rfl) ?_
  refine e_iald hx hb hK hP (t + 1) 64 ht.2.1 c0 rfl (by omega) (by decide) dX2_visit_14 ?_
  refine lv_iload_n hx hb dX2_visit_15 rfl (lv_at hl 0 rfl) ?_
  refine lv_iadd hx hb dX2_visit_16 ?_
  refine e_cVM (As := [.int (nI c0), .int ((v (t + 1) c0) + (cWay v t g c0))]) (rest := []) hx hb hml hown hts t (c_X2_write (l := l) t ht c0 ((v (t + 1) c0) + (cWay v t g c0)) (by omega)) cw_RX2_42 (by decide) (by decide) hz hP hI hK hS ht.1 (by decide) rfl rfl rfl hl.1 rfl (Nat.le_of_ble_eq_true rfl) ⟨Nat.zero_le _, Nat.zero_le _⟩ dX2_visit_17 (fun H locs hz hP hS => ?_)
  refine lv_aload_n hx hb dX2_visit_20 rfl (lv_at hl 1 rfl) ?_
  refine lv_iload_n hx hb dX2_visit_21 rfl (lv_at hl 3 rfl) ?_
  refine lv_iconst (v := 1) hx hb dX2_visit_22 (by decide) ?_
  refine lv_iadd hx hb dX2_visit_23 ?_
  refine e_nrm (y := (nI (c0 + 1))) (nI_add c0 1) ?_
  refine lv_aload_n hx hb dX2_visit_24 rfl (lv_at hl 1 rfl) ?_
  refine e_getf hx hb hts inX2 hown hK hP t 2 ht.1 (by decide) rfl rfl 1 (by decide) aw_149 (fun _ h => h) rfl dX2_visit_25 ?_
  refine lv_iload_n hx hb dX2_visit_28 rfl (lv_at hl 3 rfl) ?_
  refine lv_iconst (v := 1) hx hb dX2_visit_29 (by decide) ?_
  refine lv_iadd hx hb dX2_visit_30 ?_
  refine e_nrm (y := (nI (c0 + 1))) (nI_add c0 1) ?_
  refine e_iald hx hb hK hP (t + 1) 64 ht.2.1 (c0 + 1) rfl (by omega) (by decide) dX2_visit_31 ?_
  refine lv_iload_n hx hb dX2_visit_32 rfl (lv_at hl 0 rfl) ?_
  refine lv_isub hx hb dX2_visit_33 ?_
  refine e_cVM (As := [.int (nI (c0 + 1)), .int (((cWrite v t c0 ((v (t + 1) c0) + (cWay v t g c0))) (t + 1) (c0 + 1)) - (cWay v t g c0))]) (rest := []) hx hb hml hown hts t (c_X2_write (l := l) (v := (cWrite v t c0 ((v (t + 1) c0) + (cWay v t g c0)))) t ht (c0 + 1) (((cWrite v t c0 ((v (t + 1) c0) + (cWay v t g c0))) (t + 1) (c0 + 1)) - (cWay v t g c0)) (by omega)) cw_RX2_42 (by decide) (by decide) hz hP hI hK hS ht.1 (by decide) rfl rfl rfl hl.1 rfl (Nat.le_of_ble_eq_true rfl) ⟨Nat.zero_le _, Nat.zero_le _⟩ dX2_visit_34 (fun H locs hz hP hS => ?_)
  exact hret _ _ _ _ _ (show (cWrite (cWrite v t c0 ((v (t + 1) c0) + (cWay v t g c0))) t (c0 + 1) (((cWrite v t c0 ((v (t + 1) c0) + (cWay v t g c0))) (t + 1) (c0 + 1)) - (cWay v t g c0))) = cVisit v t g c0 from rfl) hP hS dX2_visit_37

set_option maxRecDepth 100000 in
set_option maxHeartbeats 4000000 in
theorem c_X0_visit {l : Launch} {X : eD} {z0 : Nat} {ad kd sp : Nat → Nat} {v : eV} (d : Nat) (hd : isD kd d) (g : Nat) (hg : isD kd g) (c0 : Nat) (hc9 : c0 < 63) : eMu l yX0_visit cX0_visit 3 none 2 [.ref (ad d), .ref (ad g), .int (nI c0)] X z0 ad kd sp v none (cVisitD v d g c0) := by
  refine e_mutV (by decide +kernel) (Nat.le_of_ble_eq_true rfl) ?_
  intro p e s m args below meth c hx hb hml hown hts hW Q hret ls hl
  obtain ⟨hz, hP, hI, hK⟩ := hW
  have hl : lv_has ls 3 [(0, .ref (ad d)), (1, .ref (ad g)), (2, .int (nI c0))] := hl
  have hS : va_S (e_A z0) s.heap s.heap [] := va_S.rf
  refine lv_aload_n hx hb dX0_visit_0 rfl (lv_at hl 0 rfl) ?_
  refine e_getf hx hb hts inX0 hown hK hP d 1 hd.1 (by decide) rfl rfl 0 (by decide) aw_164 (fun _ h => h) rfl dX0_visit_1 ?_
  refine lv_aload_n hx hb dX0_visit_4 rfl (lv_at hl 1 rfl) ?_
  refine e_getf hx hb hts inX0 hown hK hP g 1 hg.1 (by decide) rfl rfl 0 (by decide) aw_164 (fun _ h => h) rfl dX0_visit_5 ?_
  refine lv_iload_n hx hb dX0_visit_8 rfl (lv_at hl 2 rfl) ?_
  refine e_cVM (As := [.ref (ad (g + 1)), .int (nI c0)]) (rest := []) hx hb hml hown hts (d + 1) (c_X2_visit (l := l) (d + 1) hd.2.1 (g + 1) hg.2.1 c0 (by omega)) cw_RX0_66 (by decide) (by decide) hz hP hI hK hS ((hd.2.1).1) (by decide) rfl rfl rfl hl.1 rfl (Nat.le_of_ble_eq_true rfl) ⟨Nat.zero_le _, Nat.zero_le _⟩ dX0_visit_9 (fun H locs hz hP hS => ?_)
  refine lv_aload_n hx hb dX0_visit_12 rfl (lv_at hl 0 rfl) ?_
  refine e_getf hx hb hts inX0 hown hK hP d 1 hd.1 (by decide) rfl rfl 1 (by decide) aw_165 (fun _ h => h) rfl dX0_visit_13 ?_
  refine lv_aload_n hx hb dX0_visit_16 rfl (lv_at hl 1 rfl) ?_
  refine e_getf hx hb hts inX0 hown hK hP g 1 hg.1 (by decide) rfl rfl 1 (by decide) aw_165 (fun _ h => h) rfl dX0_visit_17 ?_
  refine lv_iload_n hx hb dX0_visit_20 rfl (lv_at hl 2 rfl) ?_
  refine e_cVM (As := [.ref (ad (g + 4)), .int (nI c0)]) (rest := []) hx hb hml hown hts (d + 4) (c_X2_visit (l := l) (v := (cVisit v (d + 1) (g + 1) c0)) (d + 4) hd.2.2 (g + 4) hg.2.2 c0 (by omega)) cw_RX0_66 (by decide) (by decide) hz hP hI hK hS ((hd.2.2).1) (by decide) rfl rfl rfl hl.1 rfl (Nat.le_of_ble_eq_true rfl) ⟨Nat.zero_le _, Nat.zero_le _⟩ dX0_visit_21 (fun H locs hz hP hS => ?_)
  exact hret _ _ _ _ _ (show (cVisit (cVisit v (d + 1) (g + 1) c0) (d + 4) (g + 4) c0) = cVisitD v d g c0 from rfl) hP hS dX0_visit_24

set_option maxRecDepth 100000 in
set_option maxHeartbeats 4000000 in
theorem c_X1_replace {l : Launch} {X : eD} {z0 : Nat} {ad kd sp : Nat → Nat} {v : eV} (n : Nat) (hn : kd n = 4) (a b : Int32) : eMu l yX1_replace cX1_replace 3 none 0 [.ref (ad n), .int a, .int b] X z0 ad kd sp v none (cRepl v n a b) := by
  refine e_mutV (by decide +kernel) (Nat.le_of_ble_eq_true rfl) ?_
  intro p e s m args below meth c hx hb hml hown hts hW Q hret ls hl
  obtain ⟨hz, hP, hI, hK⟩ := hW
  have hl : lv_has ls 3 [(0, .ref (ad n)), (1, .int a), (2, .int b)] := hl
  have hS : va_S (e_A z0) s.heap s.heap [] := va_S.rf
  refine lv_aload_n hx hb dX1_replace_0 rfl (lv_at hl 0 rfl) ?_
  refine e_getf hx hb hts inX1 hown hK hP n 4 hn (by decide) rfl rfl 2 (by decide) aw_138 (fun _ h => h) rfl dX1_replace_1 ?_
  refine lv_iload_n hx hb dX1_replace_4 rfl (lv_at hl 1 rfl) ?_
  refine lv_icmp_ne (tgt := 16) hx hb dX1_replace_5 (by decide) (fun c_1 => ?_) (fun c_1 => ?_)
  · skip
    refine lv_aload_n hx hb dX1_replace_16 rfl (lv_at hl 0 rfl) ?_
    refine lv_iload_n hx hb dX1_replace_17 rfl (lv_at hl 2 rfl) ?_
    refine e_putf hx hb hts inX1 tyX1 tyX1_ok nmX1 hown hK hP hI hS n 4 hn (by decide) rfl rfl 3 (by decide) aw_139 (fun _ h => h) rfl (ty := .int) (by decide +kernel) rfl rfl (Nat.le_of_ble_eq_true rfl) (by simp [e_sh, e_set, upd]) dX1_replace_18 (fun H locs hz1 hP hS => ?_)
    have hz := Nat.le_trans hz (Nat.le_of_eq hz1.symm)
    exact hret _ _ _ _ _ (show (e_set v n 3 b) = cRepl v n a b from (by first | (simp [cRepl, bI, eq_false c_1]; done) | (exfalso; simp_all; done))) hP hS dX1_replace_21
  · skip
    refine lv_aload_n hx hb dX1_replace_8 rfl (lv_at hl 0 rfl) ?_
    refine lv_iload_n hx hb dX1_replace_9 rfl (lv_at hl 2 rfl) ?_
    refine e_putf hx hb hts inX1 tyX1 tyX1_ok nmX1 hown hK hP hI hS n 4 hn (by decide) rfl rfl 2 (by decide) aw_138 (fun _ h => h) rfl (ty := .int) (by decide +kernel) rfl rfl (Nat.le_of_ble_eq_true rfl) (by simp [e_sh, e_set, upd]) dX1_replace_10 (fun H locs hz1 hP hS => ?_)
    have hz := Nat.le_trans hz (Nat.le_of_eq hz1.symm)
    refine lv_goto (tgt := 21) hx hb dX1_replace_13 (by decide) ?_
    exact hret _ _ _ _ _ (show (e_set v n 2 b) = cRepl v n a b from (by first | (simp [cRepl, bI, eq_true c_1]; done) | (exfalso; simp_all; done))) hP hS dX1_replace_21

set_option maxRecDepth 100000 in
set_option maxHeartbeats 4000000 in
theorem c_X3_freeRooms {l : Launch} {X : eD} {z0 : Nat} {ad kd sp : Nat → Nat} {v : eV} (hc : cK kd sp) : eMu l yX3_freeRooms cX3_freeRooms 2 none 1 [.ref (ad 0)] X z0 ad kd sp v none (cFreeR v 3) := by
  refine e_mutV (by decide +kernel) (Nat.le_of_ble_eq_true rfl) ?_
  intro p e s m args below meth c hx hb hml hown hts hW Q hret ls hl
  obtain ⟨hz, hP, hI, hK⟩ := hW
  have hl : lv_has ls 2 [(0, .ref (ad 0))] := hl
  have hS : va_S (e_A z0) s.heap s.heap [] := va_S.rf
  refine lv_iconst (v := 0) hx hb dX3_freeRooms_0 (by decide) ?_
  refine lv_istore_n (lv' := [(1, .int 0), (0, .ref (ad 0))]) hx hb dX3_freeRooms_1 rfl hl (by decide) rfl (fun ls hl => ?_)
  have L2 : ∀ (k2 : Nat) (i : Nat) (u : eV), 3 - i < k2 → (i ≤ 3) → (u = cFreeR v i) → ∀ (H : Heap) (locs : List Loc), z0 ≤ H.size → e_P X ad kd sp u H → va_S (e_A z0) s.heap H locs →  ∀ ls : Array Slot, lv_has ls 2 [(1, .int (nI i)), (0, .ref (ad 0))] → W p l e (e_rm 1 0 0) s m args below meth c H locs 0 0 Q (F0 m 2 ls []) := by
    intro k2
    induction k2 with
    | zero => intro i u hk; exact absurd hk (Nat.not_lt_zero _)
    | succ k2 ih2 =>
      intro i u hk2 hi eu H locs hz hP hS ls hl
      refine lv_iload_n hx hb dX3_freeRooms_2 rfl (lv_at hl 0 rfl) ?_
      refine lv_iconst (v := 3) hx hb dX3_freeRooms_3 (by decide) ?_
      refine lv_icmp_ge (tgt := 23) hx hb dX3_freeRooms_4 (by decide) (fun c_1 => ?_) (fun c_1 => ?_)
      · have nc_1 : 3 ≤ i := (nI_leI (a := 3) (b := i) (by omega) (by omega)).mp c_1
        exact hret _ _ _ _ _ (show u = cFreeR v 3 from by rw [eu, show i = 3 by omega]) hP hS dX3_freeRooms_23
      · have nc_1 : ¬ 3 ≤ i := fun h => c_1 ((nI_leI (a := 3) (b := i) (by omega) (by omega)).mpr h)
        refine lv_aload_n hx hb dX3_freeRooms_7 rfl (lv_at hl 1 rfl) ?_
        refine e_getf hx hb hts inX3 hown hK hP 0 5 hc.1.1 (by decide) rfl rfl 3 (by decide) aw_270 (fun _ h => h) rfl dX3_freeRooms_8 ?_
        refine lv_iload_n hx hb dX3_freeRooms_11 rfl (lv_at hl 0 rfl) ?_
        refine e_aald hx hb hK hP 4 10 hc.1.2.2.2.2.1 (by decide) rfl 2 rfl (Or.inr rfl) i rfl (by omega) (by omega) (if_pos (by omega)) dX3_freeRooms_12 ?_
        refine lv_iconst (v := (-1)) hx hb dX3_freeRooms_13 (by decide) ?_
        refine e_cSM (As := [.ref (ad (5 + i)), .int (-1)]) (rest := []) hx hb hml hown hts (c_J7_fill_53178 (l := l) (v := u) (5 + i) 13 (-1) (cK_rows hc (by omega : i < 3)) (by decide)) cw_RX3_261 (by decide) (by decide) hz hP hI hK hS rfl hl.1 rfl (Nat.le_of_ble_eq_true rfl) ⟨Nat.zero_le _, Nat.zero_le _⟩ dX3_freeRooms_14 (fun H locs hz hP hS => ?_)
        refine lv_iinc (v := (nI (i + 1))) (lv' := [(1, .int (nI (i + 1))), (0, .ref (ad 0))]) hx hb dX3_freeRooms_17 hl (k := 0) rfl (nI_add i 1) (by decide) rfl (fun ls hl => ?_)
        refine lv_goto (tgt := 2) hx hb dX3_freeRooms_20 (by decide) ?_
        exact ih2 (i + 1) (cFill u (5 + i) (-1) 13) (by omega) (by omega) (by rw [eu]; rfl) _ _ hz hP hS ls (lv_sub hl [0, 1] rfl)
  exact L2 _ 0 v (Nat.lt_succ_self _) (Nat.zero_le _) (rfl) _ _ hz hP hS ls (lv_sub hl [0, 1] rfl)

set_option maxRecDepth 100000 in
set_option maxHeartbeats 4000000 in
theorem c_X3_chargeKnees {l : Launch} {X : eD} {z0 : Nat} {ad kd sp : Nat → Nat} {v : eV} (hc : cK kd sp) (x : Int32) (a b : Nat) (ha : a < 64) (hb9 : b < 64) : eMu l yX3_chargeKnees cX3_chargeKnees 5 none 8 [.ref (ad 0), .int x, .int (nI a), .int (nI b)] X z0 ad kd sp v none (cCharge v (sp 1) x a b (sp 0)) := by
  refine e_mutV (by decide +kernel) (Nat.le_of_ble_eq_true rfl) ?_
  intro p e s m args below meth c hx hb hml hown hts hW Q hret ls hl
  obtain ⟨hz, hP, hI, hK⟩ := hW
  have hl : lv_has ls 5 [(0, .ref (ad 0)), (1, .int x), (2, .int (nI a)), (3, .int (nI b))] := hl
  have hS : va_S (e_A z0) s.heap s.heap [] := va_S.rf
  have hc0 := hc.2.2.2.2.2
  have hs8 := hc0.1
  have hs12 := hc0.2.1
  have hq2 := hc0.2.2.1
  have hq3 := hc0.2.2.2.1
  have hq4 := hc0.2.2.2.2.1
  have hq5 := hc0.2.2.2.2.2.1
  have hq6 := hc0.2.2.2.2.2.2.1
  have hq7 := hc0.2.2.2.2.2.2.2
  refine lv_iconst (v := 0) hx hb dX3_chargeKnees_0 (by decide) ?_
  refine lv_istore (lv' := [(4, .int 0), (0, .ref (ad 0)), (1, .int x), (2, .int (nI a)), (3, .int (nI b))]) hx hb dX3_chargeKnees_1 hl (by decide) rfl (fun ls hl => ?_)
  have L3 : ∀ (k3 : Nat) (i : Nat) (u : eV), sp 0 - i < k3 → (i ≤ sp 0) → (u = cCharge v (sp 1) x a b i) → ∀ (H : Heap) (locs : List Loc), z0 ≤ H.size → e_P X ad kd sp u H → va_S (e_A z0) s.heap H locs →  ∀ ls : Array Slot, lv_has ls 5 [(4, .int (nI i)), (0, .ref (ad 0)), (1, .int x), (2, .int (nI a)), (3, .int (nI b))] → W p l e (e_rm 8 0 0) s m args below meth c H locs 0 0 Q (F0 m 3 ls []) := by
    intro k3
    induction k3 with
    | zero => intro i u hk; exact absurd hk (Nat.not_lt_zero _)
    | succ k3 ih3 =>
      intro i u hk3 hi eu H locs hz hP hS ls hl
      refine lv_iload hx hb dX3_chargeKnees_3 (lv_at hl 0 rfl) ?_
      refine lv_aload_n hx hb dX3_chargeKnees_5 rfl (lv_at hl 1 rfl) ?_
      refine e_getf hx hb hts inX3 hown hK hP 0 5 hc.1.1 (by decide) rfl rfl 0 (by decide) aw_194 (fun _ h => h) rfl dX3_chargeKnees_6 ?_
      refine e_cV (As := []) (rest := [.int (nI i)]) hx hb hml hown hts 1 (c_Jx4a65c_size_8abf5_1 (l := l) (v := u) hc) cw_RX3_46 (by decide) (by decide) hz hP hI hK hc.1.2.1 (by decide) rfl rfl rfl hl.1 rfl (Nat.le_of_ble_eq_true rfl) ⟨Nat.zero_le _, Nat.zero_le _⟩ dX3_chargeKnees_9 ?_
      refine lv_icmp_ge (tgt := 58) hx hb dX3_chargeKnees_12 (by decide) (fun c_1 => ?_) (fun c_1 => ?_)
      · have nc_1 : (sp 0) ≤ i := (nI_leI (a := (sp 0)) (b := i) (by omega) (by omega)).mp c_1
        exact hret _ _ _ _ _ (show u = cCharge v (sp 1) x a b (sp 0) from by rw [eu, show i = sp 0 by omega]) hP hS dX3_chargeKnees_58
      · have nc_1 : ¬ (sp 0) ≤ i := fun h => c_1 ((nI_leI (a := (sp 0)) (b := i) (by omega) (by omega)).mpr h)
        refine lv_iload_n hx hb dX3_chargeKnees_15 rfl (lv_at hl 2 rfl) ?_
        refine lv_iload hx hb dX3_chargeKnees_16 (lv_at hl 0 rfl) ?_
        refine e_cS (As := [.int x, .int (nI i)]) (rest := []) hx hb hml hown hts (c_X3_takesPart (l := l) (v := u) x i) cw_RX3_273 (by decide) (by decide) hz hP hI hK rfl hl.1 rfl (Nat.le_of_ble_eq_true rfl) ⟨Nat.zero_le _, Nat.zero_le _⟩ dX3_chargeKnees_18 ?_
        refine lv_if_eq (tgt := 52) hx hb dX3_chargeKnees_21 (by decide) (fun c_2 => ?_) (fun c_2 => ?_)
        · have nc_2 : (cTakes x i) = false := bI_0.mp c_2
          refine lv_iinc (v := (nI (i + 1))) (lv' := [(4, .int (nI (i + 1))), (0, .ref (ad 0)), (1, .int x), (2, .int (nI a)), (3, .int (nI b))]) hx hb dX3_chargeKnees_52 hl (k := 0) rfl (nI_add i 1) (by decide) rfl (fun ls hl => ?_)
          refine lv_goto (tgt := 3) hx hb dX3_chargeKnees_55 (by decide) ?_
          exact ih3 (i + 1) u (by omega) (by omega) (by rw [eu]; exact (cCharge_f (by simp [nc_1, nc_2])).symm) _ _ hz hP hS ls (lv_sub hl [0, 1, 2, 3, 4] rfl)
        · have nc_2 : (cTakes x i) = true := bI_n0.mp c_2
          refine lv_aload_n hx hb dX3_chargeKnees_24 rfl (lv_at hl 1 rfl) ?_
          refine e_getf hx hb hts inX3 hown hK hP 0 5 hc.1.1 (by decide) rfl rfl 0 (by decide) aw_194 (fun _ h => h) rfl dX3_chargeKnees_25 ?_
          refine lv_iload hx hb dX3_chargeKnees_28 (lv_at hl 0 rfl) ?_
          refine e_cV (As := [.int (nI i)]) (rest := []) hx hb hml hown hts 1 (c_Jx4a65c_get_915e3_1 (l := l) (v := u) hc i (by omega)) cw_RX3_85 (by decide) (by decide) hz hP hI hK hc.1.2.1 (by decide) rfl rfl rfl hl.1 rfl (Nat.le_of_ble_eq_true rfl) ⟨Nat.zero_le _, Nat.zero_le _⟩ dX3_chargeKnees_30 ?_
          refine e_cast hx hb hts hown hK hP (20 + 7 * i) 1 (((hc.2.2.2.1 i (by omega))).1) (by decide) rfl rfl aw_200 dX3_chargeKnees_33 ?_
          refine lv_dup hx hb dX3_chargeKnees_36 rfl ?_
          refine e_getf hx hb hts inX0 hown hK hP (20 + 7 * i) 1 (((hc.2.2.2.1 i (by omega))).1) (by decide) rfl rfl 2 (by decide) aw_275 (fun _ h => h) rfl dX3_chargeKnees_37 ?_
          refine lv_aload_n hx hb dX3_chargeKnees_40 rfl (lv_at hl 1 rfl) ?_
          refine lv_iload hx hb dX3_chargeKnees_41 (lv_at hl 0 rfl) ?_
          refine lv_iload_n hx hb dX3_chargeKnees_43 rfl (lv_at hl 3 rfl) ?_
          refine lv_iload_n hx hb dX3_chargeKnees_44 rfl (lv_at hl 4 rfl) ?_
          refine e_cV (As := [.int (nI i), .int (nI a), .int (nI b)]) (rest := [.int (u (20 + 7 * i) 2), .ref (ad (20 + 7 * i))]) hx hb hml hown hts 0 (c_X3_pointsFor (l := l) (v := u) hc i a b (by omega) (by omega) (by omega)) cw_RX3_267 (by decide) (by decide) hz hP hI hK hc.1.1 (by decide) rfl rfl rfl hl.1 rfl (Nat.le_of_ble_eq_true rfl) ⟨Nat.zero_le _, Nat.zero_le _⟩ dX3_chargeKnees_45 ?_
          refine lv_iadd hx hb dX3_chargeKnees_48 ?_
          refine e_putf hx hb hts inX0 tyX0 tyX0_ok nmX0 hown hK hP hI hS (20 + 7 * i) 1 (((hc.2.2.2.1 i (by omega))).1) (by decide) rfl rfl 2 (by decide) aw_275 (fun _ h => h) rfl (ty := .int) (by decide +kernel) rfl rfl (Nat.le_of_ble_eq_true rfl) (by simp [e_sh, e_set, upd]) dX3_chargeKnees_49 (fun H locs hz1 hP hS => ?_)
          have hz := Nat.le_trans hz (Nat.le_of_eq hz1.symm)
          refine lv_iinc (v := (nI (i + 1))) (lv' := [(4, .int (nI (i + 1))), (0, .ref (ad 0)), (1, .int x), (2, .int (nI a)), (3, .int (nI b))]) hx hb dX3_chargeKnees_52 hl (k := 0) rfl (nI_add i 1) (by decide) rfl (fun ls hl => ?_)
          refine lv_goto (tgt := 3) hx hb dX3_chargeKnees_55 (by decide) ?_
          exact ih3 (i + 1) (e_set u (20 + 7 * i) 2 ((u (20 + 7 * i) 2) + (cPts u (sp 1) i a b))) (by omega) (by omega) (by rw [eu]; exact (cCharge_t (by simp [nc_1, nc_2])).symm) _ _ hz hP hS ls (lv_sub hl [0, 1, 2, 3, 4] rfl)
  exact L3 _ 0 v (Nat.lt_succ_self _) (Nat.zero_le _) (rfl) _ _ hz hP hS ls (lv_sub hl [0, 1, 2, 3, 4] rfl)

set_option maxRecDepth 100000 in
set_option maxHeartbeats 4000000 in
theorem c_X3_dropLiftsOf {l : Launch} {X : eD} {z0 : Nat} {ad kd sp : Nat → Nat} {v : eV} (hc : cK kd sp) (d : Int32) : eMu l yX3_dropLiftsOf cX3_dropLiftsOf 4 none 6 [.ref (ad 0), .int d] X z0 ad kd sp v none (cDrop v d (sp 1)) := by
  refine e_mutV (by decide +kernel) (Nat.le_of_ble_eq_true rfl) ?_
  intro p e s m args below meth c hx hb hml hown hts hW Q hret ls hl
  obtain ⟨hz, hP, hI, hK⟩ := hW
  have hl : lv_has ls 4 [(0, .ref (ad 0)), (1, .int d)] := hl
  have hS : va_S (e_A z0) s.heap s.heap [] := va_S.rf
  have hc0 := hc.2.2.2.2.2
  have hs8 := hc0.1
  have hs12 := hc0.2.1
  have hq2 := hc0.2.2.1
  have hq3 := hc0.2.2.2.1
  have hq4 := hc0.2.2.2.2.1
  have hq5 := hc0.2.2.2.2.2.1
  have hq6 := hc0.2.2.2.2.2.2.1
  have hq7 := hc0.2.2.2.2.2.2.2
  refine lv_iconst (v := 0) hx hb dX3_dropLiftsOf_0 (by decide) ?_
  refine lv_istore_n (lv' := [(2, .int 0), (0, .ref (ad 0)), (1, .int d)]) hx hb dX3_dropLiftsOf_1 rfl hl (by decide) rfl (fun ls hl => ?_)
  have L2 : ∀ (k2 : Nat) (i : Nat) (u : eV), sp 1 - i < k2 → (i ≤ sp 1) → (u = cDrop v d i) → ∀ (H : Heap) (locs : List Loc), z0 ≤ H.size → e_P X ad kd sp u H → va_S (e_A z0) s.heap H locs →  ∀ ls : Array Slot, lv_has ls 4 [(2, .int (nI i)), (0, .ref (ad 0)), (1, .int d)] → W p l e (e_rm 6 0 0) s m args below meth c H locs 0 0 Q (F0 m 2 ls []) := by
    intro k2
    induction k2 with
    | zero => intro i u hk; exact absurd hk (Nat.not_lt_zero _)
    | succ k2 ih2 =>
      intro i u hk2 hi eu H locs hz hP hS ls hl
      refine lv_iload_n hx hb dX3_dropLiftsOf_2 rfl (lv_at hl 0 rfl) ?_
      refine lv_aload_n hx hb dX3_dropLiftsOf_3 rfl (lv_at hl 1 rfl) ?_
      refine e_getf hx hb hts inX3 hown hK hP 0 5 hc.1.1 (by decide) rfl rfl 1 (by decide) aw_222 (fun _ h => h) rfl dX3_dropLiftsOf_4 ?_
      refine e_cV (As := []) (rest := [.int (nI i)]) hx hb hml hown hts 2 (c_Jx4a65c_size_8abf5_2 (l := l) (v := u) hc) cw_RX3_46 (by decide) (by decide) hz hP hI hK hc.1.2.2.1 (by decide) rfl rfl rfl hl.1 rfl (Nat.le_of_ble_eq_true rfl) ⟨Nat.zero_le _, Nat.zero_le _⟩ dX3_dropLiftsOf_7 ?_
      refine lv_icmp_ge (tgt := 44) hx hb dX3_dropLiftsOf_10 (by decide) (fun c_1 => ?_) (fun c_1 => ?_)
      · have nc_1 : (sp 1) ≤ i := (nI_leI (a := (sp 1)) (b := i) (by omega) (by omega)).mp c_1
        exact hret _ _ _ _ _ (show u = cDrop v d (sp 1) from by rw [eu, show i = sp 1 by omega]) hP hS dX3_dropLiftsOf_44
      · have nc_1 : ¬ (sp 1) ≤ i := fun h => c_1 ((nI_leI (a := (sp 1)) (b := i) (by omega) (by omega)).mpr h)
        refine lv_aload_n hx hb dX3_dropLiftsOf_13 rfl (lv_at hl 1 rfl) ?_
        refine e_getf hx hb hts inX3 hown hK hP 0 5 hc.1.1 (by decide) rfl rfl 1 (by decide) aw_222 (fun _ h => h) rfl dX3_dropLiftsOf_14 ?_
        refine lv_iload_n hx hb dX3_dropLiftsOf_17 rfl (lv_at hl 0 rfl) ?_
        refine e_cV (As := [.int (nI i)]) (rest := []) hx hb hml hown hts 2 (c_Jx4a65c_get_915e3_2 (l := l) (v := u) hc i (by omega)) cw_RX3_85 (by decide) (by decide) hz hP hI hK hc.1.2.2.1 (by decide) rfl rfl rfl hl.1 rfl (Nat.le_of_ble_eq_true rfl) ⟨Nat.zero_le _, Nat.zero_le _⟩ dX3_dropLiftsOf_18 ?_
        refine e_cast hx hb hts hown hK hP (80 + i) 4 (hc.2.2.2.2.1 i (by omega)) (by decide) rfl rfl aw_223 dX3_dropLiftsOf_21 ?_
        refine lv_astore_n (lv' := [(3, .ref (ad (80 + i))), (2, .int (nI i)), (0, .ref (ad 0)), (1, .int d)]) hx hb dX3_dropLiftsOf_24 rfl hl (by decide) rfl (fun ls hl => ?_)
        refine lv_aload_n hx hb dX3_dropLiftsOf_25 rfl (lv_at hl 0 rfl) ?_
        refine e_getf hx hb hts inX1 hown hK hP (80 + i) 4 (hc.2.2.2.2.1 i (by omega)) (by decide) rfl rfl 1 (by decide) aw_241 (fun _ h => h) rfl dX3_dropLiftsOf_26 ?_
        refine lv_iload_n hx hb dX3_dropLiftsOf_29 rfl (lv_at hl 3 rfl) ?_
        refine lv_icmp_ne (tgt := 38) hx hb dX3_dropLiftsOf_30 (by decide) (fun c_2 => ?_) (fun c_2 => ?_)
        · skip
          refine lv_iinc (v := (nI (i + 1))) (lv' := [(2, .int (nI (i + 1))), (3, .ref (ad (80 + i))), (0, .ref (ad 0)), (1, .int d)]) hx hb dX3_dropLiftsOf_38 hl (k := 1) rfl (nI_add i 1) (by decide) rfl (fun ls hl => ?_)
          refine lv_goto (tgt := 2) hx hb dX3_dropLiftsOf_41 (by decide) ?_
          exact ih2 (i + 1) u (by omega) (by omega) (by subst eu; exact (cDrop_f c_2).symm) _ _ hz hP hS ls (lv_sub hl [0, 2, 3] rfl)
        · skip
          refine lv_aload_n hx hb dX3_dropLiftsOf_33 rfl (lv_at hl 0 rfl) ?_
          refine lv_iconst (v := 1) hx hb dX3_dropLiftsOf_34 (by decide) ?_
          refine e_putf hx hb hts inX1 tyX1 tyX1_ok nmX1 hown hK hP hI hS (80 + i) 4 (hc.2.2.2.2.1 i (by omega)) (by decide) rfl rfl 4 (by decide) aw_224 (fun _ h => h) rfl (ty := .boolean) (by decide +kernel) (by decide) (by decide) (Nat.le_of_ble_eq_true rfl) (by simp [e_sh, e_set, upd]) dX3_dropLiftsOf_35 (fun H locs hz1 hP hS => ?_)
          have hz := Nat.le_trans hz (Nat.le_of_eq hz1.symm)
          refine lv_iinc (v := (nI (i + 1))) (lv' := [(2, .int (nI (i + 1))), (3, .ref (ad (80 + i))), (0, .ref (ad 0)), (1, .int d)]) hx hb dX3_dropLiftsOf_38 hl (k := 1) rfl (nI_add i 1) (by decide) rfl (fun ls hl => ?_)
          refine lv_goto (tgt := 2) hx hb dX3_dropLiftsOf_41 (by decide) ?_
          exact ih2 (i + 1) (e_set u (80 + i) 4 1) (by omega) (by omega) (by subst eu; exact (cDrop_t c_2).symm) _ _ hz hP hS ls (lv_sub hl [0, 2, 3] rfl)
  exact L2 _ 0 v (Nat.lt_succ_self _) (Nat.zero_le _) (rfl) _ _ hz hP hS ls (lv_sub hl [0, 1, 2] rfl)

set_option maxRecDepth 100000 in
set_option maxHeartbeats 4000000 in
theorem c_X3_replaceIn {l : Launch} {X : eD} {z0 : Nat} {ad kd sp : Nat → Nat} {v : eV} (hc : cK kd sp) (hcv : cI sp v) (l9 lv c0 dl : Nat) (hl9 : l9 < sp 1) (hlv : lv < sp 0) (hc9 : c0 < 64) (hdl : dl < sp 0) (ec : v (80 + l9) 0 = nI c0) (el : v (80 + l9) 1 = nI dl) : eMu l yX3_replaceIn cX3_replaceIn 7 (some .int) 8 [.ref (ad 0), .ref (ad (80 + l9)), .int (nI lv)] X z0 ad kd sp v (some (.int (cReplV v l9 lv c0 dl (sp 0) (sp 1)))) (cReplS v l9 lv c0 dl (sp 0) (sp 1)) := by
  refine e_mutI (by decide +kernel) (Nat.le_of_ble_eq_true rfl) rfl ?_
  intro p e s m args below meth c hx hb hml hown hts hW Q hret ls hl
  obtain ⟨hz, hP, hI, hK⟩ := hW
  have hl : lv_has ls 7 [(0, .ref (ad 0)), (1, .ref (ad (80 + l9))), (2, .int (nI lv))] := hl
  have hS : va_S (e_A z0) s.heap s.heap [] := va_S.rf
  have hc0 := hc.2.2.2.2.2
  have hs8 := hc0.1
  have hs12 := hc0.2.1
  have hq2 := hc0.2.2.1
  have hq3 := hc0.2.2.2.1
  have hq4 := hc0.2.2.2.2.1
  have hq5 := hc0.2.2.2.2.2.1
  have hq6 := hc0.2.2.2.2.2.2.1
  have hq7 := hc0.2.2.2.2.2.2.2
  refine lv_iconst (v := (-1)) hx hb dX3_replaceIn_0 (by decide) ?_
  refine lv_istore_n (lv' := [(3, .int (-1)), (0, .ref (ad 0)), (1, .ref (ad (80 + l9))), (2, .int (nI lv))]) hx hb dX3_replaceIn_1 rfl hl (by decide) rfl (fun ls hl => ?_)
  refine lv_iconst (v := 3) hx hb dX3_replaceIn_2 (by decide) ?_
  refine lv_istore (lv' := [(4, .int 3), (3, .int (-1)), (0, .ref (ad 0)), (1, .ref (ad (80 + l9))), (2, .int (nI lv))]) hx hb dX3_replaceIn_3 hl (by decide) rfl (fun ls hl => ?_)
  refine lv_iconst (v := 0) hx hb dX3_replaceIn_5 (by decide) ?_
  refine lv_istore (lv' := [(5, .int 0), (4, .int 3), (3, .int (-1)), (0, .ref (ad 0)), (1, .ref (ad (80 + l9))), (2, .int (nI lv))]) hx hb dX3_replaceIn_6 hl (by decide) rfl (fun ls hl => ?_)
  have L8 : ∀ (k8 : Nat) (i : Nat) (x3 : Int32) (x4 : Int32), sp 0 - i < k8 → (i ≤ sp 0) → (cBest (fun j => cNeed v l9 lv j c0 dl (sp 1)) i = (x3, x4)) →  ∀ ls : Array Slot, lv_has ls 7 [(5, .int (nI i)), (4, .int x4), (3, .int x3), (0, .ref (ad 0)), (1, .ref (ad (80 + l9))), (2, .int (nI lv))] → W p l e (e_rm 8 0 0) s m args below meth c s.heap [] 0 0 Q (F0 m 8 ls []) := by
    intro k8
    induction k8 with
    | zero => intro i x3 x4 hk; exact absurd hk (Nat.not_lt_zero _)
    | succ k8 ih8 =>
      intro i x3 x4 hk8 hi ex ls hl
      refine lv_iload hx hb dX3_replaceIn_8 (lv_at hl 0 rfl) ?_
      refine lv_aload_n hx hb dX3_replaceIn_10 rfl (lv_at hl 3 rfl) ?_
      refine e_getf hx hb hts inX3 hown hK hP 0 5 hc.1.1 (by decide) rfl rfl 0 (by decide) aw_194 (fun _ h => h) rfl dX3_replaceIn_11 ?_
      refine e_cV (As := []) (rest := [.int (nI i)]) hx hb hml hown hts 1 (c_Jx4a65c_size_8abf5_1 (l := l) hc) cw_RX3_46 (by decide) (by decide) hz hP hI hK hc.1.2.1 (by decide) rfl rfl rfl hl.1 rfl (Nat.le_of_ble_eq_true rfl) ⟨Nat.zero_le _, Nat.zero_le _⟩ dX3_replaceIn_14 ?_
      refine lv_icmp_ge (tgt := 50) hx hb dX3_replaceIn_17 (by decide) (fun c_1 => ?_) (fun c_1 => ?_)
      · have nc_1 : (sp 0) ≤ i := (nI_leI (a := (sp 0)) (b := i) (by omega) (by omega)).mp c_1
        refine lv_iload_n hx hb dX3_replaceIn_50 rfl (lv_at hl 2 rfl) ?_
        refine lv_iconst (v := (-1)) hx hb dX3_replaceIn_51 (by decide) ?_
        refine lv_icmp_ne (tgt := 62) hx hb dX3_replaceIn_52 (by decide) (fun c_2 => ?_) (fun c_2 => ?_)
        · skip
          obtain ⟨j, hj, ej, fj, lj⟩ := (cBest_get ex).2 c_2
          have hF : cFind v l9 lv c0 dl (sp 0) (sp 1) = (x3, x4) := by unfold cFind; rw [← ex, show i = sp 0 by omega]
          refine lv_iload hx hb dX3_replaceIn_62 (lv_at hl 1 rfl) ?_
          refine lv_if_le (tgt := 96) hx hb dX3_replaceIn_64 (by decide) (fun c_3 => ?_) (fun c_3 => ?_)
          · have nc_3 : ¬ 0 < x4 := Int32.not_lt.mpr c_3
            refine lv_aload_n hx hb dX3_replaceIn_96 rfl (lv_at hl 4 rfl) ?_
            refine lv_iload_n hx hb dX3_replaceIn_97 rfl (lv_at hl 5 rfl) ?_
            refine lv_iload_n hx hb dX3_replaceIn_98 rfl (lv_at hl 2 rfl) ?_
            refine e_nrm (y := nI j) ej ?_
            refine e_cVM (As := [.int (nI lv), .int (nI j)]) (rest := []) hx hb hml hown hts (80 + l9) (c_X1_replace (l := l) (80 + l9) (hc.2.2.2.2.1 l9 hl9) (nI lv) (nI j)) cw_RX3_284 (by decide) (by decide) hz hP hI hK hS (hc.2.2.2.2.1 l9 hl9) (by decide) rfl rfl rfl hl.1 rfl (Nat.le_of_ble_eq_true rfl) ⟨Nat.zero_le _, Nat.zero_le _⟩ dX3_replaceIn_99 (fun H locs hz hP hS => ?_)
            refine lv_iload hx hb dX3_replaceIn_102 (lv_at hl 1 rfl) ?_
            exact hret _ _ _ _ _ _ (show x4 = cReplV v l9 lv c0 dl (sp 0) (sp 1) from by unfold cReplV; rw [hF]; exact (if_neg c_2).symm) (show (cRepl v (80 + l9) (nI lv) (nI j)) = cReplS v l9 lv c0 dl (sp 0) (sp 1) from by unfold cReplS; rw [hF]; simp only []; rw [if_neg c_2, if_neg nc_3, ej]) hP hS dX3_replaceIn_104
          · have nc_3 : 0 < x4 := Int32.not_le.mp c_3
            have h63 : c0 < 63 := cNeed_c (fj ▸ nc_3) (fj ▸ lj)
            refine lv_aload_n hx hb dX3_replaceIn_67 rfl (lv_at hl 3 rfl) ?_
            refine e_getf hx hb hts inX3 hown hK hP 0 5 hc.1.1 (by decide) rfl rfl 0 (by decide) aw_194 (fun _ h => h) rfl dX3_replaceIn_68 ?_
            refine lv_iload_n hx hb dX3_replaceIn_71 rfl (lv_at hl 2 rfl) ?_
            refine e_nrm (y := nI j) ej ?_
            refine e_cV (As := [.int (nI j)]) (rest := []) hx hb hml hown hts 1 (c_Jx4a65c_get_915e3_1 (l := l) hc j (by omega)) cw_RX3_85 (by decide) (by decide) hz hP hI hK hc.1.2.1 (by decide) rfl rfl rfl hl.1 rfl (Nat.le_of_ble_eq_true rfl) ⟨Nat.zero_le _, Nat.zero_le _⟩ dX3_replaceIn_72 ?_
            refine e_cast hx hb hts hown hK hP (20 + 7 * j) 1 (((hc.2.2.2.1 j (by omega))).1) (by decide) rfl rfl aw_200 dX3_replaceIn_75 ?_
            refine lv_aload_n hx hb dX3_replaceIn_78 rfl (lv_at hl 3 rfl) ?_
            refine e_getf hx hb hts inX3 hown hK hP 0 5 hc.1.1 (by decide) rfl rfl 0 (by decide) aw_194 (fun _ h => h) rfl dX3_replaceIn_79 ?_
            refine lv_iload_n hx hb dX3_replaceIn_82 rfl (lv_at hl 5 rfl) ?_
            refine e_cV (As := [.int (nI lv)]) (rest := [.ref (ad (20 + 7 * j))]) hx hb hml hown hts 1 (c_Jx4a65c_get_915e3_1 (l := l) hc lv (by omega)) cw_RX3_85 (by decide) (by decide) hz hP hI hK hc.1.2.1 (by decide) rfl rfl rfl hl.1 rfl (Nat.le_of_ble_eq_true rfl) ⟨Nat.zero_le _, Nat.zero_le _⟩ dX3_replaceIn_83 ?_
            refine e_cast hx hb hts hown hK hP (20 + 7 * lv) 1 (((hc.2.2.2.1 lv (by omega))).1) (by decide) rfl rfl aw_200 dX3_replaceIn_86 ?_
            refine lv_aload_n hx hb dX3_replaceIn_89 rfl (lv_at hl 4 rfl) ?_
            refine e_getf hx hb hts inX1 hown hK hP (80 + l9) 4 (hc.2.2.2.2.1 l9 hl9) (by decide) rfl rfl 0 (by decide) aw_225 (fun _ h => h) rfl dX3_replaceIn_90 ?_
            refine e_nrm (y := nI c0) ec ?_
            refine e_cVM (As := [.ref (ad (20 + 7 * lv)), .int (nI c0)]) (rest := []) hx hb hml hown hts (20 + 7 * j) (c_X0_visit (l := l) (20 + 7 * j) (hc.2.2.2.1 j (by omega)) (20 + 7 * lv) (hc.2.2.2.1 lv (by omega)) c0 (by omega)) cw_RX3_280 (by decide) (by decide) hz hP hI hK hS (((hc.2.2.2.1 j (by omega))).1) (by decide) rfl rfl rfl hl.1 rfl (Nat.le_of_ble_eq_true rfl) ⟨Nat.zero_le _, Nat.zero_le _⟩ dX3_replaceIn_93 (fun H locs hz hP hS => ?_)
            refine lv_aload_n hx hb dX3_replaceIn_96 rfl (lv_at hl 4 rfl) ?_
            refine lv_iload_n hx hb dX3_replaceIn_97 rfl (lv_at hl 5 rfl) ?_
            refine lv_iload_n hx hb dX3_replaceIn_98 rfl (lv_at hl 2 rfl) ?_
            refine e_nrm (y := nI j) ej ?_
            refine e_cVM (As := [.int (nI lv), .int (nI j)]) (rest := []) hx hb hml hown hts (80 + l9) (c_X1_replace (l := l) (v := (cVisitD v (20 + 7 * j) (20 + 7 * lv) c0)) (80 + l9) (hc.2.2.2.2.1 l9 hl9) (nI lv) (nI j)) cw_RX3_284 (by decide) (by decide) hz hP hI hK hS (hc.2.2.2.2.1 l9 hl9) (by decide) rfl rfl rfl hl.1 rfl (Nat.le_of_ble_eq_true rfl) ⟨Nat.zero_le _, Nat.zero_le _⟩ dX3_replaceIn_99 (fun H locs hz hP hS => ?_)
            refine lv_iload hx hb dX3_replaceIn_102 (lv_at hl 1 rfl) ?_
            exact hret _ _ _ _ _ _ (show x4 = cReplV v l9 lv c0 dl (sp 0) (sp 1) from by unfold cReplV; rw [hF]; exact (if_neg c_2).symm) (show (cRepl (cVisitD v (20 + 7 * j) (20 + 7 * lv) c0) (80 + l9) (nI lv) (nI j)) = cReplS v l9 lv c0 dl (sp 0) (sp 1) from by unfold cReplS; rw [hF]; simp only []; rw [if_neg c_2, if_pos nc_3, ej, nN_of rfl (by omega)]) hP hS dX3_replaceIn_104
        · skip
          have hF : cFind v l9 lv c0 dl (sp 0) (sp 1) = (x3, x4) := by unfold cFind; rw [← ex, show i = sp 0 by omega]
          refine lv_aload_n hx hb dX3_replaceIn_55 rfl (lv_at hl 4 rfl) ?_
          refine lv_iconst (v := 1) hx hb dX3_replaceIn_56 (by decide) ?_
          refine e_putf hx hb hts inX1 tyX1 tyX1_ok nmX1 hown hK hP hI hS (80 + l9) 4 (hc.2.2.2.2.1 l9 hl9) (by decide) rfl rfl 4 (by decide) aw_224 (fun _ h => h) rfl (ty := .boolean) (by decide +kernel) (by decide) (by decide) (Nat.le_of_ble_eq_true rfl) (by simp [e_sh, e_set, upd]) dX3_replaceIn_57 (fun H locs hz1 hP hS => ?_)
          have hz := Nat.le_trans hz (Nat.le_of_eq hz1.symm)
          refine lv_iconst (v := 0) hx hb dX3_replaceIn_60 (by decide) ?_
          exact hret _ _ _ _ _ _ (show 0 = cReplV v l9 lv c0 dl (sp 0) (sp 1) from by unfold cReplV; rw [hF]; exact (if_pos c_2).symm) (show (e_set v (80 + l9) 4 1) = cReplS v l9 lv c0 dl (sp 0) (sp 1) from by unfold cReplS; rw [hF]; exact (if_pos c_2).symm) hP hS dX3_replaceIn_61
      · have nc_1 : ¬ (sp 0) ≤ i := fun h => c_1 ((nI_leI (a := (sp 0)) (b := i) (by omega) (by omega)).mpr h)
        refine lv_aload_n hx hb dX3_replaceIn_20 rfl (lv_at hl 3 rfl) ?_
        refine lv_aload_n hx hb dX3_replaceIn_21 rfl (lv_at hl 4 rfl) ?_
        refine lv_iload_n hx hb dX3_replaceIn_22 rfl (lv_at hl 5 rfl) ?_
        refine lv_iload hx hb dX3_replaceIn_23 (lv_at hl 0 rfl) ?_
        refine e_cV (As := [.ref (ad (80 + l9)), .int (nI lv), .int (nI i)]) (rest := []) hx hb hml hown hts 0 (c_X3_movesNeeded (l := l) hc hcv l9 lv i c0 dl (by omega) (by omega) (by omega) (by omega) (by omega) ec el) cw_RX3_276 (by decide) (by decide) hz hP hI hK hc.1.1 (by decide) rfl rfl rfl hl.1 rfl (Nat.le_of_ble_eq_true rfl) ⟨Nat.zero_le _, Nat.zero_le _⟩ dX3_replaceIn_25 ?_
        refine lv_istore (lv' := [(6, .int (cNeed v l9 lv i c0 dl (sp 1))), (5, .int (nI i)), (4, .int x4), (3, .int x3), (0, .ref (ad 0)), (1, .ref (ad (80 + l9))), (2, .int (nI lv))]) hx hb dX3_replaceIn_28 hl (by decide) rfl (fun ls hl => ?_)
        refine lv_iload hx hb dX3_replaceIn_30 (lv_at hl 0 rfl) ?_
        refine lv_iload hx hb dX3_replaceIn_32 (lv_at hl 2 rfl) ?_
        refine lv_icmp_ge (tgt := 44) hx hb dX3_replaceIn_34 (by decide) (fun c_4 => ?_) (fun c_4 => ?_)
        · have nc_4 : ¬ (cNeed v l9 lv i c0 dl (sp 1)) < x4 := Int32.not_lt.mpr c_4
          refine lv_iinc (v := (nI (i + 1))) (lv' := [(5, .int (nI (i + 1))), (6, .int (cNeed v l9 lv i c0 dl (sp 1))), (4, .int x4), (3, .int x3), (0, .ref (ad 0)), (1, .ref (ad (80 + l9))), (2, .int (nI lv))]) hx hb dX3_replaceIn_44 hl (k := 1) rfl (nI_add i 1) (by decide) rfl (fun ls hl => ?_)
          refine lv_goto (tgt := 8) hx hb dX3_replaceIn_47 (by decide) ?_
          exact ih8 (i + 1) x3 x4 (by omega) (by omega) (cBest_f ex nc_4)  ls (lv_sub hl [0, 2, 3, 4, 5, 6] rfl)
        · have nc_4 : (cNeed v l9 lv i c0 dl (sp 1)) < x4 := Int32.not_le.mp c_4
          refine lv_iload hx hb dX3_replaceIn_37 (lv_at hl 1 rfl) ?_
          refine lv_istore_n (lv' := [(3, .int (nI i)), (6, .int (cNeed v l9 lv i c0 dl (sp 1))), (5, .int (nI i)), (4, .int x4), (0, .ref (ad 0)), (1, .ref (ad (80 + l9))), (2, .int (nI lv))]) hx hb dX3_replaceIn_39 rfl hl (by decide) rfl (fun ls hl => ?_)
          refine lv_iload hx hb dX3_replaceIn_40 (lv_at hl 1 rfl) ?_
          refine lv_istore (lv' := [(4, .int (cNeed v l9 lv i c0 dl (sp 1))), (3, .int (nI i)), (6, .int (cNeed v l9 lv i c0 dl (sp 1))), (5, .int (nI i)), (0, .ref (ad 0)), (1, .ref (ad (80 + l9))), (2, .int (nI lv))]) hx hb dX3_replaceIn_42 hl (by decide) rfl (fun ls hl => ?_)
          refine lv_iinc (v := (nI (i + 1))) (lv' := [(5, .int (nI (i + 1))), (4, .int (cNeed v l9 lv i c0 dl (sp 1))), (3, .int (nI i)), (6, .int (cNeed v l9 lv i c0 dl (sp 1))), (0, .ref (ad 0)), (1, .ref (ad (80 + l9))), (2, .int (nI lv))]) hx hb dX3_replaceIn_44 hl (k := 3) rfl (nI_add i 1) (by decide) rfl (fun ls hl => ?_)
          refine lv_goto (tgt := 8) hx hb dX3_replaceIn_47 (by decide) ?_
          exact ih8 (i + 1) (nI i) (cNeed v l9 lv i c0 dl (sp 1)) (by omega) (by omega) (cBest_t ex nc_4)  ls (lv_sub hl [0, 1, 2, 4, 5, 6] rfl)
  exact L8 _ 0 (-1) 3 (Nat.lt_succ_self _) (Nat.zero_le _) (rfl)  ls (lv_sub hl [0, 1, 2, 3, 4, 5] rfl)

set_option maxRecDepth 100000 in
set_option maxHeartbeats 4000000 in
theorem c_X3_sleep {l : Launch} {X : eD} {z0 : Nat} {ad kd sp : Nat → Nat} {v : eV} (hc : cK kd sp) : eMu l yX3_sleep cX3_sleep 3 (some .int) 6 [.ref (ad 0)] X z0 ad kd sp v (some (.int (cRest (cFreeR v 3) (sp 0) 0 4 + 1))) (cSleepS v (sp 0)) := by
  refine e_mutI (by decide +kernel) (Nat.le_of_ble_eq_true rfl) rfl ?_
  intro p e s m args below meth c hx hb hml hown hts hW Q hret ls hl
  obtain ⟨hz, hP, hI, hK⟩ := hW
  have hl : lv_has ls 3 [(0, .ref (ad 0))] := hl
  have hS : va_S (e_A z0) s.heap s.heap [] := va_S.rf
  have hc0 := hc.2.2.2.2.2
  have hs8 := hc0.1
  have hs12 := hc0.2.1
  have hq2 := hc0.2.2.1
  have hq3 := hc0.2.2.2.1
  have hq4 := hc0.2.2.2.2.1
  have hq5 := hc0.2.2.2.2.2.1
  have hq6 := hc0.2.2.2.2.2.2.1
  have hq7 := hc0.2.2.2.2.2.2.2
  refine lv_aload_n hx hb dX3_sleep_0 rfl (lv_at hl 0 rfl) ?_
  refine e_cVM (As := []) (rest := []) hx hb hml hown hts 0 (c_X3_freeRooms (l := l) hc) cw_RX3_32 (by decide) (by decide) hz hP hI hK hS hc.1.1 (by decide) rfl rfl rfl hl.1 rfl (Nat.le_of_ble_eq_true rfl) ⟨Nat.zero_le _, Nat.zero_le _⟩ dX3_sleep_1 (fun H locs hz hP hS => ?_)
  refine lv_iconst (v := 0) hx hb dX3_sleep_4 (by decide) ?_
  refine lv_istore_n (lv' := [(1, .int 0), (0, .ref (ad 0))]) hx hb dX3_sleep_5 rfl hl (by decide) rfl (fun ls hl => ?_)
  have L6 : ∀ (k6 : Nat) (i : Nat) (u : eV), sp 0 - i < k6 → (i ≤ sp 0) → (u = cRest (cFreeR v 3) i) → ∀ (H : Heap) (locs : List Loc), z0 ≤ H.size → e_P X ad kd sp u H → va_S (e_A z0) s.heap H locs →  ∀ ls : Array Slot, lv_has ls 3 [(1, .int (nI i)), (0, .ref (ad 0))] → W p l e (e_rm 6 0 0) s m args below meth c H locs 0 0 Q (F0 m 6 ls []) := by
    intro k6
    induction k6 with
    | zero => intro i u hk; exact absurd hk (Nat.not_lt_zero _)
    | succ k6 ih6 =>
      intro i u hk6 hi eu H locs hz hP hS ls hl
      refine lv_iload_n hx hb dX3_sleep_6 rfl (lv_at hl 0 rfl) ?_
      refine lv_aload_n hx hb dX3_sleep_7 rfl (lv_at hl 1 rfl) ?_
      refine e_getf hx hb hts inX3 hown hK hP 0 5 hc.1.1 (by decide) rfl rfl 0 (by decide) aw_194 (fun _ h => h) rfl dX3_sleep_8 ?_
      refine e_cV (As := []) (rest := [.int (nI i)]) hx hb hml hown hts 1 (c_Jx4a65c_size_8abf5_1 (l := l) (v := u) hc) cw_RX3_46 (by decide) (by decide) hz hP hI hK hc.1.2.1 (by decide) rfl rfl rfl hl.1 rfl (Nat.le_of_ble_eq_true rfl) ⟨Nat.zero_le _, Nat.zero_le _⟩ dX3_sleep_11 ?_
      refine lv_icmp_ge (tgt := 50) hx hb dX3_sleep_14 (by decide) (fun c_1 => ?_) (fun c_1 => ?_)
      · have nc_1 : (sp 0) ≤ i := (nI_leI (a := (sp 0)) (b := i) (by omega) (by omega)).mp c_1
        refine lv_aload_n hx hb dX3_sleep_50 rfl (lv_at hl 1 rfl) ?_
        refine lv_dup hx hb dX3_sleep_51 rfl ?_
        refine e_getf hx hb hts inX3 hown hK hP 0 5 hc.1.1 (by decide) rfl rfl 4 (by decide) aw_316 (fun _ h => h) rfl dX3_sleep_52 ?_
        refine lv_iconst (v := 1) hx hb dX3_sleep_55 (by decide) ?_
        refine lv_iadd hx hb dX3_sleep_56 ?_
        refine e_putf hx hb hts inX3 tyX3 tyX3_ok nmX3 hown hK hP hI hS 0 5 hc.1.1 (by decide) rfl rfl 4 (by decide) aw_316 (fun _ h => h) rfl (ty := .int) (by decide +kernel) rfl rfl (Nat.le_of_ble_eq_true rfl) rfl dX3_sleep_57 (fun H locs hz1 hP hS => ?_)
        have hz := Nat.le_trans hz (Nat.le_of_eq hz1.symm)
        refine lv_aload_n hx hb dX3_sleep_60 rfl (lv_at hl 1 rfl) ?_
        refine e_getf hx hb hts inX3 hown hK hP 0 5 hc.1.1 (by decide) rfl rfl 4 (by decide) aw_316 (fun _ h => h) rfl dX3_sleep_61 ?_
        exact hret _ _ _ _ _ _ (show ((e_set u 0 4 ((u 0 4) + 1)) 0 4) = cRest (cFreeR v 3) (sp 0) 0 4 + 1 from by rw [eu, show i = sp 0 by omega]; rfl) (show (e_set u 0 4 ((u 0 4) + 1)) = cSleepS v (sp 0) from by rw [eu, show i = sp 0 by omega]; rfl) hP hS dX3_sleep_64
      · have nc_1 : ¬ (sp 0) ≤ i := fun h => c_1 ((nI_leI (a := (sp 0)) (b := i) (by omega) (by omega)).mpr h)
        refine lv_aload_n hx hb dX3_sleep_17 rfl (lv_at hl 1 rfl) ?_
        refine e_getf hx hb hts inX3 hown hK hP 0 5 hc.1.1 (by decide) rfl rfl 0 (by decide) aw_194 (fun _ h => h) rfl dX3_sleep_18 ?_
        refine lv_iload_n hx hb dX3_sleep_21 rfl (lv_at hl 0 rfl) ?_
        refine e_cV (As := [.int (nI i)]) (rest := []) hx hb hml hown hts 1 (c_Jx4a65c_get_915e3_1 (l := l) (v := u) hc i (by omega)) cw_RX3_85 (by decide) (by decide) hz hP hI hK hc.1.2.1 (by decide) rfl rfl rfl hl.1 rfl (Nat.le_of_ble_eq_true rfl) ⟨Nat.zero_le _, Nat.zero_le _⟩ dX3_sleep_22 ?_
        refine e_cast hx hb hts hown hK hP (20 + 7 * i) 1 (((hc.2.2.2.1 i (by omega))).1) (by decide) rfl rfl aw_200 dX3_sleep_25 ?_
        refine lv_astore_n (lv' := [(2, .ref (ad (20 + 7 * i))), (1, .int (nI i)), (0, .ref (ad 0))]) hx hb dX3_sleep_28 rfl hl (by decide) rfl (fun ls hl => ?_)
        refine lv_aload_n hx hb dX3_sleep_29 rfl (lv_at hl 0 rfl) ?_
        refine lv_iconst (v := 0) hx hb dX3_sleep_30 (by decide) ?_
        refine lv_aload_n hx hb dX3_sleep_31 rfl (lv_at hl 0 rfl) ?_
        refine e_getf hx hb hts inX0 hown hK hP (20 + 7 * i) 1 (((hc.2.2.2.1 i (by omega))).1) (by decide) rfl rfl 2 (by decide) aw_275 (fun _ h => h) rfl dX3_sleep_32 ?_
        refine lv_bipush (v := 25) hx hb dX3_sleep_35 (by decide) ?_
        refine lv_isub hx hb dX3_sleep_37 ?_
        refine va_mmax hx hb (hml.trans hl.1.symm) hown (hts _ aw_317) (hts _ aw_320) (hts _ aw_154) (hts _ em_code_max) (by decide) (Nat.le_of_ble_eq_true rfl) (Nat.zero_le _) (Nat.zero_le _) dX3_sleep_38 ?_
        refine e_nrm (y := cMax 0 ((u (20 + 7 * i) 2) - 25)) rfl ?_
        refine e_putf hx hb hts inX0 tyX0 tyX0_ok nmX0 hown hK hP hI hS (20 + 7 * i) 1 (((hc.2.2.2.1 i (by omega))).1) (by decide) rfl rfl 2 (by decide) aw_275 (fun _ h => h) rfl (ty := .int) (by decide +kernel) rfl rfl (Nat.le_of_ble_eq_true rfl) (by simp [e_sh, e_set, upd]) dX3_sleep_41 (fun H locs hz1 hP hS => ?_)
        have hz := Nat.le_trans hz (Nat.le_of_eq hz1.symm)
        refine lv_iinc (v := (nI (i + 1))) (lv' := [(1, .int (nI (i + 1))), (2, .ref (ad (20 + 7 * i))), (0, .ref (ad 0))]) hx hb dX3_sleep_44 hl (k := 1) rfl (nI_add i 1) (by decide) rfl (fun ls hl => ?_)
        refine lv_goto (tgt := 6) hx hb dX3_sleep_47 (by decide) ?_
        exact ih6 (i + 1) (e_set u (20 + 7 * i) 2 (cMax 0 ((u (20 + 7 * i) 2) - 25))) (by omega) (by omega) (by rw [eu]; rfl) _ _ hz hP hS ls (lv_sub hl [0, 2] rfl)
  exact L6 _ 0 (cFreeR v 3) (Nat.lt_succ_self _) (Nat.zero_le _) (rfl) _ _ hz hP hS ls (lv_sub hl [0, 1] rfl)

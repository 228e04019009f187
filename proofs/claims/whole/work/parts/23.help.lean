theorem aw_521 : Cond.methodLink RL 17 yX3_move ∈ AW := aw_of (List.mem_of_getElem? (i := 412) (by decide +kernel)) (by decide +kernel)
theorem aw_522 : Cond.instanceMethod yX3_move ∈ AW := aw_of (List.mem_of_getElem? (i := 413) (by decide +kernel)) (by decide +kernel)
theorem aw_523 : Cond.selects RX3 yX3_move yX3_move ∈ AW := aw_of (List.mem_of_getElem? (i := 414) (by decide +kernel)) (by decide +kernel)
set_option maxRecDepth 100000 in
theorem aw_524 : Cond.code yX3_move cX3_move 6 (some .int) ∈ AW := aw_of (List.mem_of_getElem? (i := 415) rfl) (by decide +kernel)
theorem cw_RL_17 : e_cwV RL 17 RX3 yX3_move cX3_move 6 (some .int) 4 := ⟨aw_521, aw_522, aw_523, aw_162, aw_524, rfl, by decide +kernel, by decide +kernel, by decide +kernel⟩
theorem aw_526 : Cond.classLink RL 13 xIO ∈ AW := aw_of (List.mem_of_getElem? (i := 191) (by decide +kernel)) (by decide +kernel)
theorem aw_527 : Cond.classLink RL 21 xIA ∈ AW := aw_of (List.mem_of_getElem? (i := 411) (by decide +kernel)) (by decide +kernel)
theorem aw_528 : Cond.classLink RL 15 xIS ∈ AW := aw_of (List.mem_of_getElem? (i := 269) (by decide +kernel)) (by decide +kernel)
theorem aw_529 : Cond.methodLink RL 23 yX3_place ∈ AW := aw_of (List.mem_of_getElem? (i := 456) (by decide +kernel)) (by decide +kernel)
theorem aw_530 : Cond.instanceMethod yX3_place ∈ AW := aw_of (List.mem_of_getElem? (i := 457) (by decide +kernel)) (by decide +kernel)
theorem aw_531 : Cond.selects RX3 yX3_place yX3_place ∈ AW := aw_of (List.mem_of_getElem? (i := 458) (by decide +kernel)) (by decide +kernel)
set_option maxRecDepth 100000 in
theorem aw_532 : Cond.code yX3_place cX3_place 4 (some .int) ∈ AW := aw_of (List.mem_of_getElem? (i := 459) rfl) (by decide +kernel)
theorem cw_RL_23 : e_cwV RL 23 RX3 yX3_place cX3_place 4 (some .int) 3 := ⟨aw_529, aw_530, aw_531, aw_162, aw_532, rfl, by decide +kernel, by decide +kernel, by decide +kernel⟩
theorem aw_534 : Cond.methodLink RL 27 yX3_placeAnew ∈ AW := aw_of (List.mem_of_getElem? (i := 467) (by decide +kernel)) (by decide +kernel)
theorem aw_535 : Cond.instanceMethod yX3_placeAnew ∈ AW := aw_of (List.mem_of_getElem? (i := 468) (by decide +kernel)) (by decide +kernel)
theorem aw_536 : Cond.selects RX3 yX3_placeAnew yX3_placeAnew ∈ AW := aw_of (List.mem_of_getElem? (i := 469) (by decide +kernel)) (by decide +kernel)
set_option maxRecDepth 100000 in
theorem aw_537 : Cond.code yX3_placeAnew cX3_placeAnew 4 (some .int) ∈ AW := aw_of (List.mem_of_getElem? (i := 470) rfl) (by decide +kernel)
theorem cw_RL_27 : e_cwV RL 27 RX3 yX3_placeAnew cX3_placeAnew 4 (some .int) 3 := ⟨aw_534, aw_535, aw_536, aw_162, aw_537, rfl, by decide +kernel, by decide +kernel, by decide +kernel⟩
theorem aw_539 : Cond.methodLink RL 30 yX3_clashes ∈ AW := aw_of (List.mem_of_getElem? (i := 478) (by decide +kernel)) (by decide +kernel)
theorem aw_540 : Cond.instanceMethod yX3_clashes ∈ AW := aw_of (List.mem_of_getElem? (i := 479) (by decide +kernel)) (by decide +kernel)
theorem aw_541 : Cond.selects RX3 yX3_clashes yX3_clashes ∈ AW := aw_of (List.mem_of_getElem? (i := 480) (by decide +kernel)) (by decide +kernel)
set_option maxRecDepth 100000 in
theorem aw_542 : Cond.code yX3_clashes cX3_clashes 2 (some .int) ∈ AW := aw_of (List.mem_of_getElem? (i := 481) rfl) (by decide +kernel)
theorem cw_RL_30 : e_cwV RL 30 RX3 yX3_clashes cX3_clashes 2 (some .int) 1 := ⟨aw_539, aw_540, aw_541, aw_162, aw_542, rfl, by decide +kernel, by decide +kernel, by decide +kernel⟩
theorem aw_544 : Cond.methodLink RL 37 yX3_ofLift ∈ AW := aw_of (List.mem_of_getElem? (i := 525) (by decide +kernel)) (by decide +kernel)
theorem aw_545 : Cond.instanceMethod yX3_ofLift ∈ AW := aw_of (List.mem_of_getElem? (i := 526) (by decide +kernel)) (by decide +kernel)
theorem aw_546 : Cond.selects RX3 yX3_ofLift yX3_ofLift ∈ AW := aw_of (List.mem_of_getElem? (i := 527) (by decide +kernel)) (by decide +kernel)
set_option maxRecDepth 100000 in
theorem aw_547 : Cond.code yX3_ofLift cX3_ofLift 4 (some .int) ∈ AW := aw_of (List.mem_of_getElem? (i := 528) rfl) (by decide +kernel)
theorem cw_RL_37 : e_cwV RL 37 RX3 yX3_ofLift cX3_ofLift 4 (some .int) 2 := ⟨aw_544, aw_545, aw_546, aw_162, aw_547, rfl, by decide +kernel, by decide +kernel, by decide +kernel⟩
theorem aw_549 : Cond.methodLink RL 40 yX3_tempo ∈ AW := aw_of (List.mem_of_getElem? (i := 566) (by decide +kernel)) (by decide +kernel)
theorem aw_550 : Cond.instanceMethod yX3_tempo ∈ AW := aw_of (List.mem_of_getElem? (i := 567) (by decide +kernel)) (by decide +kernel)
theorem aw_551 : Cond.selects RX3 yX3_tempo yX3_tempo ∈ AW := aw_of (List.mem_of_getElem? (i := 568) (by decide +kernel)) (by decide +kernel)
set_option maxRecDepth 100000 in
theorem aw_552 : Cond.code yX3_tempo cX3_tempo 4 (some .int) ∈ AW := aw_of (List.mem_of_getElem? (i := 569) rfl) (by decide +kernel)
theorem cw_RL_40 : e_cwV RL 40 RX3 yX3_tempo cX3_tempo 4 (some .int) 2 := ⟨aw_549, aw_550, aw_551, aw_162, aw_552, rfl, by decide +kernel, by decide +kernel, by decide +kernel⟩
theorem aw_554 : Cond.methodLink RL 43 yX3_begins ∈ AW := aw_of (List.mem_of_getElem? (i := 593) (by decide +kernel)) (by decide +kernel)
theorem aw_555 : Cond.instanceMethod yX3_begins ∈ AW := aw_of (List.mem_of_getElem? (i := 594) (by decide +kernel)) (by decide +kernel)
theorem aw_556 : Cond.selects RX3 yX3_begins yX3_begins ∈ AW := aw_of (List.mem_of_getElem? (i := 595) (by decide +kernel)) (by decide +kernel)
set_option maxRecDepth 100000 in
theorem aw_557 : Cond.code yX3_begins cX3_begins 4 (some .int) ∈ AW := aw_of (List.mem_of_getElem? (i := 596) rfl) (by decide +kernel)
theorem cw_RL_43 : e_cwV RL 43 RX3 yX3_begins cX3_begins 4 (some .int) 1 := ⟨aw_554, aw_555, aw_556, aw_162, aw_557, rfl, by decide +kernel, by decide +kernel, by decide +kernel⟩
theorem aw_559 : Cond.classLink RL 46 xAR ∈ AW := aw_of (List.mem_of_getElem? (i := 579) (by decide +kernel)) (by decide +kernel)
theorem aw_560 : Cond.methodLink RL 48 yX3_rehearse ∈ AW := aw_of (List.mem_of_getElem? (i := 608) (by decide +kernel)) (by decide +kernel)
theorem aw_561 : Cond.instanceMethod yX3_rehearse ∈ AW := aw_of (List.mem_of_getElem? (i := 609) (by decide +kernel)) (by decide +kernel)
theorem aw_562 : Cond.selects RX3 yX3_rehearse yX3_rehearse ∈ AW := aw_of (List.mem_of_getElem? (i := 610) (by decide +kernel)) (by decide +kernel)
set_option maxRecDepth 100000 in
theorem aw_563 : Cond.code yX3_rehearse cX3_rehearse 6 (some .int) ∈ AW := aw_of (List.mem_of_getElem? (i := 611) rfl) (by decide +kernel)
theorem cw_RL_48 : e_cwV RL 48 RX3 yX3_rehearse cX3_rehearse 6 (some .int) 4 := ⟨aw_560, aw_561, aw_562, aw_162, aw_563, rfl, by decide +kernel, by decide +kernel, by decide +kernel⟩
theorem aw_565 : Cond.methodLink RL 51 yX3_rehearsal ∈ AW := aw_of (List.mem_of_getElem? (i := 655) (by decide +kernel)) (by decide +kernel)
theorem aw_566 : Cond.instanceMethod yX3_rehearsal ∈ AW := aw_of (List.mem_of_getElem? (i := 656) (by decide +kernel)) (by decide +kernel)
theorem aw_567 : Cond.selects RX3 yX3_rehearsal yX3_rehearsal ∈ AW := aw_of (List.mem_of_getElem? (i := 657) (by decide +kernel)) (by decide +kernel)
set_option maxRecDepth 100000 in
theorem aw_568 : Cond.code yX3_rehearsal cX3_rehearsal 3 (some .int) ∈ AW := aw_of (List.mem_of_getElem? (i := 658) rfl) (by decide +kernel)
theorem cw_RL_51 : e_cwV RL 51 RX3 yX3_rehearsal cX3_rehearsal 3 (some .int) 2 := ⟨aw_565, aw_566, aw_567, aw_162, aw_568, rfl, by decide +kernel, by decide +kernel, by decide +kernel⟩
theorem aw_570 : Cond.methodLink RL 54 yX3_knees ∈ AW := aw_of (List.mem_of_getElem? (i := 662) (by decide +kernel)) (by decide +kernel)
theorem aw_571 : Cond.instanceMethod yX3_knees ∈ AW := aw_of (List.mem_of_getElem? (i := 663) (by decide +kernel)) (by decide +kernel)
theorem aw_572 : Cond.selects RX3 yX3_knees yX3_knees ∈ AW := aw_of (List.mem_of_getElem? (i := 664) (by decide +kernel)) (by decide +kernel)
set_option maxRecDepth 100000 in
theorem aw_573 : Cond.code yX3_knees cX3_knees 2 (some .int) ∈ AW := aw_of (List.mem_of_getElem? (i := 665) rfl) (by decide +kernel)
theorem cw_RL_54 : e_cwV RL 54 RX3 yX3_knees cX3_knees 2 (some .int) 1 := ⟨aw_570, aw_571, aw_572, aw_162, aw_573, rfl, by decide +kernel, by decide +kernel, by decide +kernel⟩
theorem aw_575 : Cond.methodLink RL 57 yX3_hurt ∈ AW := aw_of (List.mem_of_getElem? (i := 669) (by decide +kernel)) (by decide +kernel)
theorem aw_576 : Cond.instanceMethod yX3_hurt ∈ AW := aw_of (List.mem_of_getElem? (i := 670) (by decide +kernel)) (by decide +kernel)
theorem aw_577 : Cond.selects RX3 yX3_hurt yX3_hurt ∈ AW := aw_of (List.mem_of_getElem? (i := 671) (by decide +kernel)) (by decide +kernel)
set_option maxRecDepth 100000 in
theorem aw_578 : Cond.code yX3_hurt cX3_hurt 5 (some .int) ∈ AW := aw_of (List.mem_of_getElem? (i := 672) rfl) (by decide +kernel)
theorem cw_RL_57 : e_cwV RL 57 RX3 yX3_hurt cX3_hurt 5 (some .int) 1 := ⟨aw_575, aw_576, aw_577, aw_162, aw_578, rfl, by decide +kernel, by decide +kernel, by decide +kernel⟩
theorem aw_580 : Cond.methodLink RL 7 yX3_dancer ∈ AW := aw_of (List.mem_of_getElem? (i := 270) (by decide +kernel)) (by decide +kernel)
theorem aw_581 : Cond.instanceMethod yX3_dancer ∈ AW := aw_of (List.mem_of_getElem? (i := 271) (by decide +kernel)) (by decide +kernel)
theorem aw_582 : Cond.selects RX3 yX3_dancer yX3_dancer ∈ AW := aw_of (List.mem_of_getElem? (i := 272) (by decide +kernel)) (by decide +kernel)
set_option maxRecDepth 100000 in
theorem aw_583 : Cond.code yX3_dancer cX3_dancer 3 (some .int) ∈ AW := aw_of (List.mem_of_getElem? (i := 273) rfl) (by decide +kernel)
theorem cw_RL_7 : e_cwV RL 7 RX3 yX3_dancer cX3_dancer 3 (some .int) 2 := ⟨aw_580, aw_581, aw_582, aw_162, aw_583, rfl, by decide +kernel, by decide +kernel, by decide +kernel⟩
theorem aw_585 : Cond.methodLink RL 34 yX3_lift ∈ AW := aw_of (List.mem_of_getElem? (i := 485) (by decide +kernel)) (by decide +kernel)
theorem aw_586 : Cond.instanceMethod yX3_lift ∈ AW := aw_of (List.mem_of_getElem? (i := 486) (by decide +kernel)) (by decide +kernel)
theorem aw_587 : Cond.selects RX3 yX3_lift yX3_lift ∈ AW := aw_of (List.mem_of_getElem? (i := 487) (by decide +kernel)) (by decide +kernel)
set_option maxRecDepth 100000 in
theorem aw_588 : Cond.code yX3_lift cX3_lift 5 (some .int) ∈ AW := aw_of (List.mem_of_getElem? (i := 488) rfl) (by decide +kernel)
theorem cw_RL_34 : e_cwV RL 34 RX3 yX3_lift cX3_lift 5 (some .int) 4 := ⟨aw_585, aw_586, aw_587, aw_162, aw_588, rfl, by decide +kernel, by decide +kernel, by decide +kernel⟩
set_option maxRecDepth 100000 in
set_option maxHeartbeats 4000000 in
theorem c_L_move {l : Launch} (hl9 : l.stackTraces = false) {X : eD} {z0 t0 mi : Nat} {ad kd sp : Nat → Nat} {v : eV} {a0 : Nat} (hc : cK kd sp) (hcv : cI sp v) (d c0 x y : Int32) (k120 : kd 120 = 17) {v9 : eV} (h0 : cMoveC v (sp 0) d c0 x y = 0 → e_set (cMoveS v (nN d) (nN c0) x y) 120 0 (cCount (cMoveS v (nN d) (nN c0) x y) (20 + 7 * nN d) 64) = v9) (h1 : ¬ cMoveC v (sp 0) d c0 x y = 0 → v = v9) : eHp l yL_move cL_move 7 [(0, 14, 17, 13), (0, 14, 21, 21), (0, 14, 25, 15)] 9 60 2000 [.ref (ad 0), .int d, .int c0, .int x, .int y, .ref (ad 120)] X z0 t0 mi ad kd sp v a0 (some (.int (cMoveC v (sp 0) d c0 x y))) kd sp v9 := by
  refine e_hlp (by decide +kernel) (Nat.le_of_ble_eq_true rfl) ?_
  intro p e s m args below meth c hx hb hml hown hts hW htab Q hret ls hl
  obtain ⟨⟨⟨hz, hP, hI, hK⟩, hsz, hL⟩, hT, hNc⟩ := hW
  have hl : lv_has ls 7 [(0, .ref (ad 0)), (1, .int d), (2, .int c0), (3, .int x), (4, .int y), (5, .ref (ad 120))] := hl
  have hS : va_S (e_A z0) s.heap s.heap [] := va_S.rf
  refine lv_aload hx hb dL_move_0 (lv_at hl 5 rfl) ?_
  refine lv_iconst (v := 0) hx hb dL_move_2 (by decide) ?_
  refine lv_aload_n hx hb dL_move_3 rfl (lv_at hl 0 rfl) ?_
  refine lv_iload_n hx hb dL_move_4 rfl (lv_at hl 1 rfl) ?_
  refine lv_iload_n hx hb dL_move_5 rfl (lv_at hl 2 rfl) ?_
  refine lv_iload_n hx hb dL_move_6 rfl (lv_at hl 3 rfl) ?_
  refine lv_iload hx hb dL_move_7 (lv_at hl 4 rfl) ?_
  refine e_cVH (As := [.int d, .int c0, .int x, .int y]) (rest := [.int 0, .ref (ad 120)]) hx hb hml hown hts hT 0 (c_X3_move (l := l) hl9 (v := v) hc hcv d c0 x y) cw_RL_17 (by decide) (by decide) hz hP hI hK hS hc.1.1 (by decide) rfl rfl rfl hl.1 rfl (Nat.le_of_ble_eq_true rfl) ⟨by decide, by decide⟩ dL_move_9 (fun H locs hg hz2 hP hI hS => ?_) (fun H locs E ce q hPE hz2 hP hS hce hcv hcl => ?_)
  · skip
    refine lv_i2l hx hb dL_move_12 rfl ?_
    refine e_last hx hb hK hP hI hS 120 k120 dL_move_13 (fun H locs hz1 hP hS => ?_)
    refine lv_goto (tgt := 29) hx hb dL_move_14 (by decide) ?_
    refine lv_iconst (v := 0) hx hb dL_move_29 (by decide) ?_
    exact hret _ _ _ _ _ _ _ _ _ _ rfl rfl (h0 hg) hg.symm (by decide) (by decide) hP hI hS dL_move_30
  · obtain ⟨k9, hk9, hC9⟩ := hPE
    simp only [List.mem_cons, Prod.mk.injEq, List.not_mem_nil, or_false] at hk9
    have hn9 : ¬ cMoveC v (sp 0) d c0 x y = 0 := by rw [hC9]; rcases hk9 with ⟨rfl, rfl⟩ | ⟨rfl, rfl⟩ | ⟨rfl, rfl⟩ <;> decide
    rcases hk9 with ⟨rfl, rfl⟩ | ⟨rfl, rfl⟩ | ⟨rfl, rfl⟩
    · refine vx_catch hown [] ⟨0, 14, 17, 13⟩ [⟨0, 14, 21, 21⟩, ⟨0, 14, 25, 15⟩] htab (List.forall_mem_nil _) (by decide) (by decide) (hts _ aw_526) (va_Nw.use rfl (hT.2.2.1 _ (by decide +kernel))) hce hcv hcl ?_
      refine lv_astore (lv' := [(6, .ref q), (0, .ref (ad 0)), (1, .int d), (2, .int c0), (3, .int x), (4, .int y), (5, .ref (ad 120))]) hx hb dL_move_17 hl (by decide) rfl (fun ls hl => ?_)
      refine lv_iconst (v := 1) hx hb dL_move_19 (by decide) ?_
      exact hret _ _ _ _ _ _ _ _ _ _ rfl rfl (h1 hn9) hC9.symm (by decide) (by decide) hP hI hS dL_move_20
    · refine vx_catch hown [⟨0, 14, 17, 13⟩] ⟨0, 14, 21, 21⟩ [⟨0, 14, 25, 15⟩] htab (List.forall_mem_cons.mpr ⟨Or.inr ⟨by decide, _, hts _ aw_526, hNc (xIA, xIO) (by decide +kernel)⟩, (List.forall_mem_nil _)⟩) (by decide) (by decide) (hts _ aw_527) (va_Nw.use rfl (hT.2.2.1 _ (by decide +kernel))) hce hcv hcl ?_
      refine lv_astore (lv' := [(6, .ref q), (0, .ref (ad 0)), (1, .int d), (2, .int c0), (3, .int x), (4, .int y), (5, .ref (ad 120))]) hx hb dL_move_21 hl (by decide) rfl (fun ls hl => ?_)
      refine lv_iconst (v := 2) hx hb dL_move_23 (by decide) ?_
      exact hret _ _ _ _ _ _ _ _ _ _ rfl rfl (h1 hn9) hC9.symm (by decide) (by decide) hP hI hS dL_move_24
    · refine vx_catch hown [⟨0, 14, 17, 13⟩, ⟨0, 14, 21, 21⟩] ⟨0, 14, 25, 15⟩ [] htab (List.forall_mem_cons.mpr ⟨Or.inr ⟨by decide, _, hts _ aw_526, hNc (xIS, xIO) (by decide +kernel)⟩, (List.forall_mem_cons.mpr ⟨Or.inr ⟨by decide, _, hts _ aw_527, hNc (xIS, xIA) (by decide +kernel)⟩, (List.forall_mem_nil _)⟩)⟩) (by decide) (by decide) (hts _ aw_528) (va_Nw.use rfl (hT.2.2.1 _ (by decide +kernel))) hce hcv hcl ?_
      refine lv_astore (lv' := [(6, .ref q), (0, .ref (ad 0)), (1, .int d), (2, .int c0), (3, .int x), (4, .int y), (5, .ref (ad 120))]) hx hb dL_move_25 hl (by decide) rfl (fun ls hl => ?_)
      refine lv_iconst (v := 3) hx hb dL_move_27 (by decide) ?_
      exact hret _ _ _ _ _ _ _ _ _ _ rfl rfl (h1 hn9) hC9.symm (by decide) (by decide) hP hI hS dL_move_28

set_option maxRecDepth 100000 in
set_option maxHeartbeats 4000000 in
theorem c_L_place {l : Launch} (hl9 : l.stackTraces = false) {X : eD} {z0 t0 mi : Nat} {ad kd sp : Nat → Nat} {v : eV} {a0 : Nat} (hc : cK kd sp) (d c0 b : Int32) (k120 : kd 120 = 17) {v9 : eV} (h0 : cPlaceC (sp 0) d c0 = 0 → e_set v 120 0 (cPlaceV v d c0 b) = v9) (h1 : ¬ cPlaceC (sp 0) d c0 = 0 → v = v9) : eHp l yL_place cL_place 6 [(0, 12, 15, 13)] 9 60 2000 [.ref (ad 0), .int d, .int c0, .int b, .ref (ad 120)] X z0 t0 mi ad kd sp v a0 (some (.int (cPlaceC (sp 0) d c0))) kd sp v9 := by
  refine e_hlp (by decide +kernel) (Nat.le_of_ble_eq_true rfl) ?_
  intro p e s m args below meth c hx hb hml hown hts hW htab Q hret ls hl
  obtain ⟨⟨⟨hz, hP, hI, hK⟩, hsz, hL⟩, hT, hNc⟩ := hW
  have hl : lv_has ls 6 [(0, .ref (ad 0)), (1, .int d), (2, .int c0), (3, .int b), (4, .ref (ad 120))] := hl
  have hS : va_S (e_A z0) s.heap s.heap [] := va_S.rf
  refine lv_aload hx hb dL_place_0 (lv_at hl 4 rfl) ?_
  refine lv_iconst (v := 0) hx hb dL_place_2 (by decide) ?_
  refine lv_aload_n hx hb dL_place_3 rfl (lv_at hl 0 rfl) ?_
  refine lv_iload_n hx hb dL_place_4 rfl (lv_at hl 1 rfl) ?_
  refine lv_iload_n hx hb dL_place_5 rfl (lv_at hl 2 rfl) ?_
  refine lv_iload_n hx hb dL_place_6 rfl (lv_at hl 3 rfl) ?_
  refine e_cVH (As := [.int d, .int c0, .int b]) (rest := [.int 0, .ref (ad 120)]) hx hb hml hown hts hT 0 (c_X3_place (l := l) hl9 (v := v) hc d c0 b) cw_RL_23 (by decide) (by decide) hz hP hI hK hS hc.1.1 (by decide) rfl rfl rfl hl.1 rfl (Nat.le_of_ble_eq_true rfl) ⟨by decide, by decide⟩ dL_place_7 (fun H locs hg hz2 hP hI hS => ?_) (fun H locs E ce q hPE hz2 hP hS hce hcv hcl => ?_)
  · skip
    refine lv_i2l hx hb dL_place_10 rfl ?_
    refine e_last hx hb hK hP hI hS 120 k120 dL_place_11 (fun H locs hz1 hP hS => ?_)
    refine lv_goto (tgt := 19) hx hb dL_place_12 (by decide) ?_
    refine lv_iconst (v := 0) hx hb dL_place_19 (by decide) ?_
    exact hret _ _ _ _ _ _ _ _ _ _ rfl rfl (h0 hg) hg.symm (by decide) (by decide) hP hI hS dL_place_20
  · obtain ⟨k9, hk9, hC9⟩ := hPE
    simp only [List.mem_cons, Prod.mk.injEq, List.not_mem_nil, or_false] at hk9
    have hn9 : ¬ cPlaceC (sp 0) d c0 = 0 := by rw [hC9]; rcases hk9 with ⟨rfl, rfl⟩ <;> decide
    obtain ⟨rfl, rfl⟩ := hk9
    · refine vx_catch hown [] ⟨0, 12, 15, 13⟩ [] htab (List.forall_mem_nil _) (by decide) (by decide) (hts _ aw_526) (va_Nw.use rfl (hT.2.2.1 _ (by decide +kernel))) hce hcv hcl ?_
      refine lv_astore (lv' := [(5, .ref q), (0, .ref (ad 0)), (1, .int d), (2, .int c0), (3, .int b), (4, .ref (ad 120))]) hx hb dL_place_15 hl (by decide) rfl (fun ls hl => ?_)
      refine lv_iconst (v := 1) hx hb dL_place_17 (by decide) ?_
      exact hret _ _ _ _ _ _ _ _ _ _ rfl rfl (h1 hn9) hC9.symm (by decide) (by decide) hP hI hS dL_place_18

set_option maxRecDepth 100000 in
set_option maxHeartbeats 4000000 in
theorem c_L_placeAnew {l : Launch} (hl9 : l.stackTraces = false) {X : eD} {z0 t0 mi : Nat} {ad kd sp : Nat → Nat} {v : eV} {a0 : Nat} (hc : cK kd sp) (d c0 b : Int32) (k120 : kd 120 = 17) {v9 : eV} (h0 : cPlaceC (sp 0) d c0 = 0 → e_set v 120 0 (cAnewV v d c0 b) = v9) (h1 : ¬ cPlaceC (sp 0) d c0 = 0 → v = v9) : eHp l yL_placeAnew cL_placeAnew 6 [(0, 12, 15, 13)] 9 60 2000 [.ref (ad 0), .int d, .int c0, .int b, .ref (ad 120)] X z0 t0 mi ad kd sp v a0 (some (.int (cPlaceC (sp 0) d c0))) kd sp v9 := by
  refine e_hlp (by decide +kernel) (Nat.le_of_ble_eq_true rfl) ?_
  intro p e s m args below meth c hx hb hml hown hts hW htab Q hret ls hl
  obtain ⟨⟨⟨hz, hP, hI, hK⟩, hsz, hL⟩, hT, hNc⟩ := hW
  have hl : lv_has ls 6 [(0, .ref (ad 0)), (1, .int d), (2, .int c0), (3, .int b), (4, .ref (ad 120))] := hl
  have hS : va_S (e_A z0) s.heap s.heap [] := va_S.rf
  refine lv_aload hx hb dL_placeAnew_0 (lv_at hl 4 rfl) ?_
  refine lv_iconst (v := 0) hx hb dL_placeAnew_2 (by decide) ?_
  refine lv_aload_n hx hb dL_placeAnew_3 rfl (lv_at hl 0 rfl) ?_
  refine lv_iload_n hx hb dL_placeAnew_4 rfl (lv_at hl 1 rfl) ?_
  refine lv_iload_n hx hb dL_placeAnew_5 rfl (lv_at hl 2 rfl) ?_
  refine lv_iload_n hx hb dL_placeAnew_6 rfl (lv_at hl 3 rfl) ?_
  refine e_cVH (As := [.int d, .int c0, .int b]) (rest := [.int 0, .ref (ad 120)]) hx hb hml hown hts hT 0 (c_X3_placeAnew (l := l) hl9 (v := v) hc d c0 b) cw_RL_27 (by decide) (by decide) hz hP hI hK hS hc.1.1 (by decide) rfl rfl rfl hl.1 rfl (Nat.le_of_ble_eq_true rfl) ⟨by decide, by decide⟩ dL_placeAnew_7 (fun H locs hg hz2 hP hI hS => ?_) (fun H locs E ce q hPE hz2 hP hS hce hcv hcl => ?_)
  · skip
    refine lv_i2l hx hb dL_placeAnew_10 rfl ?_
    refine e_last hx hb hK hP hI hS 120 k120 dL_placeAnew_11 (fun H locs hz1 hP hS => ?_)
    refine lv_goto (tgt := 19) hx hb dL_placeAnew_12 (by decide) ?_
    refine lv_iconst (v := 0) hx hb dL_placeAnew_19 (by decide) ?_
    exact hret _ _ _ _ _ _ _ _ _ _ rfl rfl (h0 hg) hg.symm (by decide) (by decide) hP hI hS dL_placeAnew_20
  · obtain ⟨k9, hk9, hC9⟩ := hPE
    simp only [List.mem_cons, Prod.mk.injEq, List.not_mem_nil, or_false] at hk9
    have hn9 : ¬ cPlaceC (sp 0) d c0 = 0 := by rw [hC9]; rcases hk9 with ⟨rfl, rfl⟩ <;> decide
    obtain ⟨rfl, rfl⟩ := hk9
    · refine vx_catch hown [] ⟨0, 12, 15, 13⟩ [] htab (List.forall_mem_nil _) (by decide) (by decide) (hts _ aw_526) (va_Nw.use rfl (hT.2.2.1 _ (by decide +kernel))) hce hcv hcl ?_
      refine lv_astore (lv' := [(5, .ref q), (0, .ref (ad 0)), (1, .int d), (2, .int c0), (3, .int b), (4, .ref (ad 120))]) hx hb dL_placeAnew_15 hl (by decide) rfl (fun ls hl => ?_)
      refine lv_iconst (v := 1) hx hb dL_placeAnew_17 (by decide) ?_
      exact hret _ _ _ _ _ _ _ _ _ _ rfl rfl (h1 hn9) hC9.symm (by decide) (by decide) hP hI hS dL_placeAnew_18

set_option maxRecDepth 100000 in
set_option maxHeartbeats 4000000 in
theorem c_L_clashes {l : Launch} (hl9 : l.stackTraces = false) {X : eD} {z0 t0 mi : Nat} {ad kd sp : Nat → Nat} {v : eV} {a0 : Nat} (hc : cK kd sp) (c0 : Int32) (k120 : kd 120 = 17) {v9 : eV} (h0 : cClashesC c0 = 0 → e_set v 120 0 (cClash v (nN c0) (sp 0) (sp 0)) = v9) (h1 : ¬ cClashesC c0 = 0 → v = v9) : eHp l yL_clashes cL_clashes 4 [(0, 9, 12, 13)] 9 60 2000 [.ref (ad 0), .int c0, .ref (ad 120)] X z0 t0 mi ad kd sp v a0 (some (.int (cClashesC c0))) kd sp v9 := by
  refine e_hlp (by decide +kernel) (Nat.le_of_ble_eq_true rfl) ?_
  intro p e s m args below meth c hx hb hml hown hts hW htab Q hret ls hl
  obtain ⟨⟨⟨hz, hP, hI, hK⟩, hsz, hL⟩, hT, hNc⟩ := hW
  have hl : lv_has ls 4 [(0, .ref (ad 0)), (1, .int c0), (2, .ref (ad 120))] := hl
  have hS : va_S (e_A z0) s.heap s.heap [] := va_S.rf
  refine lv_aload_n hx hb dL_clashes_0 rfl (lv_at hl 2 rfl) ?_
  refine lv_iconst (v := 0) hx hb dL_clashes_1 (by decide) ?_
  refine lv_aload_n hx hb dL_clashes_2 rfl (lv_at hl 0 rfl) ?_
  refine lv_iload_n hx hb dL_clashes_3 rfl (lv_at hl 1 rfl) ?_
  refine e_cVH (As := [.int c0]) (rest := [.int 0, .ref (ad 120)]) hx hb hml hown hts hT 0 (c_X3_clashes (l := l) hl9 (v := v) hc c0) cw_RL_30 (by decide) (by decide) hz hP hI hK hS hc.1.1 (by decide) rfl rfl rfl hl.1 rfl (Nat.le_of_ble_eq_true rfl) ⟨by decide, by decide⟩ dL_clashes_4 (fun H locs hg hz2 hP hI hS => ?_) (fun H locs E ce q hPE hz2 hP hS hce hcv hcl => ?_)
  · skip
    refine lv_i2l hx hb dL_clashes_7 rfl ?_
    refine e_last hx hb hK hP hI hS 120 k120 dL_clashes_8 (fun H locs hz1 hP hS => ?_)
    refine lv_goto (tgt := 15) hx hb dL_clashes_9 (by decide) ?_
    refine lv_iconst (v := 0) hx hb dL_clashes_15 (by decide) ?_
    exact hret _ _ _ _ _ _ _ _ _ _ rfl rfl (h0 hg) hg.symm (by decide) (by decide) hP hI hS dL_clashes_16
  · obtain ⟨k9, hk9, hC9⟩ := hPE
    simp only [List.mem_cons, Prod.mk.injEq, List.not_mem_nil, or_false] at hk9
    have hn9 : ¬ cClashesC c0 = 0 := by rw [hC9]; rcases hk9 with ⟨rfl, rfl⟩ <;> decide
    obtain ⟨rfl, rfl⟩ := hk9
    · refine vx_catch hown [] ⟨0, 9, 12, 13⟩ [] htab (List.forall_mem_nil _) (by decide) (by decide) (hts _ aw_526) (va_Nw.use rfl (hT.2.2.1 _ (by decide +kernel))) hce hcv hcl ?_
      refine lv_astore_n (lv' := [(3, .ref q), (0, .ref (ad 0)), (1, .int c0), (2, .ref (ad 120))]) hx hb dL_clashes_12 rfl hl (by decide) rfl (fun ls hl => ?_)
      refine lv_iconst (v := 1) hx hb dL_clashes_13 (by decide) ?_
      exact hret _ _ _ _ _ _ _ _ _ _ rfl rfl (h1 hn9) hC9.symm (by decide) (by decide) hP hI hS dL_clashes_14

set_option maxRecDepth 100000 in
set_option maxHeartbeats 4000000 in
theorem c_L_ofLift {l : Launch} (hl9 : l.stackTraces = false) {X : eD} {z0 t0 mi : Nat} {ad kd sp : Nat → Nat} {v : eV} {a0 : Nat} (hc : cK kd sp) (hcv : cI sp v) (i0 x : Int32) (k120 : kd 120 = 17) {v9 : eV} (h0 : cOfLiftC (sp 1) i0 x = 0 → e_set v 120 0 (cOfLiftV v (sp 1) i0 x) = v9) (h1 : ¬ cOfLiftC (sp 1) i0 x = 0 → v = v9) : eHp l yL_ofLift cL_ofLift 5 [(0, 10, 13, 13), (0, 10, 17, 21)] 11 60 2000 [.ref (ad 0), .int i0, .int x, .ref (ad 120)] X z0 t0 mi ad kd sp v a0 (some (.int (cOfLiftC (sp 1) i0 x))) kd sp v9 := by
  refine e_hlp (by decide +kernel) (Nat.le_of_ble_eq_true rfl) ?_
  intro p e s m args below meth c hx hb hml hown hts hW htab Q hret ls hl
  obtain ⟨⟨⟨hz, hP, hI, hK⟩, hsz, hL⟩, hT, hNc⟩ := hW
  have hl : lv_has ls 5 [(0, .ref (ad 0)), (1, .int i0), (2, .int x), (3, .ref (ad 120))] := hl
  have hS : va_S (e_A z0) s.heap s.heap [] := va_S.rf
  refine lv_aload_n hx hb dL_ofLift_0 rfl (lv_at hl 3 rfl) ?_
  refine lv_iconst (v := 0) hx hb dL_ofLift_1 (by decide) ?_
  refine lv_aload_n hx hb dL_ofLift_2 rfl (lv_at hl 0 rfl) ?_
  refine lv_iload_n hx hb dL_ofLift_3 rfl (lv_at hl 1 rfl) ?_
  refine lv_iload_n hx hb dL_ofLift_4 rfl (lv_at hl 2 rfl) ?_
  refine e_cVH (As := [.int i0, .int x]) (rest := [.int 0, .ref (ad 120)]) hx hb hml hown hts hT 0 (c_X3_ofLift (l := l) hl9 (v := v) hc hcv i0 x) cw_RL_37 (by decide) (by decide) hz hP hI hK hS hc.1.1 (by decide) rfl rfl rfl hl.1 rfl (Nat.le_of_ble_eq_true rfl) ⟨by decide, by decide⟩ dL_ofLift_5 (fun H locs hg hz2 hP hI hS => ?_) (fun H locs E ce q hPE hz2 hP hS hce hcv hcl => ?_)
  · skip
    refine lv_i2l hx hb dL_ofLift_8 rfl ?_
    refine e_last hx hb hK hP hI hS 120 k120 dL_ofLift_9 (fun H locs hz1 hP hS => ?_)
    refine lv_goto (tgt := 21) hx hb dL_ofLift_10 (by decide) ?_
    refine lv_iconst (v := 0) hx hb dL_ofLift_21 (by decide) ?_
    exact hret _ _ _ _ _ _ _ _ _ _ rfl rfl (h0 hg) hg.symm (by decide) (by decide) hP hI hS dL_ofLift_22
  · obtain ⟨k9, hk9, hC9⟩ := hPE
    simp only [List.mem_cons, Prod.mk.injEq, List.not_mem_nil, or_false] at hk9
    have hn9 : ¬ cOfLiftC (sp 1) i0 x = 0 := by rw [hC9]; rcases hk9 with ⟨rfl, rfl⟩ | ⟨rfl, rfl⟩ <;> decide
    rcases hk9 with ⟨rfl, rfl⟩ | ⟨rfl, rfl⟩
    · refine vx_catch hown [] ⟨0, 10, 13, 13⟩ [⟨0, 10, 17, 21⟩] htab (List.forall_mem_nil _) (by decide) (by decide) (hts _ aw_526) (va_Nw.use rfl (hT.2.2.1 _ (by decide +kernel))) hce hcv hcl ?_
      refine lv_astore (lv' := [(4, .ref q), (0, .ref (ad 0)), (1, .int i0), (2, .int x), (3, .ref (ad 120))]) hx hb dL_ofLift_13 hl (by decide) rfl (fun ls hl => ?_)
      refine lv_iconst (v := 1) hx hb dL_ofLift_15 (by decide) ?_
      exact hret _ _ _ _ _ _ _ _ _ _ rfl rfl (h1 hn9) hC9.symm (by decide) (by decide) hP hI hS dL_ofLift_16
    · refine vx_catch hown [⟨0, 10, 13, 13⟩] ⟨0, 10, 17, 21⟩ [] htab (List.forall_mem_cons.mpr ⟨Or.inr ⟨by decide, _, hts _ aw_526, hNc (xIA, xIO) (by decide +kernel)⟩, (List.forall_mem_nil _)⟩) (by decide) (by decide) (hts _ aw_527) (va_Nw.use rfl (hT.2.2.1 _ (by decide +kernel))) hce hcv hcl ?_
      refine lv_astore (lv' := [(4, .ref q), (0, .ref (ad 0)), (1, .int i0), (2, .int x), (3, .ref (ad 120))]) hx hb dL_ofLift_17 hl (by decide) rfl (fun ls hl => ?_)
      refine lv_iconst (v := 2) hx hb dL_ofLift_19 (by decide) ?_
      exact hret _ _ _ _ _ _ _ _ _ _ rfl rfl (h1 hn9) hC9.symm (by decide) (by decide) hP hI hS dL_ofLift_20

set_option maxRecDepth 100000 in
set_option maxHeartbeats 4000000 in
theorem c_L_tempo {l : Launch} (hl9 : l.stackTraces = false) {X : eD} {z0 t0 mi : Nat} {ad kd sp : Nat → Nat} {v : eV} {a0 : Nat} (hc : cK kd sp) (c0 x : Int32) (k120 : kd 120 = 17) {v9 : eV} (h0 : cTempoC c0 x = 0 → e_set (e_set v 3 (nN c0) x) 120 0 (cLast v (nN c0)) = v9) (h1 : ¬ cTempoC c0 x = 0 → v = v9) : eHp l yL_tempo cL_tempo 5 [(0, 10, 13, 13), (0, 10, 17, 21)] 9 60 2000 [.ref (ad 0), .int c0, .int x, .ref (ad 120)] X z0 t0 mi ad kd sp v a0 (some (.int (cTempoC c0 x))) kd sp v9 := by
  refine e_hlp (by decide +kernel) (Nat.le_of_ble_eq_true rfl) ?_
  intro p e s m args below meth c hx hb hml hown hts hW htab Q hret ls hl
  obtain ⟨⟨⟨hz, hP, hI, hK⟩, hsz, hL⟩, hT, hNc⟩ := hW
  have hl : lv_has ls 5 [(0, .ref (ad 0)), (1, .int c0), (2, .int x), (3, .ref (ad 120))] := hl
  have hS : va_S (e_A z0) s.heap s.heap [] := va_S.rf
  refine lv_aload_n hx hb dL_tempo_0 rfl (lv_at hl 3 rfl) ?_
  refine lv_iconst (v := 0) hx hb dL_tempo_1 (by decide) ?_
  refine lv_aload_n hx hb dL_tempo_2 rfl (lv_at hl 0 rfl) ?_
  refine lv_iload_n hx hb dL_tempo_3 rfl (lv_at hl 1 rfl) ?_
  refine lv_iload_n hx hb dL_tempo_4 rfl (lv_at hl 2 rfl) ?_
  refine e_cVH (As := [.int c0, .int x]) (rest := [.int 0, .ref (ad 120)]) hx hb hml hown hts hT 0 (c_X3_tempo (l := l) hl9 (v := v) hc c0 x) cw_RL_40 (by decide) (by decide) hz hP hI hK hS hc.1.1 (by decide) rfl rfl rfl hl.1 rfl (Nat.le_of_ble_eq_true rfl) ⟨by decide, by decide⟩ dL_tempo_5 (fun H locs hg hz2 hP hI hS => ?_) (fun H locs E ce q hPE hz2 hP hS hce hcv hcl => ?_)
  · skip
    refine lv_i2l hx hb dL_tempo_8 rfl ?_
    refine e_last hx hb hK hP hI hS 120 k120 dL_tempo_9 (fun H locs hz1 hP hS => ?_)
    refine lv_goto (tgt := 21) hx hb dL_tempo_10 (by decide) ?_
    refine lv_iconst (v := 0) hx hb dL_tempo_21 (by decide) ?_
    exact hret _ _ _ _ _ _ _ _ _ _ rfl rfl (h0 hg) hg.symm (by decide) (by decide) hP hI hS dL_tempo_22
  · obtain ⟨k9, hk9, hC9⟩ := hPE
    simp only [List.mem_cons, Prod.mk.injEq, List.not_mem_nil, or_false] at hk9
    have hn9 : ¬ cTempoC c0 x = 0 := by rw [hC9]; rcases hk9 with ⟨rfl, rfl⟩ | ⟨rfl, rfl⟩ <;> decide
    rcases hk9 with ⟨rfl, rfl⟩ | ⟨rfl, rfl⟩
    · refine vx_catch hown [] ⟨0, 10, 13, 13⟩ [⟨0, 10, 17, 21⟩] htab (List.forall_mem_nil _) (by decide) (by decide) (hts _ aw_526) (va_Nw.use rfl (hT.2.2.1 _ (by decide +kernel))) hce hcv hcl ?_
      refine lv_astore (lv' := [(4, .ref q), (0, .ref (ad 0)), (1, .int c0), (2, .int x), (3, .ref (ad 120))]) hx hb dL_tempo_13 hl (by decide) rfl (fun ls hl => ?_)
      refine lv_iconst (v := 1) hx hb dL_tempo_15 (by decide) ?_
      exact hret _ _ _ _ _ _ _ _ _ _ rfl rfl (h1 hn9) hC9.symm (by decide) (by decide) hP hI hS dL_tempo_16
    · refine vx_catch hown [⟨0, 10, 13, 13⟩] ⟨0, 10, 17, 21⟩ [] htab (List.forall_mem_cons.mpr ⟨Or.inr ⟨by decide, _, hts _ aw_526, hNc (xIA, xIO) (by decide +kernel)⟩, (List.forall_mem_nil _)⟩) (by decide) (by decide) (hts _ aw_527) (va_Nw.use rfl (hT.2.2.1 _ (by decide +kernel))) hce hcv hcl ?_
      refine lv_astore (lv' := [(4, .ref q), (0, .ref (ad 0)), (1, .int c0), (2, .int x), (3, .ref (ad 120))]) hx hb dL_tempo_17 hl (by decide) rfl (fun ls hl => ?_)
      refine lv_iconst (v := 2) hx hb dL_tempo_19 (by decide) ?_
      exact hret _ _ _ _ _ _ _ _ _ _ rfl rfl (h1 hn9) hC9.symm (by decide) (by decide) hP hI hS dL_tempo_20

set_option maxRecDepth 100000 in
set_option maxHeartbeats 4000000 in
theorem c_L_begins {l : Launch} (hl9 : l.stackTraces = false) {X : eD} {z0 t0 mi : Nat} {ad kd sp : Nat → Nat} {v : eV} {a0 : Nat} (hc : cK kd sp) (c0 : Int32) (k120 : kd 120 = 17) {v9 : eV} (h0 : cBeginsC v c0 = 0 → e_set v 120 0 ((cSum v (nN c0)).toInt32) = v9) (h1 : ¬ cBeginsC v c0 = 0 → v = v9) : eHp l yL_begins cL_begins 4 [(0, 9, 12, 13), (0, 9, 15, 46)] 9 60 2000 [.ref (ad 0), .int c0, .ref (ad 120)] X z0 t0 mi ad kd sp v a0 (some (.int (cBeginsC v c0))) kd sp v9 := by
  refine e_hlp (by decide +kernel) (Nat.le_of_ble_eq_true rfl) ?_
  intro p e s m args below meth c hx hb hml hown hts hW htab Q hret ls hl
  obtain ⟨⟨⟨hz, hP, hI, hK⟩, hsz, hL⟩, hT, hNc⟩ := hW
  have hl : lv_has ls 4 [(0, .ref (ad 0)), (1, .int c0), (2, .ref (ad 120))] := hl
  have hS : va_S (e_A z0) s.heap s.heap [] := va_S.rf
  refine lv_aload_n hx hb dL_begins_0 rfl (lv_at hl 2 rfl) ?_
  refine lv_iconst (v := 0) hx hb dL_begins_1 (by decide) ?_
  refine lv_aload_n hx hb dL_begins_2 rfl (lv_at hl 0 rfl) ?_
  refine lv_iload_n hx hb dL_begins_3 rfl (lv_at hl 1 rfl) ?_
  refine e_cVH (As := [.int c0]) (rest := [.int 0, .ref (ad 120)]) hx hb hml hown hts hT 0 (c_X3_begins (l := l) hl9 (v := v) hc c0) cw_RL_43 (by decide) (by decide) hz hP hI hK hS hc.1.1 (by decide) rfl rfl rfl hl.1 rfl (Nat.le_of_ble_eq_true rfl) ⟨by decide, by decide⟩ dL_begins_4 (fun H locs hg hz2 hP hI hS => ?_) (fun H locs E ce q hPE hz2 hP hS hce hcv hcl => ?_)
  · skip
    refine lv_i2l hx hb dL_begins_7 rfl ?_
    refine e_last hx hb hK hP hI hS 120 k120 dL_begins_8 (fun H locs hz1 hP hS => ?_)
    refine lv_goto (tgt := 18) hx hb dL_begins_9 (by decide) ?_
    refine lv_iconst (v := 0) hx hb dL_begins_18 (by decide) ?_
    exact hret _ _ _ _ _ _ _ _ _ _ rfl rfl (h0 hg) hg.symm (by decide) (by decide) hP hI hS dL_begins_19
  · obtain ⟨k9, hk9, hC9⟩ := hPE
    simp only [List.mem_cons, Prod.mk.injEq, List.not_mem_nil, or_false] at hk9
    have hn9 : ¬ cBeginsC v c0 = 0 := by rw [hC9]; rcases hk9 with ⟨rfl, rfl⟩ | ⟨rfl, rfl⟩ <;> decide
    rcases hk9 with ⟨rfl, rfl⟩ | ⟨rfl, rfl⟩
    · refine vx_catch hown [] ⟨0, 9, 12, 13⟩ [⟨0, 9, 15, 46⟩] htab (List.forall_mem_nil _) (by decide) (by decide) (hts _ aw_526) (va_Nw.use rfl (hT.2.2.1 _ (by decide +kernel))) hce hcv hcl ?_
      refine lv_astore_n (lv' := [(3, .ref q), (0, .ref (ad 0)), (1, .int c0), (2, .ref (ad 120))]) hx hb dL_begins_12 rfl hl (by decide) rfl (fun ls hl => ?_)
      refine lv_iconst (v := 1) hx hb dL_begins_13 (by decide) ?_
      exact hret _ _ _ _ _ _ _ _ _ _ rfl rfl (h1 hn9) hC9.symm (by decide) (by decide) hP hI hS dL_begins_14
    · refine vx_catch hown [⟨0, 9, 12, 13⟩] ⟨0, 9, 15, 46⟩ [] htab (List.forall_mem_cons.mpr ⟨Or.inr ⟨by decide, _, hts _ aw_526, hNc (xAR, xIO) (by decide +kernel)⟩, (List.forall_mem_nil _)⟩) (by decide) (by decide) (hts _ aw_559) (va_Nw.use rfl (hT.2.2.1 _ (by decide +kernel))) hce hcv hcl ?_
      refine lv_astore_n (lv' := [(3, .ref q), (0, .ref (ad 0)), (1, .int c0), (2, .ref (ad 120))]) hx hb dL_begins_15 rfl hl (by decide) rfl (fun ls hl => ?_)
      refine lv_iconst (v := 2) hx hb dL_begins_16 (by decide) ?_
      exact hret _ _ _ _ _ _ _ _ _ _ rfl rfl (h1 hn9) hC9.symm (by decide) (by decide) hP hI hS dL_begins_17

set_option maxRecDepth 100000 in
set_option maxHeartbeats 4000000 in
theorem c_L_rehearse {l : Launch} (hl9 : l.stackTraces = false) {X : eD} {z0 t0 mi : Nat} {ad kd sp : Nat → Nat} {v : eV} {a0 : Nat} (hc : cK kd sp) (hcv : cI sp v) (r h a b : Int32) (k120 : kd 120 = 17) {v9 : eV} (h0 : cRehC v (sp 0) (sp 1) r h a b = 0 → e_set (cRehS v (sp 0) (sp 1) (nN r) (nN h) (nN a) (nN b)) 120 0 (cParts v (sp 1) (nN a) (nN b) (sp 0)) = v9) (h1 : ¬ cRehC v (sp 0) (sp 1) r h a b = 0 → v = v9) : eHp l yL_rehearse cL_rehearse 7 [(0, 14, 17, 13), (0, 14, 21, 21), (0, 14, 25, 15)] 11 60 2000 [.ref (ad 0), .int r, .int h, .int a, .int b, .ref (ad 120)] X z0 t0 mi ad kd sp v a0 (some (.int (cRehC v (sp 0) (sp 1) r h a b))) kd sp v9 := by
  refine e_hlp (by decide +kernel) (Nat.le_of_ble_eq_true rfl) ?_
  intro p e s m args below meth c hx hb hml hown hts hW htab Q hret ls hl
  obtain ⟨⟨⟨hz, hP, hI, hK⟩, hsz, hL⟩, hT, hNc⟩ := hW
  have hl : lv_has ls 7 [(0, .ref (ad 0)), (1, .int r), (2, .int h), (3, .int a), (4, .int b), (5, .ref (ad 120))] := hl
  have hS : va_S (e_A z0) s.heap s.heap [] := va_S.rf
  refine lv_aload hx hb dL_rehearse_0 (lv_at hl 5 rfl) ?_
  refine lv_iconst (v := 0) hx hb dL_rehearse_2 (by decide) ?_
  refine lv_aload_n hx hb dL_rehearse_3 rfl (lv_at hl 0 rfl) ?_
  refine lv_iload_n hx hb dL_rehearse_4 rfl (lv_at hl 1 rfl) ?_
  refine lv_iload_n hx hb dL_rehearse_5 rfl (lv_at hl 2 rfl) ?_
  refine lv_iload_n hx hb dL_rehearse_6 rfl (lv_at hl 3 rfl) ?_
  refine lv_iload hx hb dL_rehearse_7 (lv_at hl 4 rfl) ?_
  refine e_cVH (As := [.int r, .int h, .int a, .int b]) (rest := [.int 0, .ref (ad 120)]) hx hb hml hown hts hT 0 (c_X3_rehearse (l := l) hl9 (v := v) hc hcv r h a b) cw_RL_48 (by decide) (by decide) hz hP hI hK hS hc.1.1 (by decide) rfl rfl rfl hl.1 rfl (Nat.le_of_ble_eq_true rfl) ⟨by decide, by decide⟩ dL_rehearse_9 (fun H locs hg hz2 hP hI hS => ?_) (fun H locs E ce q hPE hz2 hP hS hce hcv hcl => ?_)
  · skip
    refine lv_i2l hx hb dL_rehearse_12 rfl ?_
    refine e_last hx hb hK hP hI hS 120 k120 dL_rehearse_13 (fun H locs hz1 hP hS => ?_)
    refine lv_goto (tgt := 29) hx hb dL_rehearse_14 (by decide) ?_
    refine lv_iconst (v := 0) hx hb dL_rehearse_29 (by decide) ?_
    exact hret _ _ _ _ _ _ _ _ _ _ rfl rfl (h0 hg) hg.symm (by decide) (by decide) hP hI hS dL_rehearse_30
  · obtain ⟨k9, hk9, hC9⟩ := hPE
    simp only [List.mem_cons, Prod.mk.injEq, List.not_mem_nil, or_false] at hk9
    have hn9 : ¬ cRehC v (sp 0) (sp 1) r h a b = 0 := by rw [hC9]; rcases hk9 with ⟨rfl, rfl⟩ | ⟨rfl, rfl⟩ | ⟨rfl, rfl⟩ <;> decide
    rcases hk9 with ⟨rfl, rfl⟩ | ⟨rfl, rfl⟩ | ⟨rfl, rfl⟩
    · refine vx_catch hown [] ⟨0, 14, 17, 13⟩ [⟨0, 14, 21, 21⟩, ⟨0, 14, 25, 15⟩] htab (List.forall_mem_nil _) (by decide) (by decide) (hts _ aw_526) (va_Nw.use rfl (hT.2.2.1 _ (by decide +kernel))) hce hcv hcl ?_
      refine lv_astore (lv' := [(6, .ref q), (0, .ref (ad 0)), (1, .int r), (2, .int h), (3, .int a), (4, .int b), (5, .ref (ad 120))]) hx hb dL_rehearse_17 hl (by decide) rfl (fun ls hl => ?_)
      refine lv_iconst (v := 1) hx hb dL_rehearse_19 (by decide) ?_
      exact hret _ _ _ _ _ _ _ _ _ _ rfl rfl (h1 hn9) hC9.symm (by decide) (by decide) hP hI hS dL_rehearse_20
    · refine vx_catch hown [⟨0, 14, 17, 13⟩] ⟨0, 14, 21, 21⟩ [⟨0, 14, 25, 15⟩] htab (List.forall_mem_cons.mpr ⟨Or.inr ⟨by decide, _, hts _ aw_526, hNc (xIA, xIO) (by decide +kernel)⟩, (List.forall_mem_nil _)⟩) (by decide) (by decide) (hts _ aw_527) (va_Nw.use rfl (hT.2.2.1 _ (by decide +kernel))) hce hcv hcl ?_
      refine lv_astore (lv' := [(6, .ref q), (0, .ref (ad 0)), (1, .int r), (2, .int h), (3, .int a), (4, .int b), (5, .ref (ad 120))]) hx hb dL_rehearse_21 hl (by decide) rfl (fun ls hl => ?_)
      refine lv_iconst (v := 2) hx hb dL_rehearse_23 (by decide) ?_
      exact hret _ _ _ _ _ _ _ _ _ _ rfl rfl (h1 hn9) hC9.symm (by decide) (by decide) hP hI hS dL_rehearse_24
    · refine vx_catch hown [⟨0, 14, 17, 13⟩, ⟨0, 14, 21, 21⟩] ⟨0, 14, 25, 15⟩ [] htab (List.forall_mem_cons.mpr ⟨Or.inr ⟨by decide, _, hts _ aw_526, hNc (xIS, xIO) (by decide +kernel)⟩, (List.forall_mem_cons.mpr ⟨Or.inr ⟨by decide, _, hts _ aw_527, hNc (xIS, xIA) (by decide +kernel)⟩, (List.forall_mem_nil _)⟩)⟩) (by decide) (by decide) (hts _ aw_528) (va_Nw.use rfl (hT.2.2.1 _ (by decide +kernel))) hce hcv hcl ?_
      refine lv_astore (lv' := [(6, .ref q), (0, .ref (ad 0)), (1, .int r), (2, .int h), (3, .int a), (4, .int b), (5, .ref (ad 120))]) hx hb dL_rehearse_25 hl (by decide) rfl (fun ls hl => ?_)
      refine lv_iconst (v := 3) hx hb dL_rehearse_27 (by decide) ?_
      exact hret _ _ _ _ _ _ _ _ _ _ rfl rfl (h1 hn9) hC9.symm (by decide) (by decide) hP hI hS dL_rehearse_28

set_option maxRecDepth 100000 in
set_option maxHeartbeats 4000000 in
theorem c_L_rehearsal {l : Launch} (hl9 : l.stackTraces = false) {X : eD} {z0 t0 mi : Nat} {ad kd sp : Nat → Nat} {v : eV} {a0 : Nat} (hc : cK kd sp) (r h : Int32) (k120 : kd 120 = 17) {v9 : eV} (h0 : cRehearsalC r h = 0 → e_set v 120 0 (v (5 + nN r) (nN h - 8)) = v9) (h1 : ¬ cRehearsalC r h = 0 → v = v9) : eHp l yL_rehearsal cL_rehearsal 5 [(0, 10, 13, 13)] 9 60 2000 [.ref (ad 0), .int r, .int h, .ref (ad 120)] X z0 t0 mi ad kd sp v a0 (some (.int (cRehearsalC r h))) kd sp v9 := by
  refine e_hlp (by decide +kernel) (Nat.le_of_ble_eq_true rfl) ?_
  intro p e s m args below meth c hx hb hml hown hts hW htab Q hret ls hl
  obtain ⟨⟨⟨hz, hP, hI, hK⟩, hsz, hL⟩, hT, hNc⟩ := hW
  have hl : lv_has ls 5 [(0, .ref (ad 0)), (1, .int r), (2, .int h), (3, .ref (ad 120))] := hl
  have hS : va_S (e_A z0) s.heap s.heap [] := va_S.rf
  refine lv_aload_n hx hb dL_rehearsal_0 rfl (lv_at hl 3 rfl) ?_
  refine lv_iconst (v := 0) hx hb dL_rehearsal_1 (by decide) ?_
  refine lv_aload_n hx hb dL_rehearsal_2 rfl (lv_at hl 0 rfl) ?_
  refine lv_iload_n hx hb dL_rehearsal_3 rfl (lv_at hl 1 rfl) ?_
  refine lv_iload_n hx hb dL_rehearsal_4 rfl (lv_at hl 2 rfl) ?_
  refine e_cVH (As := [.int r, .int h]) (rest := [.int 0, .ref (ad 120)]) hx hb hml hown hts hT 0 (c_X3_rehearsal (l := l) hl9 (v := v) hc r h) cw_RL_51 (by decide) (by decide) hz hP hI hK hS hc.1.1 (by decide) rfl rfl rfl hl.1 rfl (Nat.le_of_ble_eq_true rfl) ⟨by decide, by decide⟩ dL_rehearsal_5 (fun H locs hg hz2 hP hI hS => ?_) (fun H locs E ce q hPE hz2 hP hS hce hcv hcl => ?_)
  · skip
    refine lv_i2l hx hb dL_rehearsal_8 rfl ?_
    refine e_last hx hb hK hP hI hS 120 k120 dL_rehearsal_9 (fun H locs hz1 hP hS => ?_)
    refine lv_goto (tgt := 17) hx hb dL_rehearsal_10 (by decide) ?_
    refine lv_iconst (v := 0) hx hb dL_rehearsal_17 (by decide) ?_
    exact hret _ _ _ _ _ _ _ _ _ _ rfl rfl (h0 hg) hg.symm (by decide) (by decide) hP hI hS dL_rehearsal_18
  · obtain ⟨k9, hk9, hC9⟩ := hPE
    simp only [List.mem_cons, Prod.mk.injEq, List.not_mem_nil, or_false] at hk9
    have hn9 : ¬ cRehearsalC r h = 0 := by rw [hC9]; rcases hk9 with ⟨rfl, rfl⟩ <;> decide
    obtain ⟨rfl, rfl⟩ := hk9
    · refine vx_catch hown [] ⟨0, 10, 13, 13⟩ [] htab (List.forall_mem_nil _) (by decide) (by decide) (hts _ aw_526) (va_Nw.use rfl (hT.2.2.1 _ (by decide +kernel))) hce hcv hcl ?_
      refine lv_astore (lv' := [(4, .ref q), (0, .ref (ad 0)), (1, .int r), (2, .int h), (3, .ref (ad 120))]) hx hb dL_rehearsal_13 hl (by decide) rfl (fun ls hl => ?_)
      refine lv_iconst (v := 1) hx hb dL_rehearsal_15 (by decide) ?_
      exact hret _ _ _ _ _ _ _ _ _ _ rfl rfl (h1 hn9) hC9.symm (by decide) (by decide) hP hI hS dL_rehearsal_16

set_option maxRecDepth 100000 in
set_option maxHeartbeats 4000000 in
theorem c_L_knees {l : Launch} (hl9 : l.stackTraces = false) {X : eD} {z0 t0 mi : Nat} {ad kd sp : Nat → Nat} {v : eV} {a0 : Nat} (hc : cK kd sp) (d : Int32) (k120 : kd 120 = 17) {v9 : eV} (h0 : cKneesC (sp 0) d = 0 → e_set v 120 0 (v (20 + 7 * nN d) 2) = v9) (h1 : ¬ cKneesC (sp 0) d = 0 → v = v9) : eHp l yL_knees cL_knees 4 [(0, 9, 12, 13)] 9 60 2000 [.ref (ad 0), .int d, .ref (ad 120)] X z0 t0 mi ad kd sp v a0 (some (.int (cKneesC (sp 0) d))) kd sp v9 := by
  refine e_hlp (by decide +kernel) (Nat.le_of_ble_eq_true rfl) ?_
  intro p e s m args below meth c hx hb hml hown hts hW htab Q hret ls hl
  obtain ⟨⟨⟨hz, hP, hI, hK⟩, hsz, hL⟩, hT, hNc⟩ := hW
  have hl : lv_has ls 4 [(0, .ref (ad 0)), (1, .int d), (2, .ref (ad 120))] := hl
  have hS : va_S (e_A z0) s.heap s.heap [] := va_S.rf
  refine lv_aload_n hx hb dL_knees_0 rfl (lv_at hl 2 rfl) ?_
  refine lv_iconst (v := 0) hx hb dL_knees_1 (by decide) ?_
  refine lv_aload_n hx hb dL_knees_2 rfl (lv_at hl 0 rfl) ?_
  refine lv_iload_n hx hb dL_knees_3 rfl (lv_at hl 1 rfl) ?_
  refine e_cVH (As := [.int d]) (rest := [.int 0, .ref (ad 120)]) hx hb hml hown hts hT 0 (c_X3_knees (l := l) hl9 (v := v) hc d) cw_RL_54 (by decide) (by decide) hz hP hI hK hS hc.1.1 (by decide) rfl rfl rfl hl.1 rfl (Nat.le_of_ble_eq_true rfl) ⟨by decide, by decide⟩ dL_knees_4 (fun H locs hg hz2 hP hI hS => ?_) (fun H locs E ce q hPE hz2 hP hS hce hcv hcl => ?_)
  · skip
    refine lv_i2l hx hb dL_knees_7 rfl ?_
    refine e_last hx hb hK hP hI hS 120 k120 dL_knees_8 (fun H locs hz1 hP hS => ?_)
    refine lv_goto (tgt := 15) hx hb dL_knees_9 (by decide) ?_
    refine lv_iconst (v := 0) hx hb dL_knees_15 (by decide) ?_
    exact hret _ _ _ _ _ _ _ _ _ _ rfl rfl (h0 hg) hg.symm (by decide) (by decide) hP hI hS dL_knees_16
  · obtain ⟨k9, hk9, hC9⟩ := hPE
    simp only [List.mem_cons, Prod.mk.injEq, List.not_mem_nil, or_false] at hk9
    have hn9 : ¬ cKneesC (sp 0) d = 0 := by rw [hC9]; rcases hk9 with ⟨rfl, rfl⟩ <;> decide
    obtain ⟨rfl, rfl⟩ := hk9
    · refine vx_catch hown [] ⟨0, 9, 12, 13⟩ [] htab (List.forall_mem_nil _) (by decide) (by decide) (hts _ aw_526) (va_Nw.use rfl (hT.2.2.1 _ (by decide +kernel))) hce hcv hcl ?_
      refine lv_astore_n (lv' := [(3, .ref q), (0, .ref (ad 0)), (1, .int d), (2, .ref (ad 120))]) hx hb dL_knees_12 rfl hl (by decide) rfl (fun ls hl => ?_)
      refine lv_iconst (v := 1) hx hb dL_knees_13 (by decide) ?_
      exact hret _ _ _ _ _ _ _ _ _ _ rfl rfl (h1 hn9) hC9.symm (by decide) (by decide) hP hI hS dL_knees_14

set_option maxRecDepth 100000 in
set_option maxHeartbeats 4000000 in
theorem c_L_hurt {l : Launch} (hl9 : l.stackTraces = false) {X : eD} {z0 t0 mi : Nat} {ad kd sp : Nat → Nat} {v : eV} {a0 : Nat} (hc : cK kd sp) (hcv : cI sp v) (d : Int32) (k120 : kd 120 = 17) {v9 : eV} (h0 : cHurtC v (sp 0) d = 0 → e_set ((cMendAll (cHurt0 v (sp 1) (nN d)) (sp 0) (sp 1) (nN d) (sp 1)).1) 120 0 ((cMendAll (cHurt0 v (sp 1) (nN d)) (sp 0) (sp 1) (nN d) (sp 1)).2) = v9) (h1 : ¬ cHurtC v (sp 0) d = 0 → v = v9) : eHp l yL_hurt cL_hurt 4 [(0, 9, 12, 13), (0, 9, 15, 15)] 11 60 2000 [.ref (ad 0), .int d, .ref (ad 120)] X z0 t0 mi ad kd sp v a0 (some (.int (cHurtC v (sp 0) d))) kd sp v9 := by
  refine e_hlp (by decide +kernel) (Nat.le_of_ble_eq_true rfl) ?_
  intro p e s m args below meth c hx hb hml hown hts hW htab Q hret ls hl
  obtain ⟨⟨⟨hz, hP, hI, hK⟩, hsz, hL⟩, hT, hNc⟩ := hW
  have hl : lv_has ls 4 [(0, .ref (ad 0)), (1, .int d), (2, .ref (ad 120))] := hl
  have hS : va_S (e_A z0) s.heap s.heap [] := va_S.rf
  refine lv_aload_n hx hb dL_hurt_0 rfl (lv_at hl 2 rfl) ?_
  refine lv_iconst (v := 0) hx hb dL_hurt_1 (by decide) ?_
  refine lv_aload_n hx hb dL_hurt_2 rfl (lv_at hl 0 rfl) ?_
  refine lv_iload_n hx hb dL_hurt_3 rfl (lv_at hl 1 rfl) ?_
  refine e_cVH (As := [.int d]) (rest := [.int 0, .ref (ad 120)]) hx hb hml hown hts hT 0 (c_X3_hurt (l := l) hl9 (v := v) hc hcv d) cw_RL_57 (by decide) (by decide) hz hP hI hK hS hc.1.1 (by decide) rfl rfl rfl hl.1 rfl (Nat.le_of_ble_eq_true rfl) ⟨by decide, by decide⟩ dL_hurt_4 (fun H locs hg hz2 hP hI hS => ?_) (fun H locs E ce q hPE hz2 hP hS hce hcv hcl => ?_)
  · skip
    refine lv_i2l hx hb dL_hurt_7 rfl ?_
    refine e_last hx hb hK hP hI hS 120 k120 dL_hurt_8 (fun H locs hz1 hP hS => ?_)
    refine lv_goto (tgt := 18) hx hb dL_hurt_9 (by decide) ?_
    refine lv_iconst (v := 0) hx hb dL_hurt_18 (by decide) ?_
    exact hret _ _ _ _ _ _ _ _ _ _ rfl rfl (h0 hg) hg.symm (by decide) (by decide) hP hI hS dL_hurt_19
  · obtain ⟨k9, hk9, hC9⟩ := hPE
    simp only [List.mem_cons, Prod.mk.injEq, List.not_mem_nil, or_false] at hk9
    have hn9 : ¬ cHurtC v (sp 0) d = 0 := by rw [hC9]; rcases hk9 with ⟨rfl, rfl⟩ | ⟨rfl, rfl⟩ <;> decide
    rcases hk9 with ⟨rfl, rfl⟩ | ⟨rfl, rfl⟩
    · refine vx_catch hown [] ⟨0, 9, 12, 13⟩ [⟨0, 9, 15, 15⟩] htab (List.forall_mem_nil _) (by decide) (by decide) (hts _ aw_526) (va_Nw.use rfl (hT.2.2.1 _ (by decide +kernel))) hce hcv hcl ?_
      refine lv_astore_n (lv' := [(3, .ref q), (0, .ref (ad 0)), (1, .int d), (2, .ref (ad 120))]) hx hb dL_hurt_12 rfl hl (by decide) rfl (fun ls hl => ?_)
      refine lv_iconst (v := 1) hx hb dL_hurt_13 (by decide) ?_
      exact hret _ _ _ _ _ _ _ _ _ _ rfl rfl (h1 hn9) hC9.symm (by decide) (by decide) hP hI hS dL_hurt_14
    · refine vx_catch hown [⟨0, 9, 12, 13⟩] ⟨0, 9, 15, 15⟩ [] htab (List.forall_mem_cons.mpr ⟨Or.inr ⟨by decide, _, hts _ aw_526, hNc (xIS, xIO) (by decide +kernel)⟩, (List.forall_mem_nil _)⟩) (by decide) (by decide) (hts _ aw_528) (va_Nw.use rfl (hT.2.2.1 _ (by decide +kernel))) hce hcv hcl ?_
      refine lv_astore_n (lv' := [(3, .ref q), (0, .ref (ad 0)), (1, .int d), (2, .ref (ad 120))]) hx hb dL_hurt_15 rfl hl (by decide) rfl (fun ls hl => ?_)
      refine lv_iconst (v := 2) hx hb dL_hurt_16 (by decide) ?_
      exact hret _ _ _ _ _ _ _ _ _ _ rfl rfl (h1 hn9) hC9.symm (by decide) (by decide) hP hI hS dL_hurt_17

set_option maxRecDepth 100000 in
set_option maxHeartbeats 4000000 in
theorem c_L_dancer_dancer0 {l : Launch} (hl9 : l.stackTraces = false) {X : eD} {z0 t0 mi : Nat} {ad kd sp : Nat → Nat} {v : eV} {a0 : Nat} (hc : cK kd sp) (x y : Int32) (h20 : sp 0 < 8 → ∀ k, k < 7 → kd (20 + 7 * sp 0 + k) = 0) (ha : sp 0 < 8 → ∀ k, k < 7 → ad (20 + 7 * sp 0 + k) = a0 + k) (u6 : ∀ m, kd m = 6 → m = 1) (hcap : sp 2 = 10) (hs8z : sp 0 = 0) (u7 : ∀ m, kd m ≠ 7) (h8 : kd 8 = 0) (hp : sp 5 = 11) (h11 : ad 11 = t0) (ha8 : ad 8 = a0 + 7) (k120 : kd 120 = 17) {kd9 sp9 : Nat → Nat} {v9 : eV} (h0 : cDancerC v (sp 0) x y = 0 → (kup (kup (kup (kup (kup (kup (kup (kup (kup (kup (kup kd (20 + 7 * sp 0) 13) ((20 + 7 * sp 0) + 1) 3) (((20 + 7 * sp 0) + 1) + 1) 84) (((20 + 7 * sp 0) + 1) + 2) 84) ((20 + 7 * sp 0) + 1) 2) ((20 + 7 * sp 0) + 4) 3) (((20 + 7 * sp 0) + 4) + 1) 84) (((20 + 7 * sp 0) + 4) + 2) 84) ((20 + 7 * sp 0) + 4) 2) (20 + 7 * sp 0) 1) 8 7) = kd9 ∧ upN (upN (upN sp 5 8) 7 (sp 0 + 1)) 0 (sp 0 + 1) = sp9 ∧ e_set (e_z (e_set ((e_set (cFill (e_set (e_set (e_z (e_set (e_z (e_z (e_set (cFill (e_set (e_set (e_z (e_set (e_z (e_z (e_set (e_set (e_z v (20 + 7 * sp 0)) (20 + 7 * sp 0) 2 0) (20 + 7 * sp 0) 3 0) ((20 + 7 * sp 0) + 1)) (((20 + 7 * sp 0) + 1) + 1)) ((20 + 7 * sp 0) + 1) 21 1) (((20 + 7 * sp 0) + 1) + 2)) ((20 + 7 * sp 0) + 1) 22 1) ((20 + 7 * sp 0) + 1) 0 x) (((20 + 7 * sp 0) + 1) + 2) x 64) (20 + 7 * sp 0) 21 1) ((20 + 7 * sp 0) + 4)) (((20 + 7 * sp 0) + 4) + 1)) ((20 + 7 * sp 0) + 4) 21 1) (((20 + 7 * sp 0) + 4) + 2)) ((20 + 7 * sp 0) + 4) 22 1) ((20 + 7 * sp 0) + 4) 0 y) (((20 + 7 * sp 0) + 4) + 2) y 64) (20 + 7 * sp 0) 22 1)) 1 0 ((e_set (cFill (e_set (e_set (e_z (e_set (e_z (e_z (e_set (cFill (e_set (e_set (e_z (e_set (e_z (e_z (e_set (e_set (e_z v (20 + 7 * sp 0)) (20 + 7 * sp 0) 2 0) (20 + 7 * sp 0) 3 0) ((20 + 7 * sp 0) + 1)) (((20 + 7 * sp 0) + 1) + 1)) ((20 + 7 * sp 0) + 1) 21 1) (((20 + 7 * sp 0) + 1) + 2)) ((20 + 7 * sp 0) + 1) 22 1) ((20 + 7 * sp 0) + 1) 0 x) (((20 + 7 * sp 0) + 1) + 2) x 64) (20 + 7 * sp 0) 21 1) ((20 + 7 * sp 0) + 4)) (((20 + 7 * sp 0) + 4) + 1)) ((20 + 7 * sp 0) + 4) 21 1) (((20 + 7 * sp 0) + 4) + 2)) ((20 + 7 * sp 0) + 4) 22 1) ((20 + 7 * sp 0) + 4) 0 y) (((20 + 7 * sp 0) + 4) + 2) y 64) (20 + 7 * sp 0) 22 1) 1 0 + 1)) 8) 120 0 (nI (sp 0)) = v9) (h1 : ¬ cDancerC v (sp 0) x y = 0 → kd = kd9 ∧ sp = sp9 ∧ v = v9) : eHp l yL_dancer cL_dancer 5 [(0, 10, 13, 13), (0, 10, 17, 15)] 15 60 2000 [.ref (ad 0), .int x, .int y, .ref (ad 120)] X z0 t0 mi ad kd sp v a0 (some (.int (cDancerC v (sp 0) x y))) kd9 sp9 v9 := by
  refine e_hlp (by decide +kernel) (Nat.le_of_ble_eq_true rfl) ?_
  intro p e s m args below meth c hx hb hml hown hts hW htab Q hret ls hl
  obtain ⟨⟨⟨hz, hP, hI, hK⟩, hsz, hL⟩, hT, hNc⟩ := hW
  have hl : lv_has ls 5 [(0, .ref (ad 0)), (1, .int x), (2, .int y), (3, .ref (ad 120))] := hl
  have hS : va_S (e_A z0) s.heap s.heap [] := va_S.rf
  have hc0 := hc.2.2.2.2.2
  have hs8 := hc0.1
  have hs12 := hc0.2.1
  have hq2 := hc0.2.2.1
  have hq3 := hc0.2.2.2.1
  have hq4 := hc0.2.2.2.2.1
  have hq5 := hc0.2.2.2.2.2.1
  have hq6 := hc0.2.2.2.2.2.2.1
  have hq7 := hc0.2.2.2.2.2.2.2
  refine lv_aload_n hx hb dL_dancer_0 rfl (lv_at hl 3 rfl) ?_
  refine lv_iconst (v := 0) hx hb dL_dancer_1 (by decide) ?_
  refine lv_aload_n hx hb dL_dancer_2 rfl (lv_at hl 0 rfl) ?_
  refine lv_iload_n hx hb dL_dancer_3 rfl (lv_at hl 1 rfl) ?_
  refine lv_iload_n hx hb dL_dancer_4 rfl (lv_at hl 2 rfl) ?_
  refine e_cVHA (As := [.int x, .int y]) (rest := [.int 0, .ref (ad 120)]) hx hb hml hown hts hT hL 0 (c_dancer0 (l := l) hl9 (v := v) hc x y h20 ha u6 hcap hs8z u7 h8 hp h11 ha8) cw_RL_7 (by decide) (by decide) hz hsz hP hI hK hS hc.1.1 (by decide) rfl rfl rfl hl.1 rfl (Nat.le_of_ble_eq_true rfl) ⟨by decide, by decide⟩ dL_dancer_5 (fun H locs hg hz2 hP hI hS => ?_) (fun H locs E ce q hPE hz2 hP hS hce hcv hcl => ?_)
  · skip
    refine lv_i2l hx hb dL_dancer_8 rfl ?_
    refine e_last hx hb hK hP hI hS 120 (kup_n (by omega) (kup_n (by omega) (kup_n (by omega) (kup_n (by omega) (kup_n (by omega) (kup_n (by omega) (kup_n (by omega) (kup_n (by omega) (kup_n (by omega) (kup_n (by omega) (kup_n (by omega) (k120)))))))))))) dL_dancer_9 (fun H locs hz1 hP hS => ?_)
    refine lv_goto (tgt := 21) hx hb dL_dancer_10 (by decide) ?_
    refine lv_iconst (v := 0) hx hb dL_dancer_21 (by decide) ?_
    exact hret _ _ _ _ _ _ _ _ _ _ (h0 hg).1 (h0 hg).2.1 (h0 hg).2.2 hg.symm (by decide) (by decide) hP hI hS dL_dancer_22
  · obtain ⟨k9, hk9, hC9⟩ := hPE
    simp only [List.mem_cons, Prod.mk.injEq, List.not_mem_nil, or_false] at hk9
    have hn9 : ¬ cDancerC v (sp 0) x y = 0 := by rw [hC9]; rcases hk9 with ⟨rfl, rfl⟩ | ⟨rfl, rfl⟩ <;> decide
    rcases hk9 with ⟨rfl, rfl⟩ | ⟨rfl, rfl⟩
    · refine vx_catch hown [] ⟨0, 10, 13, 13⟩ [⟨0, 10, 17, 15⟩] htab (List.forall_mem_nil _) (by decide) (by decide) (hts _ aw_526) (va_Nw.use rfl (hT.2.2.1 _ (by decide +kernel))) hce hcv hcl ?_
      refine lv_astore (lv' := [(4, .ref q), (0, .ref (ad 0)), (1, .int x), (2, .int y), (3, .ref (ad 120))]) hx hb dL_dancer_13 hl (by decide) rfl (fun ls hl => ?_)
      refine lv_iconst (v := 1) hx hb dL_dancer_15 (by decide) ?_
      exact hret _ _ _ _ _ _ _ _ _ _ (h1 hn9).1 (h1 hn9).2.1 (h1 hn9).2.2 hC9.symm (by decide) (by decide) hP hI hS dL_dancer_16
    · refine vx_catch hown [⟨0, 10, 13, 13⟩] ⟨0, 10, 17, 15⟩ [] htab (List.forall_mem_cons.mpr ⟨Or.inr ⟨by decide, _, hts _ aw_526, hNc (xIS, xIO) (by decide +kernel)⟩, (List.forall_mem_nil _)⟩) (by decide) (by decide) (hts _ aw_528) (va_Nw.use rfl (hT.2.2.1 _ (by decide +kernel))) hce hcv hcl ?_
      refine lv_astore (lv' := [(4, .ref q), (0, .ref (ad 0)), (1, .int x), (2, .int y), (3, .ref (ad 120))]) hx hb dL_dancer_17 hl (by decide) rfl (fun ls hl => ?_)
      refine lv_iconst (v := 2) hx hb dL_dancer_19 (by decide) ?_
      exact hret _ _ _ _ _ _ _ _ _ _ (h1 hn9).1 (h1 hn9).2.1 (h1 hn9).2.2 hC9.symm (by decide) (by decide) hP hI hS dL_dancer_20

set_option maxRecDepth 100000 in
set_option maxHeartbeats 4000000 in
theorem c_L_dancer_dancer1 {l : Launch} (hl9 : l.stackTraces = false) {X : eD} {z0 t0 mi : Nat} {ad kd sp : Nat → Nat} {v : eV} {a0 : Nat} (hc : cK kd sp) (x y : Int32) (h20 : sp 0 < 8 → ∀ k, k < 7 → kd (20 + 7 * sp 0 + k) = 0) (ha : sp 0 < 8 → ∀ k, k < 7 → ad (20 + 7 * sp 0 + k) = a0 + k) (u6 : ∀ m, kd m = 6 → m = 1) (hcap : sp 2 = 10) (hs8z : 0 < sp 0) (u7 : ∀ m, kd m = 7 → m = sp 5) (hp5 : sp 5 = 8) (k120 : kd 120 = 17) {kd9 sp9 : Nat → Nat} {v9 : eV} (h0 : cDancerC v (sp 0) x y = 0 → (kup (kup (kup (kup (kup (kup (kup (kup (kup (kup kd (20 + 7 * sp 0) 13) ((20 + 7 * sp 0) + 1) 3) (((20 + 7 * sp 0) + 1) + 1) 84) (((20 + 7 * sp 0) + 1) + 2) 84) ((20 + 7 * sp 0) + 1) 2) ((20 + 7 * sp 0) + 4) 3) (((20 + 7 * sp 0) + 4) + 1) 84) (((20 + 7 * sp 0) + 4) + 2) 84) ((20 + 7 * sp 0) + 4) 2) (20 + 7 * sp 0) 1) = kd9 ∧ upN (upN sp 7 (sp 0 + 1)) 0 (sp 0 + 1) = sp9 ∧ e_set (e_set ((e_set (cFill (e_set (e_set (e_z (e_set (e_z (e_z (e_set (cFill (e_set (e_set (e_z (e_set (e_z (e_z (e_set (e_set (e_z v (20 + 7 * sp 0)) (20 + 7 * sp 0) 2 0) (20 + 7 * sp 0) 3 0) ((20 + 7 * sp 0) + 1)) (((20 + 7 * sp 0) + 1) + 1)) ((20 + 7 * sp 0) + 1) 21 1) (((20 + 7 * sp 0) + 1) + 2)) ((20 + 7 * sp 0) + 1) 22 1) ((20 + 7 * sp 0) + 1) 0 x) (((20 + 7 * sp 0) + 1) + 2) x 64) (20 + 7 * sp 0) 21 1) ((20 + 7 * sp 0) + 4)) (((20 + 7 * sp 0) + 4) + 1)) ((20 + 7 * sp 0) + 4) 21 1) (((20 + 7 * sp 0) + 4) + 2)) ((20 + 7 * sp 0) + 4) 22 1) ((20 + 7 * sp 0) + 4) 0 y) (((20 + 7 * sp 0) + 4) + 2) y 64) (20 + 7 * sp 0) 22 1)) 1 0 ((e_set (cFill (e_set (e_set (e_z (e_set (e_z (e_z (e_set (cFill (e_set (e_set (e_z (e_set (e_z (e_z (e_set (e_set (e_z v (20 + 7 * sp 0)) (20 + 7 * sp 0) 2 0) (20 + 7 * sp 0) 3 0) ((20 + 7 * sp 0) + 1)) (((20 + 7 * sp 0) + 1) + 1)) ((20 + 7 * sp 0) + 1) 21 1) (((20 + 7 * sp 0) + 1) + 2)) ((20 + 7 * sp 0) + 1) 22 1) ((20 + 7 * sp 0) + 1) 0 x) (((20 + 7 * sp 0) + 1) + 2) x 64) (20 + 7 * sp 0) 21 1) ((20 + 7 * sp 0) + 4)) (((20 + 7 * sp 0) + 4) + 1)) ((20 + 7 * sp 0) + 4) 21 1) (((20 + 7 * sp 0) + 4) + 2)) ((20 + 7 * sp 0) + 4) 22 1) ((20 + 7 * sp 0) + 4) 0 y) (((20 + 7 * sp 0) + 4) + 2) y 64) (20 + 7 * sp 0) 22 1) 1 0 + 1)) 120 0 (nI (sp 0)) = v9) (h1 : ¬ cDancerC v (sp 0) x y = 0 → kd = kd9 ∧ sp = sp9 ∧ v = v9) : eHp l yL_dancer cL_dancer 5 [(0, 10, 13, 13), (0, 10, 17, 15)] 15 60 2000 [.ref (ad 0), .int x, .int y, .ref (ad 120)] X z0 t0 mi ad kd sp v a0 (some (.int (cDancerC v (sp 0) x y))) kd9 sp9 v9 := by
  refine e_hlp (by decide +kernel) (Nat.le_of_ble_eq_true rfl) ?_
  intro p e s m args below meth c hx hb hml hown hts hW htab Q hret ls hl
  obtain ⟨⟨⟨hz, hP, hI, hK⟩, hsz, hL⟩, hT, hNc⟩ := hW
  have hl : lv_has ls 5 [(0, .ref (ad 0)), (1, .int x), (2, .int y), (3, .ref (ad 120))] := hl
  have hS : va_S (e_A z0) s.heap s.heap [] := va_S.rf
  have hc0 := hc.2.2.2.2.2
  have hs8 := hc0.1
  have hs12 := hc0.2.1
  have hq2 := hc0.2.2.1
  have hq3 := hc0.2.2.2.1
  have hq4 := hc0.2.2.2.2.1
  have hq5 := hc0.2.2.2.2.2.1
  have hq6 := hc0.2.2.2.2.2.2.1
  have hq7 := hc0.2.2.2.2.2.2.2
  refine lv_aload_n hx hb dL_dancer_0 rfl (lv_at hl 3 rfl) ?_
  refine lv_iconst (v := 0) hx hb dL_dancer_1 (by decide) ?_
  refine lv_aload_n hx hb dL_dancer_2 rfl (lv_at hl 0 rfl) ?_
  refine lv_iload_n hx hb dL_dancer_3 rfl (lv_at hl 1 rfl) ?_
  refine lv_iload_n hx hb dL_dancer_4 rfl (lv_at hl 2 rfl) ?_
  refine e_cVHA (As := [.int x, .int y]) (rest := [.int 0, .ref (ad 120)]) hx hb hml hown hts hT hL 0 (c_dancer1 (l := l) hl9 (v := v) hc x y h20 ha u6 hcap hs8z u7 hp5) cw_RL_7 (by decide) (by decide) hz hsz hP hI hK hS hc.1.1 (by decide) rfl rfl rfl hl.1 rfl (Nat.le_of_ble_eq_true rfl) ⟨by decide, by decide⟩ dL_dancer_5 (fun H locs hg hz2 hP hI hS => ?_) (fun H locs E ce q hPE hz2 hP hS hce hcv hcl => ?_)
  · skip
    refine lv_i2l hx hb dL_dancer_8 rfl ?_
    refine e_last hx hb hK hP hI hS 120 (kup_n (by omega) (kup_n (by omega) (kup_n (by omega) (kup_n (by omega) (kup_n (by omega) (kup_n (by omega) (kup_n (by omega) (kup_n (by omega) (kup_n (by omega) (kup_n (by omega) (k120))))))))))) dL_dancer_9 (fun H locs hz1 hP hS => ?_)
    refine lv_goto (tgt := 21) hx hb dL_dancer_10 (by decide) ?_
    refine lv_iconst (v := 0) hx hb dL_dancer_21 (by decide) ?_
    exact hret _ _ _ _ _ _ _ _ _ _ (h0 hg).1 (h0 hg).2.1 (h0 hg).2.2 hg.symm (by decide) (by decide) hP hI hS dL_dancer_22
  · obtain ⟨k9, hk9, hC9⟩ := hPE
    simp only [List.mem_cons, Prod.mk.injEq, List.not_mem_nil, or_false] at hk9
    have hn9 : ¬ cDancerC v (sp 0) x y = 0 := by rw [hC9]; rcases hk9 with ⟨rfl, rfl⟩ | ⟨rfl, rfl⟩ <;> decide
    rcases hk9 with ⟨rfl, rfl⟩ | ⟨rfl, rfl⟩
    · refine vx_catch hown [] ⟨0, 10, 13, 13⟩ [⟨0, 10, 17, 15⟩] htab (List.forall_mem_nil _) (by decide) (by decide) (hts _ aw_526) (va_Nw.use rfl (hT.2.2.1 _ (by decide +kernel))) hce hcv hcl ?_
      refine lv_astore (lv' := [(4, .ref q), (0, .ref (ad 0)), (1, .int x), (2, .int y), (3, .ref (ad 120))]) hx hb dL_dancer_13 hl (by decide) rfl (fun ls hl => ?_)
      refine lv_iconst (v := 1) hx hb dL_dancer_15 (by decide) ?_
      exact hret _ _ _ _ _ _ _ _ _ _ (h1 hn9).1 (h1 hn9).2.1 (h1 hn9).2.2 hC9.symm (by decide) (by decide) hP hI hS dL_dancer_16
    · refine vx_catch hown [⟨0, 10, 13, 13⟩] ⟨0, 10, 17, 15⟩ [] htab (List.forall_mem_cons.mpr ⟨Or.inr ⟨by decide, _, hts _ aw_526, hNc (xIS, xIO) (by decide +kernel)⟩, (List.forall_mem_nil _)⟩) (by decide) (by decide) (hts _ aw_528) (va_Nw.use rfl (hT.2.2.1 _ (by decide +kernel))) hce hcv hcl ?_
      refine lv_astore (lv' := [(4, .ref q), (0, .ref (ad 0)), (1, .int x), (2, .int y), (3, .ref (ad 120))]) hx hb dL_dancer_17 hl (by decide) rfl (fun ls hl => ?_)
      refine lv_iconst (v := 2) hx hb dL_dancer_19 (by decide) ?_
      exact hret _ _ _ _ _ _ _ _ _ _ (h1 hn9).1 (h1 hn9).2.1 (h1 hn9).2.2 hC9.symm (by decide) (by decide) hP hI hS dL_dancer_20

set_option maxRecDepth 100000 in
set_option maxHeartbeats 4000000 in
theorem c_L_lift_lift0 {l : Launch} (hl9 : l.stackTraces = false) {X : eD} {z0 t0 mi : Nat} {ad kd sp : Nat → Nat} {v : eV} {a0 : Nat} (hc : cK kd sp) (hcv : cI sp v) (c0 d a b : Int32) (h80 : sp 1 < 12 → kd (80 + sp 1) = 0) (ha : ad (80 + sp 1) = a0) (u6 : ∀ m, kd m = 8 → m = 2) (hs8z : sp 1 = 0) (hcap : sp 3 = 10) (u7 : ∀ m, kd m ≠ 9) (h9 : kd 9 = 0) (hp : sp 6 = 11) (h11 : ad 11 = t0) (ha8 : ad 9 = a0 + 1) (k120 : kd 120 = 17) {kd9 sp9 : Nat → Nat} {v9 : eV} (h0 : cLiftC v (sp 0) (sp 1) c0 d a b = 0 → (kup (kup kd (80 + sp 1) 4) 9 9) = kd9 ∧ upN (upN (upN sp 6 9) 8 (sp 1 + 1)) 1 (sp 1 + 1) = sp9 ∧ e_set (e_z (e_set ((e_set (e_set (e_set (e_set (e_set (e_z v (80 + sp 1)) (80 + sp 1) 4 0) (80 + sp 1) 0 c0) (80 + sp 1) 1 d) (80 + sp 1) 2 a) (80 + sp 1) 3 b)) 2 0 ((e_set (e_set (e_set (e_set (e_set (e_z v (80 + sp 1)) (80 + sp 1) 4 0) (80 + sp 1) 0 c0) (80 + sp 1) 1 d) (80 + sp 1) 2 a) (80 + sp 1) 3 b) 2 0 + 1)) 9) 120 0 (nI (sp 1)) = v9) (h1 : ¬ cLiftC v (sp 0) (sp 1) c0 d a b = 0 → kd = kd9 ∧ sp = sp9 ∧ v = v9) : eHp l yL_lift cL_lift 7 [(0, 14, 17, 13), (0, 14, 21, 21), (0, 14, 25, 15)] 15 60 2000 [.ref (ad 0), .int c0, .int d, .int a, .int b, .ref (ad 120)] X z0 t0 mi ad kd sp v a0 (some (.int (cLiftC v (sp 0) (sp 1) c0 d a b))) kd9 sp9 v9 := by
  refine e_hlp (by decide +kernel) (Nat.le_of_ble_eq_true rfl) ?_
  intro p e s m args below meth c hx hb hml hown hts hW htab Q hret ls hl
  obtain ⟨⟨⟨hz, hP, hI, hK⟩, hsz, hL⟩, hT, hNc⟩ := hW
  have hl : lv_has ls 7 [(0, .ref (ad 0)), (1, .int c0), (2, .int d), (3, .int a), (4, .int b), (5, .ref (ad 120))] := hl
  have hS : va_S (e_A z0) s.heap s.heap [] := va_S.rf
  have hc0 := hc.2.2.2.2.2
  have hs8 := hc0.1
  have hs12 := hc0.2.1
  have hq2 := hc0.2.2.1
  have hq3 := hc0.2.2.2.1
  have hq4 := hc0.2.2.2.2.1
  have hq5 := hc0.2.2.2.2.2.1
  have hq6 := hc0.2.2.2.2.2.2.1
  have hq7 := hc0.2.2.2.2.2.2.2
  refine lv_aload hx hb dL_lift_0 (lv_at hl 5 rfl) ?_
  refine lv_iconst (v := 0) hx hb dL_lift_2 (by decide) ?_
  refine lv_aload_n hx hb dL_lift_3 rfl (lv_at hl 0 rfl) ?_
  refine lv_iload_n hx hb dL_lift_4 rfl (lv_at hl 1 rfl) ?_
  refine lv_iload_n hx hb dL_lift_5 rfl (lv_at hl 2 rfl) ?_
  refine lv_iload_n hx hb dL_lift_6 rfl (lv_at hl 3 rfl) ?_
  refine lv_iload hx hb dL_lift_7 (lv_at hl 4 rfl) ?_
  refine e_cVHA (As := [.int c0, .int d, .int a, .int b]) (rest := [.int 0, .ref (ad 120)]) hx hb hml hown hts hT hL 0 (c_lift0 (l := l) hl9 (v := v) hc hcv c0 d a b h80 ha u6 hs8z hcap u7 h9 hp h11 ha8) cw_RL_34 (by decide) (by decide) hz hsz hP hI hK hS hc.1.1 (by decide) rfl rfl rfl hl.1 rfl (Nat.le_of_ble_eq_true rfl) ⟨by decide, by decide⟩ dL_lift_9 (fun H locs hg hz2 hP hI hS => ?_) (fun H locs E ce q hPE hz2 hP hS hce hcv hcl => ?_)
  · skip
    refine lv_i2l hx hb dL_lift_12 rfl ?_
    refine e_last hx hb hK hP hI hS 120 (kup_n (by omega) (kup_n (by omega) (k120))) dL_lift_13 (fun H locs hz1 hP hS => ?_)
    refine lv_goto (tgt := 29) hx hb dL_lift_14 (by decide) ?_
    refine lv_iconst (v := 0) hx hb dL_lift_29 (by decide) ?_
    exact hret _ _ _ _ _ _ _ _ _ _ (h0 hg).1 (h0 hg).2.1 (h0 hg).2.2 hg.symm (by decide) (by decide) hP hI hS dL_lift_30
  · obtain ⟨k9, hk9, hC9⟩ := hPE
    simp only [List.mem_cons, Prod.mk.injEq, List.not_mem_nil, or_false] at hk9
    have hn9 : ¬ cLiftC v (sp 0) (sp 1) c0 d a b = 0 := by rw [hC9]; rcases hk9 with ⟨rfl, rfl⟩ | ⟨rfl, rfl⟩ | ⟨rfl, rfl⟩ <;> decide
    rcases hk9 with ⟨rfl, rfl⟩ | ⟨rfl, rfl⟩ | ⟨rfl, rfl⟩
    · refine vx_catch hown [] ⟨0, 14, 17, 13⟩ [⟨0, 14, 21, 21⟩, ⟨0, 14, 25, 15⟩] htab (List.forall_mem_nil _) (by decide) (by decide) (hts _ aw_526) (va_Nw.use rfl (hT.2.2.1 _ (by decide +kernel))) hce hcv hcl ?_
      refine lv_astore (lv' := [(6, .ref q), (0, .ref (ad 0)), (1, .int c0), (2, .int d), (3, .int a), (4, .int b), (5, .ref (ad 120))]) hx hb dL_lift_17 hl (by decide) rfl (fun ls hl => ?_)
      refine lv_iconst (v := 1) hx hb dL_lift_19 (by decide) ?_
      exact hret _ _ _ _ _ _ _ _ _ _ (h1 hn9).1 (h1 hn9).2.1 (h1 hn9).2.2 hC9.symm (by decide) (by decide) hP hI hS dL_lift_20
    · refine vx_catch hown [⟨0, 14, 17, 13⟩] ⟨0, 14, 21, 21⟩ [⟨0, 14, 25, 15⟩] htab (List.forall_mem_cons.mpr ⟨Or.inr ⟨by decide, _, hts _ aw_526, hNc (xIA, xIO) (by decide +kernel)⟩, (List.forall_mem_nil _)⟩) (by decide) (by decide) (hts _ aw_527) (va_Nw.use rfl (hT.2.2.1 _ (by decide +kernel))) hce hcv hcl ?_
      refine lv_astore (lv' := [(6, .ref q), (0, .ref (ad 0)), (1, .int c0), (2, .int d), (3, .int a), (4, .int b), (5, .ref (ad 120))]) hx hb dL_lift_21 hl (by decide) rfl (fun ls hl => ?_)
      refine lv_iconst (v := 2) hx hb dL_lift_23 (by decide) ?_
      exact hret _ _ _ _ _ _ _ _ _ _ (h1 hn9).1 (h1 hn9).2.1 (h1 hn9).2.2 hC9.symm (by decide) (by decide) hP hI hS dL_lift_24
    · refine vx_catch hown [⟨0, 14, 17, 13⟩, ⟨0, 14, 21, 21⟩] ⟨0, 14, 25, 15⟩ [] htab (List.forall_mem_cons.mpr ⟨Or.inr ⟨by decide, _, hts _ aw_526, hNc (xIS, xIO) (by decide +kernel)⟩, (List.forall_mem_cons.mpr ⟨Or.inr ⟨by decide, _, hts _ aw_527, hNc (xIS, xIA) (by decide +kernel)⟩, (List.forall_mem_nil _)⟩)⟩) (by decide) (by decide) (hts _ aw_528) (va_Nw.use rfl (hT.2.2.1 _ (by decide +kernel))) hce hcv hcl ?_
      refine lv_astore (lv' := [(6, .ref q), (0, .ref (ad 0)), (1, .int c0), (2, .int d), (3, .int a), (4, .int b), (5, .ref (ad 120))]) hx hb dL_lift_25 hl (by decide) rfl (fun ls hl => ?_)
      refine lv_iconst (v := 3) hx hb dL_lift_27 (by decide) ?_
      exact hret _ _ _ _ _ _ _ _ _ _ (h1 hn9).1 (h1 hn9).2.1 (h1 hn9).2.2 hC9.symm (by decide) (by decide) hP hI hS dL_lift_28

set_option maxRecDepth 100000 in
set_option maxHeartbeats 4000000 in
theorem c_L_lift_lift1 {l : Launch} (hl9 : l.stackTraces = false) {X : eD} {z0 t0 mi : Nat} {ad kd sp : Nat → Nat} {v : eV} {a0 : Nat} (hc : cK kd sp) (hcv : cI sp v) (c0 d a b : Int32) (h80 : sp 1 < 12 → kd (80 + sp 1) = 0) (ha : ad (80 + sp 1) = a0) (u6 : ∀ m, kd m = 8 → m = 2) (hs8z : 0 < sp 1) (hcap : sp 1 < 12 → sp 1 < sp 3) (u7 : ∀ m, kd m = 9 → m = sp 6) (hp6 : sp 6 = 9 ∨ sp 6 = 10) (k120 : kd 120 = 17) {kd9 sp9 : Nat → Nat} {v9 : eV} (h0 : cLiftC v (sp 0) (sp 1) c0 d a b = 0 → (kup kd (80 + sp 1) 4) = kd9 ∧ upN (upN sp 8 (sp 1 + 1)) 1 (sp 1 + 1) = sp9 ∧ e_set (e_set ((e_set (e_set (e_set (e_set (e_set (e_z v (80 + sp 1)) (80 + sp 1) 4 0) (80 + sp 1) 0 c0) (80 + sp 1) 1 d) (80 + sp 1) 2 a) (80 + sp 1) 3 b)) 2 0 ((e_set (e_set (e_set (e_set (e_set (e_z v (80 + sp 1)) (80 + sp 1) 4 0) (80 + sp 1) 0 c0) (80 + sp 1) 1 d) (80 + sp 1) 2 a) (80 + sp 1) 3 b) 2 0 + 1)) 120 0 (nI (sp 1)) = v9) (h1 : ¬ cLiftC v (sp 0) (sp 1) c0 d a b = 0 → kd = kd9 ∧ sp = sp9 ∧ v = v9) : eHp l yL_lift cL_lift 7 [(0, 14, 17, 13), (0, 14, 21, 21), (0, 14, 25, 15)] 15 60 2000 [.ref (ad 0), .int c0, .int d, .int a, .int b, .ref (ad 120)] X z0 t0 mi ad kd sp v a0 (some (.int (cLiftC v (sp 0) (sp 1) c0 d a b))) kd9 sp9 v9 := by
  refine e_hlp (by decide +kernel) (Nat.le_of_ble_eq_true rfl) ?_
  intro p e s m args below meth c hx hb hml hown hts hW htab Q hret ls hl
  obtain ⟨⟨⟨hz, hP, hI, hK⟩, hsz, hL⟩, hT, hNc⟩ := hW
  have hl : lv_has ls 7 [(0, .ref (ad 0)), (1, .int c0), (2, .int d), (3, .int a), (4, .int b), (5, .ref (ad 120))] := hl
  have hS : va_S (e_A z0) s.heap s.heap [] := va_S.rf
  have hc0 := hc.2.2.2.2.2
  have hs8 := hc0.1
  have hs12 := hc0.2.1
  have hq2 := hc0.2.2.1
  have hq3 := hc0.2.2.2.1
  have hq4 := hc0.2.2.2.2.1
  have hq5 := hc0.2.2.2.2.2.1
  have hq6 := hc0.2.2.2.2.2.2.1
  have hq7 := hc0.2.2.2.2.2.2.2
  refine lv_aload hx hb dL_lift_0 (lv_at hl 5 rfl) ?_
  refine lv_iconst (v := 0) hx hb dL_lift_2 (by decide) ?_
  refine lv_aload_n hx hb dL_lift_3 rfl (lv_at hl 0 rfl) ?_
  refine lv_iload_n hx hb dL_lift_4 rfl (lv_at hl 1 rfl) ?_
  refine lv_iload_n hx hb dL_lift_5 rfl (lv_at hl 2 rfl) ?_
  refine lv_iload_n hx hb dL_lift_6 rfl (lv_at hl 3 rfl) ?_
  refine lv_iload hx hb dL_lift_7 (lv_at hl 4 rfl) ?_
  refine e_cVHA (As := [.int c0, .int d, .int a, .int b]) (rest := [.int 0, .ref (ad 120)]) hx hb hml hown hts hT hL 0 (c_lift1 (l := l) hl9 (v := v) hc hcv c0 d a b h80 ha u6 hs8z hcap u7 hp6) cw_RL_34 (by decide) (by decide) hz hsz hP hI hK hS hc.1.1 (by decide) rfl rfl rfl hl.1 rfl (Nat.le_of_ble_eq_true rfl) ⟨by decide, by decide⟩ dL_lift_9 (fun H locs hg hz2 hP hI hS => ?_) (fun H locs E ce q hPE hz2 hP hS hce hcv hcl => ?_)
  · skip
    refine lv_i2l hx hb dL_lift_12 rfl ?_
    refine e_last hx hb hK hP hI hS 120 (kup_n (by omega) (k120)) dL_lift_13 (fun H locs hz1 hP hS => ?_)
    refine lv_goto (tgt := 29) hx hb dL_lift_14 (by decide) ?_
    refine lv_iconst (v := 0) hx hb dL_lift_29 (by decide) ?_
    exact hret _ _ _ _ _ _ _ _ _ _ (h0 hg).1 (h0 hg).2.1 (h0 hg).2.2 hg.symm (by decide) (by decide) hP hI hS dL_lift_30
  · obtain ⟨k9, hk9, hC9⟩ := hPE
    simp only [List.mem_cons, Prod.mk.injEq, List.not_mem_nil, or_false] at hk9
    have hn9 : ¬ cLiftC v (sp 0) (sp 1) c0 d a b = 0 := by rw [hC9]; rcases hk9 with ⟨rfl, rfl⟩ | ⟨rfl, rfl⟩ | ⟨rfl, rfl⟩ <;> decide
    rcases hk9 with ⟨rfl, rfl⟩ | ⟨rfl, rfl⟩ | ⟨rfl, rfl⟩
    · refine vx_catch hown [] ⟨0, 14, 17, 13⟩ [⟨0, 14, 21, 21⟩, ⟨0, 14, 25, 15⟩] htab (List.forall_mem_nil _) (by decide) (by decide) (hts _ aw_526) (va_Nw.use rfl (hT.2.2.1 _ (by decide +kernel))) hce hcv hcl ?_
      refine lv_astore (lv' := [(6, .ref q), (0, .ref (ad 0)), (1, .int c0), (2, .int d), (3, .int a), (4, .int b), (5, .ref (ad 120))]) hx hb dL_lift_17 hl (by decide) rfl (fun ls hl => ?_)
      refine lv_iconst (v := 1) hx hb dL_lift_19 (by decide) ?_
      exact hret _ _ _ _ _ _ _ _ _ _ (h1 hn9).1 (h1 hn9).2.1 (h1 hn9).2.2 hC9.symm (by decide) (by decide) hP hI hS dL_lift_20
    · refine vx_catch hown [⟨0, 14, 17, 13⟩] ⟨0, 14, 21, 21⟩ [⟨0, 14, 25, 15⟩] htab (List.forall_mem_cons.mpr ⟨Or.inr ⟨by decide, _, hts _ aw_526, hNc (xIA, xIO) (by decide +kernel)⟩, (List.forall_mem_nil _)⟩) (by decide) (by decide) (hts _ aw_527) (va_Nw.use rfl (hT.2.2.1 _ (by decide +kernel))) hce hcv hcl ?_
      refine lv_astore (lv' := [(6, .ref q), (0, .ref (ad 0)), (1, .int c0), (2, .int d), (3, .int a), (4, .int b), (5, .ref (ad 120))]) hx hb dL_lift_21 hl (by decide) rfl (fun ls hl => ?_)
      refine lv_iconst (v := 2) hx hb dL_lift_23 (by decide) ?_
      exact hret _ _ _ _ _ _ _ _ _ _ (h1 hn9).1 (h1 hn9).2.1 (h1 hn9).2.2 hC9.symm (by decide) (by decide) hP hI hS dL_lift_24
    · refine vx_catch hown [⟨0, 14, 17, 13⟩, ⟨0, 14, 21, 21⟩] ⟨0, 14, 25, 15⟩ [] htab (List.forall_mem_cons.mpr ⟨Or.inr ⟨by decide, _, hts _ aw_526, hNc (xIS, xIO) (by decide +kernel)⟩, (List.forall_mem_cons.mpr ⟨Or.inr ⟨by decide, _, hts _ aw_527, hNc (xIS, xIA) (by decide +kernel)⟩, (List.forall_mem_nil _)⟩)⟩) (by decide) (by decide) (hts _ aw_528) (va_Nw.use rfl (hT.2.2.1 _ (by decide +kernel))) hce hcv hcl ?_
      refine lv_astore (lv' := [(6, .ref q), (0, .ref (ad 0)), (1, .int c0), (2, .int d), (3, .int a), (4, .int b), (5, .ref (ad 120))]) hx hb dL_lift_25 hl (by decide) rfl (fun ls hl => ?_)
      refine lv_iconst (v := 3) hx hb dL_lift_27 (by decide) ?_
      exact hret _ _ _ _ _ _ _ _ _ _ (h1 hn9).1 (h1 hn9).2.1 (h1 hn9).2.2 hC9.symm (by decide) (by decide) hP hI hS dL_lift_28

set_option maxRecDepth 100000 in
set_option maxHeartbeats 4000000 in
theorem c_L_lift_lift2 {l : Launch} (hl9 : l.stackTraces = false) {X : eD} {z0 t0 mi : Nat} {ad kd sp : Nat → Nat} {v : eV} {a0 : Nat} (hc : cK kd sp) (hcv : cI sp v) (c0 d a b : Int32) (h80 : sp 1 < 12 → kd (80 + sp 1) = 0) (ha : ad (80 + sp 1) = a0) (u6 : ∀ m, kd m = 8 → m = 2) (hs8z : sp 1 = 10) (hcap : sp 3 = 10) (hp : sp 6 = 9) (h9 : kd 9 = 9) (h10 : kd 10 = 0) (u9 : ∀ m, kd m = 9 → m = 9) (u16 : ∀ m, kd m ≠ 16) (hs4 : sp 4 = 15) (hs9c : sp 9 = 0) (hel : ∀ i, i < 10 → kd (80 + i) = 4) (ha10 : ad 10 = a0 + 1) (k120 : kd 120 = 17) {kd9 sp9 : Nat → Nat} {v9 : eV} (h0 : cLiftC v (sp 0) (sp 1) c0 d a b = 0 → (kup (kup (kup (kup kd (80 + sp 1) 4) 10 16) 9 0) 10 9) = kd9 ∧ upN (upN (upN (upN (upN sp 9 10) 6 10) 3 15) 8 (sp 1 + 1)) 1 (sp 1 + 1) = sp9 ∧ e_set (e_z (e_set ((e_set (e_set (e_set (e_set (e_set (e_z v (80 + sp 1)) (80 + sp 1) 4 0) (80 + sp 1) 0 c0) (80 + sp 1) 1 d) (80 + sp 1) 2 a) (80 + sp 1) 3 b)) 2 0 ((e_set (e_set (e_set (e_set (e_set (e_z v (80 + sp 1)) (80 + sp 1) 4 0) (80 + sp 1) 0 c0) (80 + sp 1) 1 d) (80 + sp 1) 2 a) (80 + sp 1) 3 b) 2 0 + 1)) 10) 120 0 (nI (sp 1)) = v9) (h1 : ¬ cLiftC v (sp 0) (sp 1) c0 d a b = 0 → kd = kd9 ∧ sp = sp9 ∧ v = v9) : eHp l yL_lift cL_lift 7 [(0, 14, 17, 13), (0, 14, 21, 21), (0, 14, 25, 15)] 15 60 2000 [.ref (ad 0), .int c0, .int d, .int a, .int b, .ref (ad 120)] X z0 t0 mi ad kd sp v a0 (some (.int (cLiftC v (sp 0) (sp 1) c0 d a b))) kd9 sp9 v9 := by
  refine e_hlp (by decide +kernel) (Nat.le_of_ble_eq_true rfl) ?_
  intro p e s m args below meth c hx hb hml hown hts hW htab Q hret ls hl
  obtain ⟨⟨⟨hz, hP, hI, hK⟩, hsz, hL⟩, hT, hNc⟩ := hW
  have hl : lv_has ls 7 [(0, .ref (ad 0)), (1, .int c0), (2, .int d), (3, .int a), (4, .int b), (5, .ref (ad 120))] := hl
  have hS : va_S (e_A z0) s.heap s.heap [] := va_S.rf
  have hc0 := hc.2.2.2.2.2
  have hs8 := hc0.1
  have hs12 := hc0.2.1
  have hq2 := hc0.2.2.1
  have hq3 := hc0.2.2.2.1
  have hq4 := hc0.2.2.2.2.1
  have hq5 := hc0.2.2.2.2.2.1
  have hq6 := hc0.2.2.2.2.2.2.1
  have hq7 := hc0.2.2.2.2.2.2.2
  refine lv_aload hx hb dL_lift_0 (lv_at hl 5 rfl) ?_
  refine lv_iconst (v := 0) hx hb dL_lift_2 (by decide) ?_
  refine lv_aload_n hx hb dL_lift_3 rfl (lv_at hl 0 rfl) ?_
  refine lv_iload_n hx hb dL_lift_4 rfl (lv_at hl 1 rfl) ?_
  refine lv_iload_n hx hb dL_lift_5 rfl (lv_at hl 2 rfl) ?_
  refine lv_iload_n hx hb dL_lift_6 rfl (lv_at hl 3 rfl) ?_
  refine lv_iload hx hb dL_lift_7 (lv_at hl 4 rfl) ?_
  refine e_cVHA (As := [.int c0, .int d, .int a, .int b]) (rest := [.int 0, .ref (ad 120)]) hx hb hml hown hts hT hL 0 (c_lift2 (l := l) hl9 (v := v) hc hcv c0 d a b h80 ha u6 hs8z hcap hp h9 h10 u9 u16 hs4 hs9c hel ha10) cw_RL_34 (by decide) (by decide) hz hsz hP hI hK hS hc.1.1 (by decide) rfl rfl rfl hl.1 rfl (Nat.le_of_ble_eq_true rfl) ⟨by decide, by decide⟩ dL_lift_9 (fun H locs hg hz2 hP hI hS => ?_) (fun H locs E ce q hPE hz2 hP hS hce hcv hcl => ?_)
  · skip
    refine lv_i2l hx hb dL_lift_12 rfl ?_
    refine e_last hx hb hK hP hI hS 120 (kup_n (by omega) (kup_n (by omega) (kup_n (by omega) (kup_n (by omega) (k120))))) dL_lift_13 (fun H locs hz1 hP hS => ?_)
    refine lv_goto (tgt := 29) hx hb dL_lift_14 (by decide) ?_
    refine lv_iconst (v := 0) hx hb dL_lift_29 (by decide) ?_
    exact hret _ _ _ _ _ _ _ _ _ _ (h0 hg).1 (h0 hg).2.1 (h0 hg).2.2 hg.symm (by decide) (by decide) hP hI hS dL_lift_30
  · obtain ⟨k9, hk9, hC9⟩ := hPE
    simp only [List.mem_cons, Prod.mk.injEq, List.not_mem_nil, or_false] at hk9
    have hn9 : ¬ cLiftC v (sp 0) (sp 1) c0 d a b = 0 := by rw [hC9]; rcases hk9 with ⟨rfl, rfl⟩ | ⟨rfl, rfl⟩ | ⟨rfl, rfl⟩ <;> decide
    rcases hk9 with ⟨rfl, rfl⟩ | ⟨rfl, rfl⟩ | ⟨rfl, rfl⟩
    · refine vx_catch hown [] ⟨0, 14, 17, 13⟩ [⟨0, 14, 21, 21⟩, ⟨0, 14, 25, 15⟩] htab (List.forall_mem_nil _) (by decide) (by decide) (hts _ aw_526) (va_Nw.use rfl (hT.2.2.1 _ (by decide +kernel))) hce hcv hcl ?_
      refine lv_astore (lv' := [(6, .ref q), (0, .ref (ad 0)), (1, .int c0), (2, .int d), (3, .int a), (4, .int b), (5, .ref (ad 120))]) hx hb dL_lift_17 hl (by decide) rfl (fun ls hl => ?_)
      refine lv_iconst (v := 1) hx hb dL_lift_19 (by decide) ?_
      exact hret _ _ _ _ _ _ _ _ _ _ (h1 hn9).1 (h1 hn9).2.1 (h1 hn9).2.2 hC9.symm (by decide) (by decide) hP hI hS dL_lift_20
    · refine vx_catch hown [⟨0, 14, 17, 13⟩] ⟨0, 14, 21, 21⟩ [⟨0, 14, 25, 15⟩] htab (List.forall_mem_cons.mpr ⟨Or.inr ⟨by decide, _, hts _ aw_526, hNc (xIA, xIO) (by decide +kernel)⟩, (List.forall_mem_nil _)⟩) (by decide) (by decide) (hts _ aw_527) (va_Nw.use rfl (hT.2.2.1 _ (by decide +kernel))) hce hcv hcl ?_
      refine lv_astore (lv' := [(6, .ref q), (0, .ref (ad 0)), (1, .int c0), (2, .int d), (3, .int a), (4, .int b), (5, .ref (ad 120))]) hx hb dL_lift_21 hl (by decide) rfl (fun ls hl => ?_)
      refine lv_iconst (v := 2) hx hb dL_lift_23 (by decide) ?_
      exact hret _ _ _ _ _ _ _ _ _ _ (h1 hn9).1 (h1 hn9).2.1 (h1 hn9).2.2 hC9.symm (by decide) (by decide) hP hI hS dL_lift_24
    · refine vx_catch hown [⟨0, 14, 17, 13⟩, ⟨0, 14, 21, 21⟩] ⟨0, 14, 25, 15⟩ [] htab (List.forall_mem_cons.mpr ⟨Or.inr ⟨by decide, _, hts _ aw_526, hNc (xIS, xIO) (by decide +kernel)⟩, (List.forall_mem_cons.mpr ⟨Or.inr ⟨by decide, _, hts _ aw_527, hNc (xIS, xIA) (by decide +kernel)⟩, (List.forall_mem_nil _)⟩)⟩) (by decide) (by decide) (hts _ aw_528) (va_Nw.use rfl (hT.2.2.1 _ (by decide +kernel))) hce hcv hcl ?_
      refine lv_astore (lv' := [(6, .ref q), (0, .ref (ad 0)), (1, .int c0), (2, .int d), (3, .int a), (4, .int b), (5, .ref (ad 120))]) hx hb dL_lift_25 hl (by decide) rfl (fun ls hl => ?_)
      refine lv_iconst (v := 3) hx hb dL_lift_27 (by decide) ?_
      exact hret _ _ _ _ _ _ _ _ _ _ (h1 hn9).1 (h1 hn9).2.1 (h1 hn9).2.2 hC9.symm (by decide) (by decide) hP hI hS dL_lift_28

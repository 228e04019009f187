theorem aw_83 : Cond.methodLink RX4 101 yX4_stands ∈ AW := aw_of (List.mem_of_getElem? (i := 839) (by decide +kernel)) (by decide +kernel)
theorem aw_84 : Cond.instanceMethod yX4_stands ∈ AW := aw_of (List.mem_of_getElem? (i := 841) (by decide +kernel)) (by decide +kernel)
theorem aw_85 : Cond.selects RX4 yX4_stands yX4_stands ∈ AW := aw_of (List.mem_of_getElem? (i := 32) (by decide +kernel)) (by decide +kernel)
set_option maxRecDepth 100000 in
theorem aw_86 : Cond.code yX4_stands cX4_stands 5 (some .boolean) ∈ AW := aw_of (List.mem_of_getElem? (i := 842) rfl) (by decide +kernel)
theorem cw_RX4_101 : e_cwV RX4 101 RX4 yX4_stands cX4_stands 5 (some .boolean) 1 := ⟨aw_83, aw_84, aw_85, aw_4, aw_86, rfl, by decide +kernel, by decide +kernel, by decide +kernel⟩
theorem aw_88 : Cond.constantLong RX4 108 2147483647 ∈ AW := aw_of (List.mem_of_getElem? (i := 868) (by decide +kernel)) (by decide +kernel)
theorem aw_89 : Cond.fieldLink RX4 130 "StepscriptModel" "day" "I" ∈ AW := aw_of (List.mem_of_getElem? (i := 734) (by decide +kernel)) (by decide +kernel)
theorem aw_90 : Cond.methodLink RX4 49 yX4_frees ∈ AW := aw_of (List.mem_of_getElem? (i := 715) (by decide +kernel)) (by decide +kernel)
theorem aw_91 : Cond.instanceMethod yX4_frees ∈ AW := aw_of (List.mem_of_getElem? (i := 717) (by decide +kernel)) (by decide +kernel)
theorem aw_92 : Cond.selects RX4 yX4_frees yX4_frees ∈ AW := aw_of (List.mem_of_getElem? (i := 23) (by decide +kernel)) (by decide +kernel)
set_option maxRecDepth 100000 in
theorem aw_93 : Cond.code yX4_frees cX4_frees 2 none ∈ AW := aw_of (List.mem_of_getElem? (i := 718) rfl) (by decide +kernel)
theorem cw_RX4_49 : e_cwV RX4 49 RX4 yX4_frees cX4_frees 2 none 0 := ⟨aw_90, aw_91, aw_92, aw_4, aw_93, rfl, by decide +kernel, by decide +kernel, by decide +kernel⟩
set_option maxRecDepth 100000 in
set_option maxHeartbeats 4000000 in
theorem c_X4_ofLift {l : Launch} {X : eD} {z0 : Nat} {ad kd sp : Nat → Nat} {v : eV} (dn ln : Nat) (hm : mK kd) (hv : mI dn ln v) (i0 x : Int32) : eMu l yX4_ofLift cX4_ofLift 3 (some .int) 4 [.ref (ad 100), .int i0, .int x] X z0 ad kd sp v (some (.int (mOfLiftV v ln i0 x))) (mT v (mOfLiftC ln i0 x)) := by
  refine e_mutI (by decide +kernel) (Nat.le_of_ble_eq_true rfl) rfl ?_
  intro p e s m args below meth c hx hb hml hown hts hW Q hret ls hl
  obtain ⟨hz, hP, hI, hK⟩ := hW
  have hl : lv_has ls 3 [(0, .ref (ad 100)), (1, .int i0), (2, .int x)] := hl
  have hS : va_S (e_A z0) s.heap s.heap [] := va_S.rf
  have hd8 := hv.2.2.1
  have hl12 := hv.2.2.2.1
  refine lv_aload_n hx hb dX4_ofLift_0 rfl (lv_at hl 0 rfl) ?_
  have J1_35 : ∀ ls : Array Slot, lv_has ls 3 [(0, .ref (ad 100)), (1, .int i0), (2, .int x)] → W p l e (e_rm 4 0 0) s m args below meth c s.heap [] 0 0 Q (F0 m 35 ls [.int (mOfLiftC ln i0 x), .ref (ad 100)]) := by
    intro ls hl
    refine e_cVM (As := [.int (mOfLiftC ln i0 x)]) (rest := []) hx hb hml hown hts 100 (c_X4_holds (l := l) hm (mOfLiftC ln i0 x)) cw_RX4_63 (by decide) (by decide) hz hP hI hK hS (hm 100 (by decide) (by decide)) (by decide) rfl rfl rfl hl.1 rfl (Nat.le_of_ble_eq_true rfl) ⟨Nat.zero_le _, Nat.zero_le _⟩ dX4_ofLift_35 (fun H locs hz hP hS => ?_)
    refine lv_if_eq (tgt := 43) hx hb dX4_ofLift_38 (by decide) (fun c_1 => ?_) (fun c_1 => ?_)
    · have nc_1 : ¬ (0 < (mOfLiftC ln i0 x)) := of_decide_eq_false (bI_0.mp c_1)
      obtain ⟨i_2, hi_2, ei_2⟩ := e_okL hl12 (mOfLiftC_ok nc_1).1
      have ni_2 := nN_of ei_2 (by omega)
      obtain ⟨w_3, gw_3, hw_3, ew_3⟩ := e_okR (lo := 0) (hi := 4) (by decide) (by decide) rfl (by decide) (mOfLiftC_ok nc_1).2
      have nw_3 := nN_of ew_3 (by omega)
      refine lv_iload_n hx hb dX4_ofLift_43 rfl (lv_at hl 2 rfl) ?_
      refine e_nrm (y := nI w_3) ew_3 ?_
      rcases (show w_3 = 0 ∨ w_3 = 1 ∨ w_3 = 2 ∨ w_3 = 3 ∨ w_3 = 4 by omega) with hk | hk | hk | hk | hk
      · refine e_nrm (show nI w_3 = nI 0 by rw [hk]) ?_
        have hx0 : x = 0 := by rw [ew_3, hk]; rfl
        refine lv_tableIn (off := 32) (tgt := 76) hx hb dX4_ofLift_44 (by decide) (by decide) rfl (by decide) ?_
        refine lv_aload_n hx hb dX4_ofLift_76 rfl (lv_at hl 0 rfl) ?_
        refine e_getf hx hb hts inX4 hown hK hP 100 12 (hm 100 (by decide) (by decide)) (by decide) rfl rfl 7 (by decide) aw_26 (fun _ h => h) rfl dX4_ofLift_77 ?_
        refine lv_iload_n hx hb dX4_ofLift_80 rfl (lv_at hl 1 rfl) ?_
        refine e_nrm (y := nI i_2) ei_2 ?_
        refine e_iald hx hb hK hP 107 12 (hm 107 (by decide) (by decide)) i_2 rfl (by omega) (by decide) dX4_ofLift_81 ?_
        exact hret _ _ _ _ _ _ (show ((mT v (mOfLiftC ln i0 x)) 107 i_2) = mOfLiftV v ln i0 x from (by first | (simp [mOfLiftV, mLiftState, mStands_T, mT_107, mT_108, mT_109, mT_110, mT_111, nl0, nl1, nl2, nl3, nl4, bI, nc_1, ni_2, nw_3, eq_true hx0]; done) | (exfalso; simp_all; done))) (show (mT v (mOfLiftC ln i0 x)) = mT v (mOfLiftC ln i0 x) from rfl) hP hS dX4_ofLift_82
      · refine e_nrm (show nI w_3 = nI 1 by rw [hk]) ?_
        have hx0 : ¬ x = 0 := by rw [ew_3, hk]; decide
        have hx1 : x = 1 := by rw [ew_3, hk]; rfl
        refine lv_tableIn (off := 39) (tgt := 83) hx hb dX4_ofLift_44 (by decide) (by decide) rfl (by decide) ?_
        refine lv_aload_n hx hb dX4_ofLift_83 rfl (lv_at hl 0 rfl) ?_
        refine e_getf hx hb hts inX4 hown hK hP 100 12 (hm 100 (by decide) (by decide)) (by decide) rfl rfl 8 (by decide) aw_21 (fun _ h => h) rfl dX4_ofLift_84 ?_
        refine lv_iload_n hx hb dX4_ofLift_87 rfl (lv_at hl 1 rfl) ?_
        refine e_nrm (y := nI i_2) ei_2 ?_
        refine e_iald hx hb hK hP 108 12 (hm 108 (by decide) (by decide)) i_2 rfl (by omega) (by decide) dX4_ofLift_88 ?_
        exact hret _ _ _ _ _ _ (show ((mT v (mOfLiftC ln i0 x)) 108 i_2) = mOfLiftV v ln i0 x from (by first | (simp [mOfLiftV, mLiftState, mStands_T, mT_107, mT_108, mT_109, mT_110, mT_111, nl0, nl1, nl2, nl3, nl4, bI, nc_1, ni_2, nw_3, hx0, eq_true hx1]; done) | (exfalso; simp_all; done))) (show (mT v (mOfLiftC ln i0 x)) = mT v (mOfLiftC ln i0 x) from rfl) hP hS dX4_ofLift_89
      · refine e_nrm (show nI w_3 = nI 2 by rw [hk]) ?_
        have hx0 : ¬ x = 0 := by rw [ew_3, hk]; decide
        have hx1 : ¬ x = 1 := by rw [ew_3, hk]; decide
        have hx2 : x = 2 := by rw [ew_3, hk]; rfl
        refine lv_tableIn (off := 46) (tgt := 90) hx hb dX4_ofLift_44 (by decide) (by decide) rfl (by decide) ?_
        refine lv_aload_n hx hb dX4_ofLift_90 rfl (lv_at hl 0 rfl) ?_
        refine e_getf hx hb hts inX4 hown hK hP 100 12 (hm 100 (by decide) (by decide)) (by decide) rfl rfl 9 (by decide) aw_22 (fun _ h => h) rfl dX4_ofLift_91 ?_
        refine lv_iload_n hx hb dX4_ofLift_94 rfl (lv_at hl 1 rfl) ?_
        refine e_nrm (y := nI i_2) ei_2 ?_
        refine e_iald hx hb hK hP 109 12 (hm 109 (by decide) (by decide)) i_2 rfl (by omega) (by decide) dX4_ofLift_95 ?_
        exact hret _ _ _ _ _ _ (show ((mT v (mOfLiftC ln i0 x)) 109 i_2) = mOfLiftV v ln i0 x from (by first | (simp [mOfLiftV, mLiftState, mStands_T, mT_107, mT_108, mT_109, mT_110, mT_111, nl0, nl1, nl2, nl3, nl4, bI, nc_1, ni_2, nw_3, hx0, hx1, eq_true hx2]; done) | (exfalso; simp_all; done))) (show (mT v (mOfLiftC ln i0 x)) = mT v (mOfLiftC ln i0 x) from rfl) hP hS dX4_ofLift_96
      · refine e_nrm (show nI w_3 = nI 3 by rw [hk]) ?_
        have hx0 : ¬ x = 0 := by rw [ew_3, hk]; decide
        have hx1 : ¬ x = 1 := by rw [ew_3, hk]; decide
        have hx2 : ¬ x = 2 := by rw [ew_3, hk]; decide
        have hx3 : x = 3 := by rw [ew_3, hk]; rfl
        refine lv_tableIn (off := 53) (tgt := 97) hx hb dX4_ofLift_44 (by decide) (by decide) rfl (by decide) ?_
        refine lv_aload_n hx hb dX4_ofLift_97 rfl (lv_at hl 0 rfl) ?_
        refine e_getf hx hb hts inX4 hown hK hP 100 12 (hm 100 (by decide) (by decide)) (by decide) rfl rfl 10 (by decide) aw_23 (fun _ h => h) rfl dX4_ofLift_98 ?_
        refine lv_iload_n hx hb dX4_ofLift_101 rfl (lv_at hl 1 rfl) ?_
        refine e_nrm (y := nI i_2) ei_2 ?_
        refine e_iald hx hb hK hP 110 12 (hm 110 (by decide) (by decide)) i_2 rfl (by omega) (by decide) dX4_ofLift_102 ?_
        exact hret _ _ _ _ _ _ (show ((mT v (mOfLiftC ln i0 x)) 110 i_2) = mOfLiftV v ln i0 x from (by first | (simp [mOfLiftV, mLiftState, mStands_T, mT_107, mT_108, mT_109, mT_110, mT_111, nl0, nl1, nl2, nl3, nl4, bI, nc_1, ni_2, nw_3, hx0, hx1, hx2, eq_true hx3]; done) | (exfalso; simp_all; done))) (show (mT v (mOfLiftC ln i0 x)) = mT v (mOfLiftC ln i0 x) from rfl) hP hS dX4_ofLift_103
      · refine e_nrm (show nI w_3 = nI 4 by rw [hk]) ?_
        have hx0 : ¬ x = 0 := by rw [ew_3, hk]; decide
        have hx1 : ¬ x = 1 := by rw [ew_3, hk]; decide
        have hx2 : ¬ x = 2 := by rw [ew_3, hk]; decide
        have hx3 : ¬ x = 3 := by rw [ew_3, hk]; decide
        refine lv_tableOut (tgt := 104) hx hb dX4_ofLift_44 (Or.inr (by decide)) (by decide) ?_
        refine lv_aload_n hx hb dX4_ofLift_104 rfl (lv_at hl 0 rfl) ?_
        refine e_getf hx hb hts inX4 hown hK hP 100 12 (hm 100 (by decide) (by decide)) (by decide) rfl rfl 11 (by decide) aw_25 (fun _ h => h) rfl dX4_ofLift_105 ?_
        refine lv_iload_n hx hb dX4_ofLift_108 rfl (lv_at hl 1 rfl) ?_
        refine e_nrm (y := nI i_2) ei_2 ?_
        refine e_iald hx hb hK hP 111 12 (hm 111 (by decide) (by decide)) i_2 rfl (by omega) (by decide) dX4_ofLift_109 ?_
        refine lv_iconst (v := 1) hx hb dX4_ofLift_110 (by decide) ?_
        refine lv_icmp_ne (tgt := 118) hx hb dX4_ofLift_111 (by decide) (fun c_4 => ?_) (fun c_4 => ?_)
        · skip
          have r_5 : ¬ v 111 i_2 = 1 := c_4
          obtain ⟨c9, hc9, ec⟩ := hv.2.2.2.2.1 i_2 (by omega)
          obtain ⟨dl, hdl, el⟩ := hv.2.2.2.2.2.1 i_2 (by omega)
          obtain ⟨da, hda, ea⟩ := hv.2.2.2.2.2.2.1 i_2 (by omega)
          obtain ⟨db, hdb, eb⟩ := hv.2.2.2.2.2.2.2 i_2 (by omega)
          have nc9 := nN_of ec (by omega)
          have ndl := nN_of el (by omega)
          have nda := nN_of ea (by omega)
          have ndb := nN_of eb (by omega)
          refine lv_aload_n hx hb dX4_ofLift_118 rfl (lv_at hl 0 rfl) ?_
          refine lv_iload_n hx hb dX4_ofLift_119 rfl (lv_at hl 1 rfl) ?_
          refine e_nrm (y := nI i_2) ei_2 ?_
          refine e_cV (As := [.int (nI i_2)]) (rest := []) hx hb hml hown hts 100 (c_X4_stands (l := l) (v := (mT v (mOfLiftC ln i0 x))) dn ln hm hv i_2 (by omega) c9 dl da db hc9 hdl hda hdb ec el ea eb) cw_RX4_101 (by decide) (by decide) hz hP hI hK (hm 100 (by decide) (by decide)) (by decide) rfl rfl rfl hl.1 rfl (Nat.le_of_ble_eq_true rfl) ⟨Nat.zero_le _, Nat.zero_le _⟩ dX4_ofLift_120 ?_
          refine lv_if_eq (tgt := 130) hx hb dX4_ofLift_123 (by decide) (fun c_6 => ?_) (fun c_6 => ?_)
          · have nc_6 : (mStands (mT v (mOfLiftC ln i0 x)) i_2 c9 dl da db ln) = false := bI_0.mp c_6
            have r_7 : mStands v i_2 c9 dl da db ln = false := nc_6
            refine lv_iconst (v := 0) hx hb dX4_ofLift_130 (by decide) ?_
            exact hret _ _ _ _ _ _ (show 0 = mOfLiftV v ln i0 x from (by first | (simp [mOfLiftV, mLiftState, mStands_T, mT_107, mT_108, mT_109, mT_110, mT_111, nl0, nl1, nl2, nl3, nl4, bI, nc_1, ni_2, nw_3, hx0, hx1, hx2, hx3, r_5, nc9, ndl, nda, ndb, r_7]; done) | (exfalso; simp_all; done))) (show (mT v (mOfLiftC ln i0 x)) = mT v (mOfLiftC ln i0 x) from rfl) hP hS dX4_ofLift_131
          · have nc_6 : (mStands (mT v (mOfLiftC ln i0 x)) i_2 c9 dl da db ln) = true := bI_n0.mp c_6
            have r_8 : mStands v i_2 c9 dl da db ln = true := nc_6
            refine lv_iconst (v := 1) hx hb dX4_ofLift_126 (by decide) ?_
            refine lv_goto (tgt := 131) hx hb dX4_ofLift_127 (by decide) ?_
            exact hret _ _ _ _ _ _ (show 1 = mOfLiftV v ln i0 x from (by first | (simp [mOfLiftV, mLiftState, mStands_T, mT_107, mT_108, mT_109, mT_110, mT_111, nl0, nl1, nl2, nl3, nl4, bI, nc_1, ni_2, nw_3, hx0, hx1, hx2, hx3, r_5, nc9, ndl, nda, ndb, r_8]; done) | (exfalso; simp_all; done))) (show (mT v (mOfLiftC ln i0 x)) = mT v (mOfLiftC ln i0 x) from rfl) hP hS dX4_ofLift_131
        · skip
          have r_9 : v 111 i_2 = 1 := c_4
          refine lv_iconst (v := 2) hx hb dX4_ofLift_114 (by decide) ?_
          refine lv_goto (tgt := 131) hx hb dX4_ofLift_115 (by decide) ?_
          exact hret _ _ _ _ _ _ (show 2 = mOfLiftV v ln i0 x from (by first | (simp [mOfLiftV, mLiftState, mStands_T, mT_107, mT_108, mT_109, mT_110, mT_111, nl0, nl1, nl2, nl3, nl4, bI, nc_1, ni_2, nw_3, hx0, hx1, hx2, hx3, r_9]; done) | (exfalso; simp_all; done))) (show (mT v (mOfLiftC ln i0 x)) = mT v (mOfLiftC ln i0 x) from rfl) hP hS dX4_ofLift_131
    · have nc_1 : (0 < (mOfLiftC ln i0 x)) := of_decide_eq_true (bI_n0.mp c_1)
      refine lv_iconst (v := (-1)) hx hb dX4_ofLift_41 (by decide) ?_
      exact hret _ _ _ _ _ _ (show (-1) = mOfLiftV v ln i0 x from (by first | (simp [mOfLiftV, mLiftState, mStands_T, mT_107, mT_108, mT_109, mT_110, mT_111, nl0, nl1, nl2, nl3, nl4, bI, nc_1]; done) | (exfalso; simp_all; done))) (show (mT v (mOfLiftC ln i0 x)) = mT v (mOfLiftC ln i0 x) from rfl) hP hS dX4_ofLift_42
  refine lv_aload_n hx hb dX4_ofLift_1 rfl (lv_at hl 0 rfl) ?_
  refine lv_iload_n hx hb dX4_ofLift_2 rfl (lv_at hl 1 rfl) ?_
  refine lv_iconst (v := 0) hx hb dX4_ofLift_3 (by decide) ?_
  refine lv_aload_n hx hb dX4_ofLift_4 rfl (lv_at hl 0 rfl) ?_
  refine e_getf hx hb hts inX4 hown hK hP 100 12 (hm 100 (by decide) (by decide)) (by decide) rfl rfl 12 (by decide) aw_24 (fun _ h => h) rfl dX4_ofLift_5 ?_
  refine e_nrm (y := nI ln) (hv.2.1) ?_
  refine lv_iconst (v := 1) hx hb dX4_ofLift_8 (by decide) ?_
  refine lv_isub hx hb dX4_ofLift_9 ?_
  refine e_cV (As := [.int i0, .int 0, .int ((nI ln) - 1)]) (rest := [.ref (ad 100)]) hx hb hml hown hts 100 (c_X4_in (l := l) hm i0 0 ((nI ln) - 1)) cw_RX4_59 (by decide) (by decide) hz hP hI hK (hm 100 (by decide) (by decide)) (by decide) rfl rfl rfl hl.1 rfl (Nat.le_of_ble_eq_true rfl) ⟨Nat.zero_le _, Nat.zero_le _⟩ dX4_ofLift_10 ?_
  refine lv_if_ne (tgt := 20) hx hb dX4_ofLift_13 (by decide) (fun c_10 => ?_) (fun c_10 => ?_)
  · have nc_10 : (mIn i0 0 ((nI ln) - 1)) = true := bI_n0.mp c_10
    refine lv_aload_n hx hb dX4_ofLift_20 rfl (lv_at hl 0 rfl) ?_
    refine lv_iload_n hx hb dX4_ofLift_21 rfl (lv_at hl 2 rfl) ?_
    refine lv_iconst (v := 0) hx hb dX4_ofLift_22 (by decide) ?_
    refine lv_iconst (v := 4) hx hb dX4_ofLift_23 (by decide) ?_
    refine e_cV (As := [.int x, .int 0, .int 4]) (rest := [.ref (ad 100)]) hx hb hml hown hts 100 (c_X4_in (l := l) hm x 0 4) cw_RX4_59 (by decide) (by decide) hz hP hI hK (hm 100 (by decide) (by decide)) (by decide) rfl rfl rfl hl.1 rfl (Nat.le_of_ble_eq_true rfl) ⟨Nat.zero_le _, Nat.zero_le _⟩ dX4_ofLift_24 ?_
    refine lv_if_eq (tgt := 34) hx hb dX4_ofLift_27 (by decide) (fun c_11 => ?_) (fun c_11 => ?_)
    · have nc_11 : (mIn x 0 4) = false := bI_0.mp c_11
      refine lv_iconst (v := 2) hx hb dX4_ofLift_34 (by decide) ?_
      exact e_nrm (show 2 = (mOfLiftC ln i0 x) from (by first | (simp [mOfLiftC, mOkD, bI, nc_10, nc_11]; done) | (exfalso; simp_all; done))) (J1_35 ls (lv_sub hl [0, 1, 2] rfl))
    · have nc_11 : (mIn x 0 4) = true := bI_n0.mp c_11
      refine lv_iconst (v := 0) hx hb dX4_ofLift_30 (by decide) ?_
      refine lv_goto (tgt := 35) hx hb dX4_ofLift_31 (by decide) ?_
      exact e_nrm (show 0 = (mOfLiftC ln i0 x) from (by first | (simp [mOfLiftC, mOkD, bI, nc_10, nc_11]; done) | (exfalso; simp_all; done))) (J1_35 ls (lv_sub hl [0, 1, 2] rfl))
  · have nc_10 : (mIn i0 0 ((nI ln) - 1)) = false := bI_0.mp c_10
    refine lv_iconst (v := 1) hx hb dX4_ofLift_16 (by decide) ?_
    refine lv_goto (tgt := 35) hx hb dX4_ofLift_17 (by decide) ?_
    exact e_nrm (show 1 = (mOfLiftC ln i0 x) from (by first | (simp [mOfLiftC, mOkD, bI, nc_10]; done) | (exfalso; simp_all; done))) (J1_35 ls (lv_sub hl [0, 1, 2] rfl))

set_option maxRecDepth 100000 in
set_option maxHeartbeats 4000000 in
theorem c_X4_begins {l : Launch} {X : eD} {z0 : Nat} {ad kd sp : Nat → Nat} {v : eV} (hm : mK kd) (c0 : Int32) : eMu l yX4_begins cX4_begins 5 (some .int) 2 [.ref (ad 100), .int c0] X z0 ad kd sp v (some (.int (mBeginsV v c0))) (mT v (mBeginsC v c0)) := by
  refine e_mutI (by decide +kernel) (Nat.le_of_ble_eq_true rfl) rfl ?_
  intro p e s m args below meth c hx hb hml hown hts hW Q hret ls hl
  obtain ⟨hz, hP, hI, hK⟩ := hW
  have hl : lv_has ls 5 [(0, .ref (ad 100)), (1, .int c0)] := hl
  have hS : va_S (e_A z0) s.heap s.heap [] := va_S.rf
  refine lv_lconst (v := 0) hx hb dX4_begins_0 rfl ?_
  refine lv_lstore_n (lv' := [(2, .long 0), (0, .ref (ad 100)), (1, .int c0)]) hx hb dX4_begins_1 rfl hl (by decide) rfl (fun ls hl => ?_)
  refine lv_iconst (v := 0) hx hb dX4_begins_2 (by decide) ?_
  refine lv_istore (lv' := [(4, .int 0), (2, .long 0), (0, .ref (ad 100)), (1, .int c0)]) hx hb dX4_begins_3 hl (by decide) rfl (fun ls hl => ?_)
  have L5 : ∀ (k5 : Nat) (i : Nat) (x2 : Int64), 64 - i < k5 → (i ≤ 64) → (i = 0 ∨ nI (i - 1) < c0) → (x2 = mSum v i) →  ∀ ls : Array Slot, lv_has ls 5 [(4, .int (nI i)), (2, .long x2), (0, .ref (ad 100)), (1, .int c0)] → W p l e (e_rm 2 0 0) s m args below meth c s.heap [] 0 0 Q (F0 m 5 ls []) := by
    intro k5
    induction k5 with
    | zero => intro i x2 hk; exact absurd hk (Nat.not_lt_zero _)
    | succ k5 ih5 =>
      intro i x2 hk5 hi hci ex2 ls hl
      refine lv_iload hx hb dX4_begins_5 (lv_at hl 0 rfl) ?_
      refine lv_iload_n hx hb dX4_begins_7 rfl (lv_at hl 3 rfl) ?_
      refine lv_icmp_ge (tgt := 34) hx hb dX4_begins_8 (by decide) (fun c_1 => ?_) (fun c_1 => ?_)
      · have nc_1 : ¬ (nI i) < c0 := Int32.not_lt.mpr c_1
        refine lv_aload_n hx hb dX4_begins_34 rfl (lv_at hl 2 rfl) ?_
        have J35_60 : ∀ ls : Array Slot, lv_has ls 5 [(4, .int (nI i)), (2, .long x2), (0, .ref (ad 100)), (1, .int c0)] → W p l e (e_rm 2 0 0) s m args below meth c s.heap [] 0 0 Q (F0 m 60 ls [.int (mBeginsC v c0), .ref (ad 100)]) := by
          intro ls hl
          refine e_cVM (As := [.int (mBeginsC v c0)]) (rest := []) hx hb hml hown hts 100 (c_X4_holds (l := l) hm (mBeginsC v c0)) cw_RX4_63 (by decide) (by decide) hz hP hI hK hS (hm 100 (by decide) (by decide)) (by decide) rfl rfl rfl hl.1 rfl (Nat.le_of_ble_eq_true rfl) ⟨Nat.zero_le _, Nat.zero_le _⟩ dX4_begins_60 (fun H locs hz hP hS => ?_)
          refine lv_if_eq (tgt := 70) hx hb dX4_begins_63 (by decide) (fun c_2 => ?_) (fun c_2 => ?_)
          · have nc_2 : ¬ (0 < (mBeginsC v c0)) := of_decide_eq_false (bI_0.mp c_2)
            obtain ⟨c_3, hc_3, ec_3⟩ := e_okC (mBeginsC_ok nc_2)
            have nc_3 := nN_of ec_3 (by omega)
            have hix : x2 = mSum v c_3 := e_begx ex2 hi hci (Or.inl nc_1) ec_3 hc_3
            refine lv_lload_n hx hb dX4_begins_70 rfl (lv_at hl 1 rfl) ?_
            refine lv_l2i hx hb dX4_begins_71 rfl ?_
            exact hret _ _ _ _ _ _ (show (Int64.toInt32 x2) = mBeginsV v c0 from (by first | (simp [mBeginsV, bI, nc_1, nc_2, nc_3, ← hix]; done) | (exfalso; simp_all; done))) (show (mT v (mBeginsC v c0)) = mT v (mBeginsC v c0) from rfl) hP hS dX4_begins_72
          · have nc_2 : (0 < (mBeginsC v c0)) := of_decide_eq_true (bI_n0.mp c_2)
            refine lv_iconst (v := (-1)) hx hb dX4_begins_66 (by decide) ?_
            refine lv_goto (tgt := 72) hx hb dX4_begins_67 (by decide) ?_
            exact hret _ _ _ _ _ _ (show (-1) = mBeginsV v c0 from (by first | (simp [mBeginsV, bI, nc_1, nc_2]; done) | (exfalso; simp_all; done))) (show (mT v (mBeginsC v c0)) = mT v (mBeginsC v c0) from rfl) hP hS dX4_begins_72
        refine lv_aload_n hx hb dX4_begins_35 rfl (lv_at hl 2 rfl) ?_
        refine lv_iload_n hx hb dX4_begins_36 rfl (lv_at hl 3 rfl) ?_
        refine e_cV (As := [.int c0]) (rest := [.ref (ad 100)]) hx hb hml hown hts 100 (c_X4_isCount (l := l) hm c0) cw_RX4_70 (by decide) (by decide) hz hP hI hK (hm 100 (by decide) (by decide)) (by decide) rfl rfl rfl hl.1 rfl (Nat.le_of_ble_eq_true rfl) ⟨Nat.zero_le _, Nat.zero_le _⟩ dX4_begins_37 ?_
        refine lv_if_ne (tgt := 47) hx hb dX4_begins_40 (by decide) (fun c_4 => ?_) (fun c_4 => ?_)
        · have nc_4 : (mIn c0 0 63) = true := bI_n0.mp c_4
          obtain ⟨c_5, hc_5, ec_5⟩ := e_okC (show mOkC c0 = true from nc_4)
          have nc_5 := nN_of ec_5 (by omega)
          have hix : x2 = mSum v c_5 := e_begx ex2 hi hci (Or.inl nc_1) ec_5 hc_5
          refine lv_lload_n hx hb dX4_begins_47 rfl (lv_at hl 1 rfl) ?_
          refine lv_ldc2 hx hb hown (hts _ aw_88) dX4_begins_48 ?_
          refine W.lcmp hx hb dX4_begins_51 ?_
          refine lv_if_le (tgt := 59) hx hb dX4_begins_52 (by decide) (fun c_6 => ?_) (fun c_6 => ?_)
          · have nc_6 : ¬ 2147483647 < x2 := e_cmp_le.mp c_6
            refine lv_iconst (v := 0) hx hb dX4_begins_59 (by decide) ?_
            exact e_nrm (show 0 = (mBeginsC v c0) from (by first | (simp [mBeginsC, mOkC, bI, nc_1, nc_4, nc_5, ← hix, nc_6]; done) | (exfalso; simp_all; done))) (J35_60 ls (lv_sub hl [0, 1, 2, 3] rfl))
          · have nc_6 : 2147483647 < x2 := Decidable.not_not.mp (fun h => c_6 (e_cmp_le.mpr h))
            refine lv_iconst (v := 2) hx hb dX4_begins_55 (by decide) ?_
            refine lv_goto (tgt := 60) hx hb dX4_begins_56 (by decide) ?_
            exact e_nrm (show 2 = (mBeginsC v c0) from (by first | (simp [mBeginsC, mOkC, bI, nc_1, nc_4, nc_5, ← hix, nc_6]; done) | (exfalso; simp_all; done))) (J35_60 ls (lv_sub hl [0, 1, 2, 3] rfl))
        · have nc_4 : (mIn c0 0 63) = false := bI_0.mp c_4
          refine lv_iconst (v := 1) hx hb dX4_begins_43 (by decide) ?_
          refine lv_goto (tgt := 60) hx hb dX4_begins_44 (by decide) ?_
          exact e_nrm (show 1 = (mBeginsC v c0) from (by first | (simp [mBeginsC, mOkC, bI, nc_1, nc_4]; done) | (exfalso; simp_all; done))) (J35_60 ls (lv_sub hl [0, 1, 2, 3] rfl))
      · have nc_1 : (nI i) < c0 := Int32.not_le.mp c_1
        refine lv_iload hx hb dX4_begins_11 (lv_at hl 0 rfl) ?_
        refine lv_bipush (v := 64) hx hb dX4_begins_13 (by decide) ?_
        refine lv_icmp_ge (tgt := 34) hx hb dX4_begins_15 (by decide) (fun c_7 => ?_) (fun c_7 => ?_)
        · have nc_7 : 64 ≤ i := (nI_leI (a := 64) (b := i) (by omega) (by omega)).mp c_7
          refine lv_aload_n hx hb dX4_begins_34 rfl (lv_at hl 2 rfl) ?_
          have J35_60 : ∀ ls : Array Slot, lv_has ls 5 [(4, .int (nI i)), (2, .long x2), (0, .ref (ad 100)), (1, .int c0)] → W p l e (e_rm 2 0 0) s m args below meth c s.heap [] 0 0 Q (F0 m 60 ls [.int (mBeginsC v c0), .ref (ad 100)]) := by
            intro ls hl
            refine e_cVM (As := [.int (mBeginsC v c0)]) (rest := []) hx hb hml hown hts 100 (c_X4_holds (l := l) hm (mBeginsC v c0)) cw_RX4_63 (by decide) (by decide) hz hP hI hK hS (hm 100 (by decide) (by decide)) (by decide) rfl rfl rfl hl.1 rfl (Nat.le_of_ble_eq_true rfl) ⟨Nat.zero_le _, Nat.zero_le _⟩ dX4_begins_60 (fun H locs hz hP hS => ?_)
            refine lv_if_eq (tgt := 70) hx hb dX4_begins_63 (by decide) (fun c_8 => ?_) (fun c_8 => ?_)
            · have nc_8 : ¬ (0 < (mBeginsC v c0)) := of_decide_eq_false (bI_0.mp c_8)
              obtain ⟨c_9, hc_9, ec_9⟩ := e_okC (mBeginsC_ok nc_8)
              have nc_9 := nN_of ec_9 (by omega)
              have hix : x2 = mSum v c_9 := e_begx ex2 hi hci (Or.inr nc_7) ec_9 hc_9
              refine lv_lload_n hx hb dX4_begins_70 rfl (lv_at hl 1 rfl) ?_
              refine lv_l2i hx hb dX4_begins_71 rfl ?_
              exact hret _ _ _ _ _ _ (show (Int64.toInt32 x2) = mBeginsV v c0 from (by first | (simp [mBeginsV, bI, nc_1, nc_7, nc_8, nc_9, ← hix]; done) | (exfalso; simp_all; done))) (show (mT v (mBeginsC v c0)) = mT v (mBeginsC v c0) from rfl) hP hS dX4_begins_72
            · have nc_8 : (0 < (mBeginsC v c0)) := of_decide_eq_true (bI_n0.mp c_8)
              refine lv_iconst (v := (-1)) hx hb dX4_begins_66 (by decide) ?_
              refine lv_goto (tgt := 72) hx hb dX4_begins_67 (by decide) ?_
              exact hret _ _ _ _ _ _ (show (-1) = mBeginsV v c0 from (by first | (simp [mBeginsV, bI, nc_1, nc_7, nc_8]; done) | (exfalso; simp_all; done))) (show (mT v (mBeginsC v c0)) = mT v (mBeginsC v c0) from rfl) hP hS dX4_begins_72
          refine lv_aload_n hx hb dX4_begins_35 rfl (lv_at hl 2 rfl) ?_
          refine lv_iload_n hx hb dX4_begins_36 rfl (lv_at hl 3 rfl) ?_
          refine e_cV (As := [.int c0]) (rest := [.ref (ad 100)]) hx hb hml hown hts 100 (c_X4_isCount (l := l) hm c0) cw_RX4_70 (by decide) (by decide) hz hP hI hK (hm 100 (by decide) (by decide)) (by decide) rfl rfl rfl hl.1 rfl (Nat.le_of_ble_eq_true rfl) ⟨Nat.zero_le _, Nat.zero_le _⟩ dX4_begins_37 ?_
          refine lv_if_ne (tgt := 47) hx hb dX4_begins_40 (by decide) (fun c_10 => ?_) (fun c_10 => ?_)
          · have nc_10 : (mIn c0 0 63) = true := bI_n0.mp c_10
            obtain ⟨c_11, hc_11, ec_11⟩ := e_okC (show mOkC c0 = true from nc_10)
            have nc_11 := nN_of ec_11 (by omega)
            have hix : x2 = mSum v c_11 := e_begx ex2 hi hci (Or.inr nc_7) ec_11 hc_11
            refine lv_lload_n hx hb dX4_begins_47 rfl (lv_at hl 1 rfl) ?_
            refine lv_ldc2 hx hb hown (hts _ aw_88) dX4_begins_48 ?_
            refine W.lcmp hx hb dX4_begins_51 ?_
            refine lv_if_le (tgt := 59) hx hb dX4_begins_52 (by decide) (fun c_12 => ?_) (fun c_12 => ?_)
            · have nc_12 : ¬ 2147483647 < x2 := e_cmp_le.mp c_12
              refine lv_iconst (v := 0) hx hb dX4_begins_59 (by decide) ?_
              exact e_nrm (show 0 = (mBeginsC v c0) from (by first | (simp [mBeginsC, mOkC, bI, nc_1, nc_7, nc_10, nc_11, ← hix, nc_12]; done) | (exfalso; simp_all; done))) (J35_60 ls (lv_sub hl [0, 1, 2, 3] rfl))
            · have nc_12 : 2147483647 < x2 := Decidable.not_not.mp (fun h => c_12 (e_cmp_le.mpr h))
              refine lv_iconst (v := 2) hx hb dX4_begins_55 (by decide) ?_
              refine lv_goto (tgt := 60) hx hb dX4_begins_56 (by decide) ?_
              exact e_nrm (show 2 = (mBeginsC v c0) from (by first | (simp [mBeginsC, mOkC, bI, nc_1, nc_7, nc_10, nc_11, ← hix, nc_12]; done) | (exfalso; simp_all; done))) (J35_60 ls (lv_sub hl [0, 1, 2, 3] rfl))
          · have nc_10 : (mIn c0 0 63) = false := bI_0.mp c_10
            refine lv_iconst (v := 1) hx hb dX4_begins_43 (by decide) ?_
            refine lv_goto (tgt := 60) hx hb dX4_begins_44 (by decide) ?_
            exact e_nrm (show 1 = (mBeginsC v c0) from (by first | (simp [mBeginsC, mOkC, bI, nc_1, nc_7, nc_10]; done) | (exfalso; simp_all; done))) (J35_60 ls (lv_sub hl [0, 1, 2, 3] rfl))
        · have nc_7 : ¬ 64 ≤ i := fun h => c_7 ((nI_leI (a := 64) (b := i) (by omega) (by omega)).mpr h)
          refine lv_lload_n hx hb dX4_begins_18 rfl (lv_at hl 1 rfl) ?_
          refine lv_aload_n hx hb dX4_begins_19 rfl (lv_at hl 2 rfl) ?_
          refine lv_iload hx hb dX4_begins_20 (lv_at hl 0 rfl) ?_
          refine e_cV (As := [.int (nI i)]) (rest := [.long x2]) hx hb hml hown hts 100 (c_X4_lasts (l := l) hm i (by omega)) cw_RX4_105 (by decide) (by decide) hz hP hI hK (hm 100 (by decide) (by decide)) (by decide) rfl rfl rfl hl.1 rfl (Nat.le_of_ble_eq_true rfl) ⟨Nat.zero_le _, Nat.zero_le _⟩ dX4_begins_22 ?_
          refine lv_i2l hx hb dX4_begins_25 rfl ?_
          refine lv_ladd hx hb dX4_begins_26 ?_
          refine lv_lstore_n (lv' := [(2, .long (x2 + (Int32.toInt64 (mLast v (i + 1))))), (4, .int (nI i)), (0, .ref (ad 100)), (1, .int c0)]) hx hb dX4_begins_27 rfl hl (by decide) rfl (fun ls hl => ?_)
          refine lv_iinc (v := (nI (i + 1))) (lv' := [(4, .int (nI (i + 1))), (2, .long (x2 + (Int32.toInt64 (mLast v (i + 1))))), (0, .ref (ad 100)), (1, .int c0)]) hx hb dX4_begins_28 hl (k := 1) rfl (nI_add i 1) (by decide) rfl (fun ls hl => ?_)
          refine lv_goto (tgt := 5) hx hb dX4_begins_31 (by decide) ?_
          exact ih5 (i + 1) (x2 + (Int32.toInt64 (mLast v (i + 1)))) (by omega) (by omega) (Or.inr (by simpa using nc_1)) (by rw [ex2]; rfl)  ls (lv_sub hl [0, 1, 2, 3] rfl)
  exact L5 _ 0 0 (Nat.lt_succ_self _) (Nat.zero_le _) (Or.inl rfl) (rfl)  ls (lv_sub hl [0, 1, 2, 3] rfl)

set_option maxRecDepth 100000 in
set_option maxHeartbeats 4000000 in
theorem c_X4_dancer {l : Launch} {X : eD} {z0 : Nat} {ad kd sp : Nat → Nat} {v : eV} (dn ln : Nat) (hm : mK kd) (hv : mI dn ln v) (x y : Int32) : eMu l yX4_dancer cX4_dancer 6 (some .int) 1 [.ref (ad 100), .int x, .int y] X z0 ad kd sp v (some (.int (mDancerV v dn x y))) (mDancerS v dn x y) := by
  refine e_mutI (by decide +kernel) (Nat.le_of_ble_eq_true rfl) rfl ?_
  intro p e s m args below meth c hx hb hml hown hts hW Q hret ls hl
  obtain ⟨hz, hP, hI, hK⟩ := hW
  have hl : lv_has ls 6 [(0, .ref (ad 100)), (1, .int x), (2, .int y)] := hl
  have hS : va_S (e_A z0) s.heap s.heap [] := va_S.rf
  have hd8 := hv.2.2.1
  have hl12 := hv.2.2.2.1
  have J0_27 : ∀ ls : Array Slot, lv_has ls 6 [(0, .ref (ad 100)), (1, .int x), (2, .int y)] → W p l e (e_rm 1 0 0) s m args below meth c s.heap [] 0 0 Q (F0 m 27 ls [.int (bI (mIn x 0 7 && mIn y 0 7))]) := by
    intro ls hl
    refine lv_istore_n (lv' := [(3, .int (bI (mIn x 0 7 && mIn y 0 7))), (0, .ref (ad 100)), (1, .int x), (2, .int y)]) hx hb dX4_dancer_27 rfl hl (by decide) rfl (fun ls hl => ?_)
    refine lv_iconst (v := 0) hx hb dX4_dancer_28 (by decide) ?_
    refine lv_istore (lv' := [(4, .int 0), (3, .int (bI (mIn x 0 7 && mIn y 0 7))), (0, .ref (ad 100)), (1, .int x), (2, .int y)]) hx hb dX4_dancer_29 hl (by decide) rfl (fun ls hl => ?_)
    refine lv_iconst (v := 0) hx hb dX4_dancer_31 (by decide) ?_
    refine lv_istore (lv' := [(5, .int 0), (4, .int 0), (3, .int (bI (mIn x 0 7 && mIn y 0 7))), (0, .ref (ad 100)), (1, .int x), (2, .int y)]) hx hb dX4_dancer_32 hl (by decide) rfl (fun ls hl => ?_)
    have L34 : ∀ (k34 : Nat) (i : Nat) (b4 : Bool), dn - i < k34 → (i ≤ dn) → (b4 = mSame v x y i) →  ∀ ls : Array Slot, lv_has ls 6 [(5, .int (nI i)), (4, .int (bI b4)), (3, .int (bI (mIn x 0 7 && mIn y 0 7))), (0, .ref (ad 100)), (1, .int x), (2, .int y)] → W p l e (e_rm 1 0 0) s m args below meth c s.heap [] 0 0 Q (F0 m 34 ls []) := by
      intro k34
      induction k34 with
      | zero => intro i b4 hk; exact absurd hk (Nat.not_lt_zero _)
      | succ k34 ih34 =>
        intro i b4 hk34 hi eb4 ls hl
        refine lv_iload hx hb dX4_dancer_34 (lv_at hl 0 rfl) ?_
        refine lv_aload_n hx hb dX4_dancer_36 rfl (lv_at hl 3 rfl) ?_
        refine e_getf hx hb hts inX4 hown hK hP 100 12 (hm 100 (by decide) (by decide)) (by decide) rfl rfl 4 (by decide) aw_0 (fun _ h => h) rfl dX4_dancer_37 ?_
        refine e_nrm (y := nI dn) (hv.1) ?_
        refine lv_icmp_ge (tgt := 81) hx hb dX4_dancer_40 (by decide) (fun c_1 => ?_) (fun c_1 => ?_)
        · have nc_1 : dn ≤ i := (nI_leI (a := dn) (b := i) (by omega) (by omega)).mp c_1
          have heq : b4 = mSame v x y dn := by rw [eb4, show i = dn by omega]
          refine lv_aload_n hx hb dX4_dancer_81 rfl (lv_at hl 3 rfl) ?_
          have J82_109 : ∀ ls : Array Slot, lv_has ls 6 [(5, .int (nI i)), (4, .int (bI b4)), (3, .int (bI (mIn x 0 7 && mIn y 0 7))), (0, .ref (ad 100)), (1, .int x), (2, .int y)] → W p l e (e_rm 1 0 0) s m args below meth c s.heap [] 0 0 Q (F0 m 109 ls [.int (mDancerC v dn x y), .ref (ad 100)]) := by
            intro ls hl
            refine e_cVM (As := [.int (mDancerC v dn x y)]) (rest := []) hx hb hml hown hts 100 (c_X4_holds (l := l) hm (mDancerC v dn x y)) cw_RX4_63 (by decide) (by decide) hz hP hI hK hS (hm 100 (by decide) (by decide)) (by decide) rfl rfl rfl hl.1 rfl (Nat.le_of_ble_eq_true rfl) ⟨Nat.zero_le _, Nat.zero_le _⟩ dX4_dancer_109 (fun H locs hz hP hS => ?_)
            refine lv_if_eq (tgt := 117) hx hb dX4_dancer_112 (by decide) (fun c_2 => ?_) (fun c_2 => ?_)
            · have nc_2 : ¬ (0 < (mDancerC v dn x y)) := of_decide_eq_false (bI_0.mp c_2)
              have h9 := mDancerC_ok nc_2
              refine lv_aload_n hx hb dX4_dancer_117 rfl (lv_at hl 3 rfl) ?_
              refine e_getf hx hb hts inX4 hown hK hP 100 12 (hm 100 (by decide) (by decide)) (by decide) rfl rfl 0 (by decide) aw_7 (fun _ h => h) rfl dX4_dancer_118 ?_
              refine lv_aload_n hx hb dX4_dancer_121 rfl (lv_at hl 3 rfl) ?_
              refine e_getf hx hb hts inX4 hown hK hP 100 12 (hm 100 (by decide) (by decide)) (by decide) rfl rfl 4 (by decide) aw_0 (fun _ h => h) rfl dX4_dancer_122 ?_
              refine e_nrm (y := nI dn) (hv.1) ?_
              refine lv_iload_n hx hb dX4_dancer_125 rfl (lv_at hl 4 rfl) ?_
              refine e_iast hx hb hK hP hI hS 101 8 (hm 101 (by decide) (by decide)) dn rfl (by omega) (by omega) dX4_dancer_126 (fun H locs hz1 hP hS => ?_)
              have hz := Nat.le_trans hz (Nat.le_of_eq hz1.symm)
              refine lv_aload_n hx hb dX4_dancer_127 rfl (lv_at hl 3 rfl) ?_
              refine e_getf hx hb hts inX4 hown hK hP 100 12 (hm 100 (by decide) (by decide)) (by decide) rfl rfl 1 (by decide) aw_9 (fun _ h => h) rfl dX4_dancer_128 ?_
              refine lv_aload_n hx hb dX4_dancer_131 rfl (lv_at hl 3 rfl) ?_
              refine e_getf hx hb hts inX4 hown hK hP 100 12 (hm 100 (by decide) (by decide)) (by decide) rfl rfl 4 (by decide) aw_0 (fun _ h => h) rfl dX4_dancer_132 ?_
              refine e_nrm (y := nI dn) (hv.1) ?_
              refine lv_iload_n hx hb dX4_dancer_135 rfl (lv_at hl 5 rfl) ?_
              refine e_iast hx hb hK hP hI hS 102 8 (hm 102 (by decide) (by decide)) dn rfl (by omega) (by omega) dX4_dancer_136 (fun H locs hz1 hP hS => ?_)
              have hz := Nat.le_trans hz (Nat.le_of_eq hz1.symm)
              refine lv_aload_n hx hb dX4_dancer_137 rfl (lv_at hl 3 rfl) ?_
              refine lv_dup hx hb dX4_dancer_138 rfl ?_
              refine e_getf hx hb hts inX4 hown hK hP 100 12 (hm 100 (by decide) (by decide)) (by decide) rfl rfl 4 (by decide) aw_0 (fun _ h => h) rfl dX4_dancer_139 ?_
              refine e_nrm (y := nI dn) (hv.1) ?_
              refine lv_iconst (v := 1) hx hb dX4_dancer_142 (by decide) ?_
              refine lv_iadd hx hb dX4_dancer_143 ?_
              refine e_nrm (y := (nI (dn + 1))) (nI_add dn 1) ?_
              refine e_putf hx hb hts inX4 tyX4 tyX4_ok nmX4 hown hK hP hI hS 100 12 (hm 100 (by decide) (by decide)) (by decide) rfl rfl 4 (by decide) aw_0 (fun _ h => h) rfl (ty := .int) (by decide +kernel) rfl rfl (Nat.le_of_ble_eq_true rfl) rfl dX4_dancer_144 (fun H locs hz1 hP hS => ?_)
              have hz := Nat.le_trans hz (Nat.le_of_eq hz1.symm)
              refine lv_aload_n hx hb dX4_dancer_147 rfl (lv_at hl 3 rfl) ?_
              refine e_getf hx hb hts inX4 hown hK hP 100 12 (hm 100 (by decide) (by decide)) (by decide) rfl rfl 4 (by decide) aw_0 (fun _ h => h) rfl dX4_dancer_148 ?_
              refine e_nrm (y := nI (dn + 1)) (rfl) ?_
              refine lv_iconst (v := 1) hx hb dX4_dancer_151 (by decide) ?_
              refine lv_isub hx hb dX4_dancer_152 ?_
              refine e_nrm (y := (nI ((dn + 1) - 1))) (pk_sub (a := (dn + 1)) (b := 1) (by omega)) ?_
              exact hret _ _ _ _ _ _ (show (nI ((dn + 1) - 1)) = mDancerV v dn x y from (by first | (simp [mDancerV, bI, nc_1, ← heq, nc_2]; done) | (exfalso; simp_all; done))) (show (e_set (e_set (e_set (mT v (mDancerC v dn x y)) 101 dn x) 102 dn y) 100 4 (nI (dn + 1))) = mDancerS v dn x y from (by first | (simp [mDancerV, bI, mDancerS, nc_1, ← heq, nc_2]; done) | (exfalso; simp_all; done))) hP hS dX4_dancer_153
            · have nc_2 : (0 < (mDancerC v dn x y)) := of_decide_eq_true (bI_n0.mp c_2)
              refine lv_iconst (v := (-1)) hx hb dX4_dancer_115 (by decide) ?_
              exact hret _ _ _ _ _ _ (show (-1) = mDancerV v dn x y from (by first | (simp [mDancerV, bI, nc_1, ← heq, nc_2]; done) | (exfalso; simp_all; done))) (show (mT v (mDancerC v dn x y)) = mDancerS v dn x y from (by first | (simp [mDancerV, bI, mDancerS, nc_1, ← heq, nc_2]; done) | (exfalso; simp_all; done))) hP hS dX4_dancer_116
          refine lv_iload_n hx hb dX4_dancer_82 rfl (lv_at hl 2 rfl) ?_
          refine lv_if_ne (tgt := 90) hx hb dX4_dancer_83 (by decide) (fun c_3 => ?_) (fun c_3 => ?_)
          · have nc_3 : (mIn x 0 7 && mIn y 0 7) = true := bI_n0.mp c_3
            refine lv_iload hx hb dX4_dancer_90 (lv_at hl 1 rfl) ?_
            refine lv_if_ne (tgt := 104) hx hb dX4_dancer_92 (by decide) (fun c_4 => ?_) (fun c_4 => ?_)
            · have nc_4 : b4 = true := bI_n0.mp c_4
              refine lv_iconst (v := 2) hx hb dX4_dancer_104 (by decide) ?_
              refine lv_goto (tgt := 109) hx hb dX4_dancer_105 (by decide) ?_
              exact e_nrm (show 2 = (mDancerC v dn x y) from (by first | (simp [mDancerC, bI, nc_1, ← heq, nc_3, nc_4]; done) | (exfalso; simp_all; done))) (J82_109 ls (lv_sub hl [0, 1, 2, 3, 4, 5] rfl))
            · have nc_4 : b4 = false := bI_0.mp c_4
              refine lv_aload_n hx hb dX4_dancer_95 rfl (lv_at hl 3 rfl) ?_
              refine e_getf hx hb hts inX4 hown hK hP 100 12 (hm 100 (by decide) (by decide)) (by decide) rfl rfl 4 (by decide) aw_0 (fun _ h => h) rfl dX4_dancer_96 ?_
              refine e_nrm (y := nI dn) (hv.1) ?_
              refine lv_bipush (v := 8) hx hb dX4_dancer_99 (by decide) ?_
              refine lv_icmp_ne (tgt := 108) hx hb dX4_dancer_101 (by decide) (fun c_5 => ?_) (fun c_5 => ?_)
              · have nc_5 : ¬ dn = 8 := fun h => c_5 ((nI_eq (a := dn) (b := 8) (by omega) (by omega)).mpr h)
                refine lv_iconst (v := 0) hx hb dX4_dancer_108 (by decide) ?_
                exact e_nrm (show 0 = (mDancerC v dn x y) from (by first | (simp [mDancerC, bI, nc_1, ← heq, nc_3, nc_4, nc_5]; done) | (exfalso; simp_all; done))) (J82_109 ls (lv_sub hl [0, 1, 2, 3, 4, 5] rfl))
              · have nc_5 : dn = 8 := (nI_eq (a := dn) (b := 8) (by omega) (by omega)).mp c_5
                refine lv_iconst (v := 2) hx hb dX4_dancer_104 (by decide) ?_
                refine lv_goto (tgt := 109) hx hb dX4_dancer_105 (by decide) ?_
                exact e_nrm (show 2 = (mDancerC v dn x y) from (by first | (simp [mDancerC, bI, nc_1, ← heq, nc_3, nc_4, nc_5]; done) | (exfalso; simp_all; done))) (J82_109 ls (lv_sub hl [0, 1, 2, 3, 4, 5] rfl))
          · have nc_3 : (mIn x 0 7 && mIn y 0 7) = false := bI_0.mp c_3
            refine lv_iconst (v := 1) hx hb dX4_dancer_86 (by decide) ?_
            refine lv_goto (tgt := 109) hx hb dX4_dancer_87 (by decide) ?_
            exact e_nrm (show 1 = (mDancerC v dn x y) from (by first | (simp [mDancerC, bI, nc_1, ← heq, nc_3]; done) | (exfalso; simp_all; done))) (J82_109 ls (lv_sub hl [0, 1, 2, 3, 4, 5] rfl))
        · have nc_1 : ¬ dn ≤ i := fun h => c_1 ((nI_leI (a := dn) (b := i) (by omega) (by omega)).mpr h)
          refine lv_iload hx hb dX4_dancer_43 (lv_at hl 1 rfl) ?_
          have J45_72 : ∀ ls : Array Slot, lv_has ls 6 [(5, .int (nI i)), (4, .int (bI b4)), (3, .int (bI (mIn x 0 7 && mIn y 0 7))), (0, .ref (ad 100)), (1, .int x), (2, .int y)] → W p l e (e_rm 1 0 0) s m args below meth c s.heap [] 0 0 Q (F0 m 72 ls [.int (bI (decide (v 101 i = x) && decide (v 102 i = y))), .int (bI b4)]) := by
            intro ls hl
            refine lv_ior hx hb dX4_dancer_72 ?_
            refine e_nrm (y := bI (b4 || (decide (v 101 i = x) && decide (v 102 i = y)))) (bI_or _ _) ?_
            refine lv_istore (lv' := [(4, .int (bI (b4 || (decide (v 101 i = x) && decide (v 102 i = y))))), (5, .int (nI i)), (3, .int (bI (mIn x 0 7 && mIn y 0 7))), (0, .ref (ad 100)), (1, .int x), (2, .int y)]) hx hb dX4_dancer_73 hl (by decide) rfl (fun ls hl => ?_)
            refine lv_iinc (v := (nI (i + 1))) (lv' := [(5, .int (nI (i + 1))), (4, .int (bI (b4 || (decide (v 101 i = x) && decide (v 102 i = y))))), (3, .int (bI (mIn x 0 7 && mIn y 0 7))), (0, .ref (ad 100)), (1, .int x), (2, .int y)]) hx hb dX4_dancer_75 hl (k := 1) rfl (nI_add i 1) (by decide) rfl (fun ls hl => ?_)
            refine lv_goto (tgt := 34) hx hb dX4_dancer_78 (by decide) ?_
            exact ih34 (i + 1) (b4 || (decide (v 101 i = x) && decide (v 102 i = y))) (by omega) (by omega) (by rw [eb4]; rfl)  ls (lv_sub hl [0, 1, 2, 3, 4, 5] rfl)
          refine lv_aload_n hx hb dX4_dancer_45 rfl (lv_at hl 3 rfl) ?_
          refine e_getf hx hb hts inX4 hown hK hP 100 12 (hm 100 (by decide) (by decide)) (by decide) rfl rfl 0 (by decide) aw_7 (fun _ h => h) rfl dX4_dancer_46 ?_
          refine lv_iload hx hb dX4_dancer_49 (lv_at hl 0 rfl) ?_
          refine e_iald hx hb hK hP 101 8 (hm 101 (by decide) (by decide)) i rfl (by omega) (by decide) dX4_dancer_51 ?_
          refine lv_iload_n hx hb dX4_dancer_52 rfl (lv_at hl 4 rfl) ?_
          refine lv_icmp_ne (tgt := 71) hx hb dX4_dancer_53 (by decide) (fun c_6 => ?_) (fun c_6 => ?_)
          · skip
            refine lv_iconst (v := 0) hx hb dX4_dancer_71 (by decide) ?_
            exact e_nrm (show 0 = (bI (decide (v 101 i = x) && decide (v 102 i = y))) from (by first | (simp [mDancerC, bI, nc_1, eq_false c_6]; done) | (exfalso; simp_all; done))) (J45_72 ls (lv_sub hl [0, 1, 2, 3, 4, 5] rfl))
          · skip
            refine lv_aload_n hx hb dX4_dancer_56 rfl (lv_at hl 3 rfl) ?_
            refine e_getf hx hb hts inX4 hown hK hP 100 12 (hm 100 (by decide) (by decide)) (by decide) rfl rfl 1 (by decide) aw_9 (fun _ h => h) rfl dX4_dancer_57 ?_
            refine lv_iload hx hb dX4_dancer_60 (lv_at hl 0 rfl) ?_
            refine e_iald hx hb hK hP 102 8 (hm 102 (by decide) (by decide)) i rfl (by omega) (by decide) dX4_dancer_62 ?_
            refine lv_iload_n hx hb dX4_dancer_63 rfl (lv_at hl 5 rfl) ?_
            refine lv_icmp_ne (tgt := 71) hx hb dX4_dancer_64 (by decide) (fun c_7 => ?_) (fun c_7 => ?_)
            · skip
              refine lv_iconst (v := 0) hx hb dX4_dancer_71 (by decide) ?_
              exact e_nrm (show 0 = (bI (decide (v 101 i = x) && decide (v 102 i = y))) from (by first | (simp [mDancerC, bI, nc_1, eq_true c_6, eq_false c_7]; done) | (exfalso; simp_all; done))) (J45_72 ls (lv_sub hl [0, 1, 2, 3, 4, 5] rfl))
            · skip
              refine lv_iconst (v := 1) hx hb dX4_dancer_67 (by decide) ?_
              refine lv_goto (tgt := 72) hx hb dX4_dancer_68 (by decide) ?_
              exact e_nrm (show 1 = (bI (decide (v 101 i = x) && decide (v 102 i = y))) from (by first | (simp [mDancerC, bI, nc_1, eq_true c_6, eq_true c_7]; done) | (exfalso; simp_all; done))) (J45_72 ls (lv_sub hl [0, 1, 2, 3, 4, 5] rfl))
    exact L34 _ 0 false (Nat.lt_succ_self _) (Nat.zero_le _) (rfl)  ls (lv_sub hl [0, 1, 2, 3, 4, 5] rfl)
  refine lv_aload_n hx hb dX4_dancer_0 rfl (lv_at hl 0 rfl) ?_
  refine lv_iload_n hx hb dX4_dancer_1 rfl (lv_at hl 1 rfl) ?_
  refine lv_iconst (v := 0) hx hb dX4_dancer_2 (by decide) ?_
  refine lv_bipush (v := 7) hx hb dX4_dancer_3 (by decide) ?_
  refine e_cV (As := [.int x, .int 0, .int 7]) (rest := []) hx hb hml hown hts 100 (c_X4_in (l := l) hm x 0 7) cw_RX4_59 (by decide) (by decide) hz hP hI hK (hm 100 (by decide) (by decide)) (by decide) rfl rfl rfl hl.1 rfl (Nat.le_of_ble_eq_true rfl) ⟨Nat.zero_le _, Nat.zero_le _⟩ dX4_dancer_5 ?_
  refine lv_if_eq (tgt := 26) hx hb dX4_dancer_8 (by decide) (fun c_8 => ?_) (fun c_8 => ?_)
  · have nc_8 : (mIn x 0 7) = false := bI_0.mp c_8
    refine lv_iconst (v := 0) hx hb dX4_dancer_26 (by decide) ?_
    exact e_nrm (show 0 = (bI (mIn x 0 7 && mIn y 0 7)) from (by first | (simp [mDancerC, bI, nc_8]; done) | (exfalso; simp_all; done))) (J0_27 ls (lv_sub hl [0, 1, 2] rfl))
  · have nc_8 : (mIn x 0 7) = true := bI_n0.mp c_8
    refine lv_aload_n hx hb dX4_dancer_11 rfl (lv_at hl 0 rfl) ?_
    refine lv_iload_n hx hb dX4_dancer_12 rfl (lv_at hl 2 rfl) ?_
    refine lv_iconst (v := 0) hx hb dX4_dancer_13 (by decide) ?_
    refine lv_bipush (v := 7) hx hb dX4_dancer_14 (by decide) ?_
    refine e_cV (As := [.int y, .int 0, .int 7]) (rest := []) hx hb hml hown hts 100 (c_X4_in (l := l) hm y 0 7) cw_RX4_59 (by decide) (by decide) hz hP hI hK (hm 100 (by decide) (by decide)) (by decide) rfl rfl rfl hl.1 rfl (Nat.le_of_ble_eq_true rfl) ⟨Nat.zero_le _, Nat.zero_le _⟩ dX4_dancer_16 ?_
    refine lv_if_eq (tgt := 26) hx hb dX4_dancer_19 (by decide) (fun c_9 => ?_) (fun c_9 => ?_)
    · have nc_9 : (mIn y 0 7) = false := bI_0.mp c_9
      refine lv_iconst (v := 0) hx hb dX4_dancer_26 (by decide) ?_
      exact e_nrm (show 0 = (bI (mIn x 0 7 && mIn y 0 7)) from (by first | (simp [mDancerC, bI, nc_8, nc_9]; done) | (exfalso; simp_all; done))) (J0_27 ls (lv_sub hl [0, 1, 2] rfl))
    · have nc_9 : (mIn y 0 7) = true := bI_n0.mp c_9
      refine lv_iconst (v := 1) hx hb dX4_dancer_22 (by decide) ?_
      refine lv_goto (tgt := 27) hx hb dX4_dancer_23 (by decide) ?_
      exact e_nrm (show 1 = (bI (mIn x 0 7 && mIn y 0 7)) from (by first | (simp [mDancerC, bI, nc_8, nc_9]; done) | (exfalso; simp_all; done))) (J0_27 ls (lv_sub hl [0, 1, 2] rfl))

set_option maxRecDepth 100000 in
set_option maxHeartbeats 4000000 in
theorem c_X4_move {l : Launch} {X : eD} {z0 : Nat} {ad kd sp : Nat → Nat} {v : eV} (dn ln : Nat) (hm : mK kd) (hv : mI dn ln v) (d c0 x y : Int32) : eMu l yX4_move cX4_move 8 (some .int) 2 [.ref (ad 100), .int d, .int c0, .int x, .int y] X z0 ad kd sp v (some (.int (mMoveV v dn d c0 x y))) (mMoveS v dn d c0 x y) := by
  refine e_mutI (by decide +kernel) (Nat.le_of_ble_eq_true rfl) rfl ?_
  intro p e s m args below meth c hx hb hml hown hts hW Q hret ls hl
  obtain ⟨hz, hP, hI, hK⟩ := hW
  have hl : lv_has ls 8 [(0, .ref (ad 100)), (1, .int d), (2, .int c0), (3, .int x), (4, .int y)] := hl
  have hS : va_S (e_A z0) s.heap s.heap [] := va_S.rf
  have hd8 := hv.2.2.1
  have hl12 := hv.2.2.2.1
  have J0_21 : ∀ ls : Array Slot, lv_has ls 8 [(0, .ref (ad 100)), (1, .int d), (2, .int c0), (3, .int x), (4, .int y)] → W p l e (e_rm 2 0 0) s m args below meth c s.heap [] 0 0 Q (F0 m 21 ls [.int (bI (mOkD dn d && mOkC c0))]) := by
    intro ls hl
    refine lv_istore (lv' := [(5, .int (bI (mOkD dn d && mOkC c0))), (0, .ref (ad 100)), (1, .int d), (2, .int c0), (3, .int x), (4, .int y)]) hx hb dX4_move_21 hl (by decide) rfl (fun ls hl => ?_)
    refine lv_aload_n hx hb dX4_move_23 rfl (lv_at hl 1 rfl) ?_
    have J24_75 : ∀ ls : Array Slot, lv_has ls 8 [(5, .int (bI (mOkD dn d && mOkC c0))), (0, .ref (ad 100)), (1, .int d), (2, .int c0), (3, .int x), (4, .int y)] → W p l e (e_rm 2 0 0) s m args below meth c s.heap [] 0 0 Q (F0 m 75 ls [.int (mMoveC v dn d c0 x y), .ref (ad 100)]) := by
      intro ls hl
      refine e_cVM (As := [.int (mMoveC v dn d c0 x y)]) (rest := []) hx hb hml hown hts 100 (c_X4_holds (l := l) hm (mMoveC v dn d c0 x y)) cw_RX4_63 (by decide) (by decide) hz hP hI hK hS (hm 100 (by decide) (by decide)) (by decide) rfl rfl rfl hl.1 rfl (Nat.le_of_ble_eq_true rfl) ⟨Nat.zero_le _, Nat.zero_le _⟩ dX4_move_75 (fun H locs hz hP hS => ?_)
      refine lv_if_eq (tgt := 83) hx hb dX4_move_78 (by decide) (fun c_1 => ?_) (fun c_1 => ?_)
      · have nc_1 : ¬ (0 < (mMoveC v dn d c0 x y)) := of_decide_eq_false (bI_0.mp c_1)
        obtain ⟨d_2, hd_2, ed_2⟩ := e_okD hd8 ((mMoveC_ok nc_1).1)
        have nd_2 := nN_of ed_2 (by omega)
        obtain ⟨c_3, hc_3, ec_3⟩ := e_okC ((mMoveC_ok nc_1).2)
        have nc_3 := nN_of ec_3 (by omega)
        refine lv_aload_n hx hb dX4_move_83 rfl (lv_at hl 1 rfl) ?_
        refine e_getf hx hb hts inX4 hown hK hP 100 12 (hm 100 (by decide) (by decide)) (by decide) rfl rfl 5 (by decide) aw_8 (fun _ h => h) rfl dX4_move_84 ?_
        refine lv_bipush (v := 64) hx hb dX4_move_87 (by decide) ?_
        refine lv_iload_n hx hb dX4_move_89 rfl (lv_at hl 2 rfl) ?_
        refine e_nrm (y := nI d_2) ed_2 ?_
        refine lv_imul hx hb dX4_move_90 ?_
        refine e_nrm (y := (nI (64 * d_2))) (pk_mul 64 d_2) ?_
        refine lv_iload_n hx hb dX4_move_91 rfl (lv_at hl 3 rfl) ?_
        refine e_nrm (y := nI c_3) ec_3 ?_
        refine lv_iadd hx hb dX4_move_92 ?_
        refine e_nrm (y := (nI ((64 * d_2) + c_3))) (nI_add (64 * d_2) c_3) ?_
        refine lv_iload_n hx hb dX4_move_93 rfl (lv_at hl 4 rfl) ?_
        refine e_iast hx hb hK hP hI hS 105 512 (hm 105 (by decide) (by decide)) ((64 * d_2) + c_3) rfl (by omega) (by omega) dX4_move_94 (fun H locs hz1 hP hS => ?_)
        have hz := Nat.le_trans hz (Nat.le_of_eq hz1.symm)
        refine lv_aload_n hx hb dX4_move_95 rfl (lv_at hl 1 rfl) ?_
        refine e_getf hx hb hts inX4 hown hK hP 100 12 (hm 100 (by decide) (by decide)) (by decide) rfl rfl 6 (by decide) aw_10 (fun _ h => h) rfl dX4_move_96 ?_
        refine lv_bipush (v := 64) hx hb dX4_move_99 (by decide) ?_
        refine lv_iload_n hx hb dX4_move_101 rfl (lv_at hl 2 rfl) ?_
        refine e_nrm (y := nI d_2) ed_2 ?_
        refine lv_imul hx hb dX4_move_102 ?_
        refine e_nrm (y := (nI (64 * d_2))) (pk_mul 64 d_2) ?_
        refine lv_iload_n hx hb dX4_move_103 rfl (lv_at hl 3 rfl) ?_
        refine e_nrm (y := nI c_3) ec_3 ?_
        refine lv_iadd hx hb dX4_move_104 ?_
        refine e_nrm (y := (nI ((64 * d_2) + c_3))) (nI_add (64 * d_2) c_3) ?_
        refine lv_iload hx hb dX4_move_105 (lv_at hl 5 rfl) ?_
        refine e_iast hx hb hK hP hI hS 106 512 (hm 106 (by decide) (by decide)) ((64 * d_2) + c_3) rfl (by omega) (by omega) dX4_move_107 (fun H locs hz1 hP hS => ?_)
        have hz := Nat.le_trans hz (Nat.le_of_eq hz1.symm)
        have hP : e_P X ad kd sp (mMoved (mT v (mMoveC v dn d c0 x y)) d_2 c_3 x y) H := hP
        refine lv_iconst (v := 0) hx hb dX4_move_108 (by decide) ?_
        refine lv_istore (lv' := [(6, .int 0), (5, .int (bI (mOkD dn d && mOkC c0))), (0, .ref (ad 100)), (1, .int d), (2, .int c0), (3, .int x), (4, .int y)]) hx hb dX4_move_109 hl (by decide) rfl (fun ls hl => ?_)
        refine lv_bipush (v := 64) hx hb dX4_move_111 (by decide) ?_
        refine lv_iload_n hx hb dX4_move_113 rfl (lv_at hl 3 rfl) ?_
        refine e_nrm (y := nI d_2) ed_2 ?_
        refine lv_imul hx hb dX4_move_114 ?_
        refine e_nrm (y := (nI (64 * d_2))) (pk_mul 64 d_2) ?_
        refine lv_istore (lv' := [(7, .int (nI (64 * d_2))), (6, .int 0), (5, .int (bI (mOkD dn d && mOkC c0))), (0, .ref (ad 100)), (1, .int d), (2, .int c0), (3, .int x), (4, .int y)]) hx hb dX4_move_115 hl (by decide) rfl (fun ls hl => ?_)
        have L117 : ∀ (k117 : Nat) (i : Nat) (x6 : Int32), 64 - i < k117 → (i ≤ 64) → (x6 = mCount (mMoved (mT v (mMoveC v dn d c0 x y)) d_2 c_3 x y) d_2 i) →  ∀ ls : Array Slot, lv_has ls 8 [(7, .int (nI (64 * d_2 + i))), (6, .int x6), (5, .int (bI (mOkD dn d && mOkC c0))), (0, .ref (ad 100)), (1, .int d), (2, .int c0), (3, .int x), (4, .int y)] → W p l e (e_rm 2 0 0) s m args below meth c H locs 0 0 Q (F0 m 117 ls []) := by
          intro k117
          induction k117 with
          | zero => intro i x6 hk; exact absurd hk (Nat.not_lt_zero _)
          | succ k117 ih117 =>
            intro i x6 hk117 hi ex6 ls hl
            refine lv_iload hx hb dX4_move_117 (lv_at hl 0 rfl) ?_
            refine lv_bipush (v := 64) hx hb dX4_move_119 (by decide) ?_
            refine lv_iload_n hx hb dX4_move_121 rfl (lv_at hl 4 rfl) ?_
            refine e_nrm (y := nI d_2) ed_2 ?_
            refine lv_imul hx hb dX4_move_122 ?_
            refine e_nrm (y := (nI (64 * d_2))) (pk_mul 64 d_2) ?_
            refine lv_bipush (v := 64) hx hb dX4_move_123 (by decide) ?_
            refine lv_iadd hx hb dX4_move_125 ?_
            refine e_nrm (y := (nI ((64 * d_2) + 64))) (nI_add (64 * d_2) 64) ?_
            refine lv_icmp_ge (tgt := 165) hx hb dX4_move_126 (by decide) (fun c_4 => ?_) (fun c_4 => ?_)
            · have nc_4 : 64 ≤ i := by have := (nI_leI (by omega) (by omega)).mp c_4; omega
              have hx6 : x6 = mCount (mMoved (mT v (mMoveC v dn d c0 x y)) d_2 c_3 x y) d_2 64 := by rw [ex6, show i = 64 by omega]
              refine lv_iload hx hb dX4_move_165 (lv_at hl 1 rfl) ?_
              exact hret _ _ _ _ _ _ (show x6 = mMoveV v dn d c0 x y from (by first | (simp [mMoveV, bI, nc_1, nd_2, nc_3, nc_4, hx6]; done) | (exfalso; simp_all; done))) (show (mMoved (mT v (mMoveC v dn d c0 x y)) d_2 c_3 x y) = mMoveS v dn d c0 x y from (by first | (simp [mMoveV, bI, mMoveS, mMoved, nc_1, nd_2, nc_3, nc_4, hx6]; done) | (exfalso; simp_all; done))) hP hS dX4_move_167
            · have nc_4 : ¬ 64 ≤ i := fun h => c_4 ((nI_leI (by omega) (by omega)).mpr (by omega))
              refine lv_iload hx hb dX4_move_129 (lv_at hl 1 rfl) ?_
              have J131_156 : ∀ ls : Array Slot, lv_has ls 8 [(7, .int (nI (64 * d_2 + i))), (6, .int x6), (5, .int (bI (mOkD dn d && mOkC c0))), (0, .ref (ad 100)), (1, .int d), (2, .int c0), (3, .int x), (4, .int y)] → W p l e (e_rm 2 0 0) s m args below meth c H locs 0 0 Q (F0 m 156 ls [.int (bI (!decide ((mMoved (mT v (mMoveC v dn d c0 x y)) d_2 c_3 x y) 105 (64 * d_2 + i) = 0) || !decide ((mMoved (mT v (mMoveC v dn d c0 x y)) d_2 c_3 x y) 106 (64 * d_2 + i) = 0))), .int x6]) := by
                intro ls hl
                refine lv_iadd hx hb dX4_move_156 ?_
                refine lv_istore (lv' := [(6, .int (x6 + (bI (!decide ((mMoved (mT v (mMoveC v dn d c0 x y)) d_2 c_3 x y) 105 (64 * d_2 + i) = 0) || !decide ((mMoved (mT v (mMoveC v dn d c0 x y)) d_2 c_3 x y) 106 (64 * d_2 + i) = 0))))), (7, .int (nI (64 * d_2 + i))), (5, .int (bI (mOkD dn d && mOkC c0))), (0, .ref (ad 100)), (1, .int d), (2, .int c0), (3, .int x), (4, .int y)]) hx hb dX4_move_157 hl (by decide) rfl (fun ls hl => ?_)
                refine lv_iinc (v := (nI ((64 * d_2 + i) + 1))) (lv' := [(7, .int (nI ((64 * d_2 + i) + 1))), (6, .int (x6 + (bI (!decide ((mMoved (mT v (mMoveC v dn d c0 x y)) d_2 c_3 x y) 105 (64 * d_2 + i) = 0) || !decide ((mMoved (mT v (mMoveC v dn d c0 x y)) d_2 c_3 x y) 106 (64 * d_2 + i) = 0))))), (5, .int (bI (mOkD dn d && mOkC c0))), (0, .ref (ad 100)), (1, .int d), (2, .int c0), (3, .int x), (4, .int y)]) hx hb dX4_move_159 hl (k := 1) rfl (nI_add (64 * d_2 + i) 1) (by decide) rfl (fun ls hl => ?_)
                refine lv_goto (tgt := 117) hx hb dX4_move_162 (by decide) ?_
                exact ih117 (i + 1) (x6 + (bI (!decide ((mMoved (mT v (mMoveC v dn d c0 x y)) d_2 c_3 x y) 105 (64 * d_2 + i) = 0) || !decide ((mMoved (mT v (mMoveC v dn d c0 x y)) d_2 c_3 x y) 106 (64 * d_2 + i) = 0)))) (by omega) (by omega) (by rw [ex6]; rfl)  ls (lv_sub hl [0, 1, 2, 3, 4, 5, 6, 7] rfl)
              refine lv_aload_n hx hb dX4_move_131 rfl (lv_at hl 3 rfl) ?_
              refine e_getf hx hb hts inX4 hown hK hP 100 12 (hm 100 (by decide) (by decide)) (by decide) rfl rfl 5 (by decide) aw_8 (fun _ h => h) rfl dX4_move_132 ?_
              refine lv_iload hx hb dX4_move_135 (lv_at hl 0 rfl) ?_
              refine e_iald hx hb hK hP 105 512 (hm 105 (by decide) (by decide)) (64 * d_2 + i) rfl (by omega) (by decide) dX4_move_137 ?_
              refine lv_if_ne (tgt := 151) hx hb dX4_move_138 (by decide) (fun c_5 => ?_) (fun c_5 => ?_)
              · skip
                refine lv_iconst (v := 1) hx hb dX4_move_151 (by decide) ?_
                refine lv_goto (tgt := 156) hx hb dX4_move_152 (by decide) ?_
                exact e_nrm (show 1 = (bI (!decide ((mMoved (mT v (mMoveC v dn d c0 x y)) d_2 c_3 x y) 105 (64 * d_2 + i) = 0) || !decide ((mMoved (mT v (mMoveC v dn d c0 x y)) d_2 c_3 x y) 106 (64 * d_2 + i) = 0))) from (by first | (simp [mOkD, mOkC, bI, nc_1, nd_2, nc_3, nc_4, c_5]; done) | (exfalso; simp_all; done))) (J131_156 ls (lv_sub hl [0, 1, 2, 3, 4, 5, 6, 7] rfl))
              · skip
                refine lv_aload_n hx hb dX4_move_141 rfl (lv_at hl 3 rfl) ?_
                refine e_getf hx hb hts inX4 hown hK hP 100 12 (hm 100 (by decide) (by decide)) (by decide) rfl rfl 6 (by decide) aw_10 (fun _ h => h) rfl dX4_move_142 ?_
                refine lv_iload hx hb dX4_move_145 (lv_at hl 0 rfl) ?_
                refine e_iald hx hb hK hP 106 512 (hm 106 (by decide) (by decide)) (64 * d_2 + i) rfl (by omega) (by decide) dX4_move_147 ?_
                refine lv_if_eq (tgt := 155) hx hb dX4_move_148 (by decide) (fun c_6 => ?_) (fun c_6 => ?_)
                · skip
                  refine lv_iconst (v := 0) hx hb dX4_move_155 (by decide) ?_
                  exact e_nrm (show 0 = (bI (!decide ((mMoved (mT v (mMoveC v dn d c0 x y)) d_2 c_3 x y) 105 (64 * d_2 + i) = 0) || !decide ((mMoved (mT v (mMoveC v dn d c0 x y)) d_2 c_3 x y) 106 (64 * d_2 + i) = 0))) from (by first | (simp [mOkD, mOkC, bI, nc_1, nd_2, nc_3, nc_4, c_5, c_6]; done) | (exfalso; simp_all; done))) (J131_156 ls (lv_sub hl [0, 1, 2, 3, 4, 5, 6, 7] rfl))
                · skip
                  refine lv_iconst (v := 1) hx hb dX4_move_151 (by decide) ?_
                  refine lv_goto (tgt := 156) hx hb dX4_move_152 (by decide) ?_
                  exact e_nrm (show 1 = (bI (!decide ((mMoved (mT v (mMoveC v dn d c0 x y)) d_2 c_3 x y) 105 (64 * d_2 + i) = 0) || !decide ((mMoved (mT v (mMoveC v dn d c0 x y)) d_2 c_3 x y) 106 (64 * d_2 + i) = 0))) from (by first | (simp [mOkD, mOkC, bI, nc_1, nd_2, nc_3, nc_4, c_5, c_6]; done) | (exfalso; simp_all; done))) (J131_156 ls (lv_sub hl [0, 1, 2, 3, 4, 5, 6, 7] rfl))
        exact L117 _ 0 0 (Nat.lt_succ_self _) (Nat.zero_le _) (rfl)  ls (lv_sub hl [0, 1, 2, 3, 4, 5, 6, 7] rfl)
      · have nc_1 : (0 < (mMoveC v dn d c0 x y)) := of_decide_eq_true (bI_n0.mp c_1)
        refine lv_iconst (v := (-1)) hx hb dX4_move_81 (by decide) ?_
        exact hret _ _ _ _ _ _ (show (-1) = mMoveV v dn d c0 x y from (by first | (simp [mMoveV, bI, nc_1]; done) | (exfalso; simp_all; done))) (show (mT v (mMoveC v dn d c0 x y)) = mMoveS v dn d c0 x y from (by first | (simp [mMoveV, bI, mMoveS, mMoved, nc_1]; done) | (exfalso; simp_all; done))) hP hS dX4_move_82
    refine lv_iload hx hb dX4_move_24 (lv_at hl 0 rfl) ?_
    refine lv_if_ne (tgt := 33) hx hb dX4_move_26 (by decide) (fun c_7 => ?_) (fun c_7 => ?_)
    · have nc_7 : (mOkD dn d && mOkC c0) = true := bI_n0.mp c_7
      obtain ⟨d_8, hd_8, ed_8⟩ := e_okD hd8 ((Bool.and_eq_true_iff.mp nc_7).1)
      have nd_8 := nN_of ed_8 (by omega)
      obtain ⟨c_9, hc_9, ec_9⟩ := e_okC ((Bool.and_eq_true_iff.mp nc_7).2)
      have nc_9 := nN_of ec_9 (by omega)
      refine lv_aload_n hx hb dX4_move_33 rfl (lv_at hl 1 rfl) ?_
      refine lv_iload_n hx hb dX4_move_34 rfl (lv_at hl 4 rfl) ?_
      refine lv_bipush (v := (-2)) hx hb dX4_move_35 (by decide) ?_
      refine lv_iconst (v := 2) hx hb dX4_move_37 (by decide) ?_
      refine e_cV (As := [.int x, .int (-2), .int 2]) (rest := [.ref (ad 100)]) hx hb hml hown hts 100 (c_X4_in (l := l) hm x (-2) 2) cw_RX4_59 (by decide) (by decide) hz hP hI hK (hm 100 (by decide) (by decide)) (by decide) rfl rfl rfl hl.1 rfl (Nat.le_of_ble_eq_true rfl) ⟨Nat.zero_le _, Nat.zero_le _⟩ dX4_move_38 ?_
      refine lv_if_eq (tgt := 56) hx hb dX4_move_41 (by decide) (fun c_10 => ?_) (fun c_10 => ?_)
      · have nc_10 : (mIn x (-2) 2) = false := bI_0.mp c_10
        refine lv_iconst (v := 2) hx hb dX4_move_56 (by decide) ?_
        refine lv_goto (tgt := 75) hx hb dX4_move_57 (by decide) ?_
        exact e_nrm (show 2 = (mMoveC v dn d c0 x y) from (by first | (simp [mMoveC, bI, nc_7, nd_8, nc_9, nc_10]; done) | (exfalso; simp_all; done))) (J24_75 ls (lv_sub hl [0, 1, 2, 3, 4, 5] rfl))
      · have nc_10 : (mIn x (-2) 2) = true := bI_n0.mp c_10
        refine lv_aload_n hx hb dX4_move_44 rfl (lv_at hl 1 rfl) ?_
        refine lv_iload hx hb dX4_move_45 (lv_at hl 5 rfl) ?_
        refine lv_bipush (v := (-2)) hx hb dX4_move_47 (by decide) ?_
        refine lv_iconst (v := 2) hx hb dX4_move_49 (by decide) ?_
        refine e_cV (As := [.int y, .int (-2), .int 2]) (rest := [.ref (ad 100)]) hx hb hml hown hts 100 (c_X4_in (l := l) hm y (-2) 2) cw_RX4_59 (by decide) (by decide) hz hP hI hK (hm 100 (by decide) (by decide)) (by decide) rfl rfl rfl hl.1 rfl (Nat.le_of_ble_eq_true rfl) ⟨Nat.zero_le _, Nat.zero_le _⟩ dX4_move_50 ?_
        refine lv_if_ne (tgt := 60) hx hb dX4_move_53 (by decide) (fun c_11 => ?_) (fun c_11 => ?_)
        · have nc_11 : (mIn y (-2) 2) = true := bI_n0.mp c_11
          refine lv_aload_n hx hb dX4_move_60 rfl (lv_at hl 1 rfl) ?_
          refine e_getf hx hb hts inX4 hown hK hP 100 12 (hm 100 (by decide) (by decide)) (by decide) rfl rfl 2 (by decide) aw_49 (fun _ h => h) rfl dX4_move_61 ?_
          refine lv_iload_n hx hb dX4_move_64 rfl (lv_at hl 2 rfl) ?_
          refine e_nrm (y := nI d_8) ed_8 ?_
          refine e_iald hx hb hK hP 103 8 (hm 103 (by decide) (by decide)) d_8 rfl (by omega) (by decide) dX4_move_65 ?_
          refine lv_iconst (v := 1) hx hb dX4_move_66 (by decide) ?_
          refine lv_icmp_ne (tgt := 74) hx hb dX4_move_67 (by decide) (fun c_12 => ?_) (fun c_12 => ?_)
          · skip
            refine lv_iconst (v := 0) hx hb dX4_move_74 (by decide) ?_
            exact e_nrm (show 0 = (mMoveC v dn d c0 x y) from (by first | (simp [mMoveC, bI, nc_7, nd_8, nc_9, nc_10, nc_11, eq_false c_12]; done) | (exfalso; simp_all; done))) (J24_75 ls (lv_sub hl [0, 1, 2, 3, 4, 5] rfl))
          · skip
            refine lv_iconst (v := 3) hx hb dX4_move_70 (by decide) ?_
            refine lv_goto (tgt := 75) hx hb dX4_move_71 (by decide) ?_
            exact e_nrm (show 3 = (mMoveC v dn d c0 x y) from (by first | (simp [mMoveC, bI, nc_7, nd_8, nc_9, nc_10, nc_11, eq_true c_12]; done) | (exfalso; simp_all; done))) (J24_75 ls (lv_sub hl [0, 1, 2, 3, 4, 5] rfl))
        · have nc_11 : (mIn y (-2) 2) = false := bI_0.mp c_11
          refine lv_iconst (v := 2) hx hb dX4_move_56 (by decide) ?_
          refine lv_goto (tgt := 75) hx hb dX4_move_57 (by decide) ?_
          exact e_nrm (show 2 = (mMoveC v dn d c0 x y) from (by first | (simp [mMoveC, bI, nc_7, nd_8, nc_9, nc_10, nc_11]; done) | (exfalso; simp_all; done))) (J24_75 ls (lv_sub hl [0, 1, 2, 3, 4, 5] rfl))
    · have nc_7 : (mOkD dn d && mOkC c0) = false := bI_0.mp c_7
      refine lv_iconst (v := 1) hx hb dX4_move_29 (by decide) ?_
      refine lv_goto (tgt := 75) hx hb dX4_move_30 (by decide) ?_
      exact e_nrm (show 1 = (mMoveC v dn d c0 x y) from (by first | (simp [mMoveC, bI, nc_7]; done) | (exfalso; simp_all; done))) (J24_75 ls (lv_sub hl [0, 1, 2, 3, 4, 5] rfl))
  refine lv_aload_n hx hb dX4_move_0 rfl (lv_at hl 0 rfl) ?_
  refine lv_iload_n hx hb dX4_move_1 rfl (lv_at hl 1 rfl) ?_
  refine e_cV (As := [.int d]) (rest := []) hx hb hml hown hts 100 (c_X4_isDancer (l := l) dn ln hm hv d) cw_RX4_67 (by decide) (by decide) hz hP hI hK (hm 100 (by decide) (by decide)) (by decide) rfl rfl rfl hl.1 rfl (Nat.le_of_ble_eq_true rfl) ⟨Nat.zero_le _, Nat.zero_le _⟩ dX4_move_2 ?_
  refine lv_if_eq (tgt := 20) hx hb dX4_move_5 (by decide) (fun c_13 => ?_) (fun c_13 => ?_)
  · have nc_13 : (mIn d 0 (nI dn - 1)) = false := bI_0.mp c_13
    refine lv_iconst (v := 0) hx hb dX4_move_20 (by decide) ?_
    exact e_nrm (show 0 = (bI (mOkD dn d && mOkC c0)) from (by first | (simp [mOkD, mOkC, bI, nc_13]; done) | (exfalso; simp_all; done))) (J0_21 ls (lv_sub hl [0, 1, 2, 3, 4] rfl))
  · have nc_13 : (mIn d 0 (nI dn - 1)) = true := bI_n0.mp c_13
    refine lv_aload_n hx hb dX4_move_8 rfl (lv_at hl 0 rfl) ?_
    refine lv_iload_n hx hb dX4_move_9 rfl (lv_at hl 2 rfl) ?_
    refine e_cV (As := [.int c0]) (rest := []) hx hb hml hown hts 100 (c_X4_isCount (l := l) hm c0) cw_RX4_70 (by decide) (by decide) hz hP hI hK (hm 100 (by decide) (by decide)) (by decide) rfl rfl rfl hl.1 rfl (Nat.le_of_ble_eq_true rfl) ⟨Nat.zero_le _, Nat.zero_le _⟩ dX4_move_10 ?_
    refine lv_if_eq (tgt := 20) hx hb dX4_move_13 (by decide) (fun c_14 => ?_) (fun c_14 => ?_)
    · have nc_14 : (mIn c0 0 63) = false := bI_0.mp c_14
      refine lv_iconst (v := 0) hx hb dX4_move_20 (by decide) ?_
      exact e_nrm (show 0 = (bI (mOkD dn d && mOkC c0)) from (by first | (simp [mOkD, mOkC, bI, nc_13, nc_14]; done) | (exfalso; simp_all; done))) (J0_21 ls (lv_sub hl [0, 1, 2, 3, 4] rfl))
    · have nc_14 : (mIn c0 0 63) = true := bI_n0.mp c_14
      refine lv_iconst (v := 1) hx hb dX4_move_16 (by decide) ?_
      refine lv_goto (tgt := 21) hx hb dX4_move_17 (by decide) ?_
      exact e_nrm (show 1 = (bI (mOkD dn d && mOkC c0)) from (by first | (simp [mOkD, mOkC, bI, nc_13, nc_14]; done) | (exfalso; simp_all; done))) (J0_21 ls (lv_sub hl [0, 1, 2, 3, 4] rfl))

set_option maxRecDepth 100000 in
set_option maxHeartbeats 4000000 in
theorem c_X4_lift {l : Launch} {X : eD} {z0 : Nat} {ad kd sp : Nat → Nat} {v : eV} (dn ln : Nat) (hm : mK kd) (hv : mI dn ln v) (c0 d a b : Int32) : eMu l yX4_lift cX4_lift 7 (some .int) 2 [.ref (ad 100), .int c0, .int d, .int a, .int b] X z0 ad kd sp v (some (.int (mLiftV v dn ln c0 d a b))) (mLiftS v dn ln c0 d a b) := by
  refine e_mutI (by decide +kernel) (Nat.le_of_ble_eq_true rfl) rfl ?_
  intro p e s m args below meth c hx hb hml hown hts hW Q hret ls hl
  obtain ⟨hz, hP, hI, hK⟩ := hW
  have hl : lv_has ls 7 [(0, .ref (ad 100)), (1, .int c0), (2, .int d), (3, .int a), (4, .int b)] := hl
  have hS : va_S (e_A z0) s.heap s.heap [] := va_S.rf
  have hd8 := hv.2.2.1
  have hl12 := hv.2.2.2.1
  have J0_38 : ∀ ls : Array Slot, lv_has ls 7 [(0, .ref (ad 100)), (1, .int c0), (2, .int d), (3, .int a), (4, .int b)] → W p l e (e_rm 2 0 0) s m args below meth c s.heap [] 0 0 Q (F0 m 38 ls [.int (bI (mLiftT dn c0 d a b))]) := by
    intro ls hl
    refine lv_istore (lv' := [(5, .int (bI (mLiftT dn c0 d a b))), (0, .ref (ad 100)), (1, .int c0), (2, .int d), (3, .int a), (4, .int b)]) hx hb dX4_lift_38 hl (by decide) rfl (fun ls hl => ?_)
    have J40_83 : ∀ ls : Array Slot, lv_has ls 7 [(5, .int (bI (mLiftT dn c0 d a b))), (0, .ref (ad 100)), (1, .int c0), (2, .int d), (3, .int a), (4, .int b)] → W p l e (e_rm 2 0 0) s m args below meth c s.heap [] 0 0 Q (F0 m 83 ls [.int (bI (mLiftB v dn ln c0 d a b))]) := by
      intro ls hl
      refine lv_istore (lv' := [(6, .int (bI (mLiftB v dn ln c0 d a b))), (5, .int (bI (mLiftT dn c0 d a b))), (0, .ref (ad 100)), (1, .int c0), (2, .int d), (3, .int a), (4, .int b)]) hx hb dX4_lift_83 hl (by decide) rfl (fun ls hl => ?_)
      refine lv_aload_n hx hb dX4_lift_85 rfl (lv_at hl 2 rfl) ?_
      have J86_126 : ∀ ls : Array Slot, lv_has ls 7 [(6, .int (bI (mLiftB v dn ln c0 d a b))), (5, .int (bI (mLiftT dn c0 d a b))), (0, .ref (ad 100)), (1, .int c0), (2, .int d), (3, .int a), (4, .int b)] → W p l e (e_rm 2 0 0) s m args below meth c s.heap [] 0 0 Q (F0 m 126 ls [.int (mLiftC v dn ln c0 d a b), .ref (ad 100)]) := by
        intro ls hl
        refine e_cVM (As := [.int (mLiftC v dn ln c0 d a b)]) (rest := []) hx hb hml hown hts 100 (c_X4_holds (l := l) hm (mLiftC v dn ln c0 d a b)) cw_RX4_63 (by decide) (by decide) hz hP hI hK hS (hm 100 (by decide) (by decide)) (by decide) rfl rfl rfl hl.1 rfl (Nat.le_of_ble_eq_true rfl) ⟨Nat.zero_le _, Nat.zero_le _⟩ dX4_lift_126 (fun H locs hz hP hS => ?_)
        refine lv_if_eq (tgt := 134) hx hb dX4_lift_129 (by decide) (fun c_1 => ?_) (fun c_1 => ?_)
        · have nc_1 : ¬ (0 < (mLiftC v dn ln c0 d a b)) := of_decide_eq_false (bI_0.mp c_1)
          have h9 := (mLiftC_ok nc_1).1
          refine lv_aload_n hx hb dX4_lift_134 rfl (lv_at hl 2 rfl) ?_
          refine e_getf hx hb hts inX4 hown hK hP 100 12 (hm 100 (by decide) (by decide)) (by decide) rfl rfl 7 (by decide) aw_26 (fun _ h => h) rfl dX4_lift_135 ?_
          refine lv_aload_n hx hb dX4_lift_138 rfl (lv_at hl 2 rfl) ?_
          refine e_getf hx hb hts inX4 hown hK hP 100 12 (hm 100 (by decide) (by decide)) (by decide) rfl rfl 12 (by decide) aw_24 (fun _ h => h) rfl dX4_lift_139 ?_
          refine e_nrm (y := nI ln) (hv.2.1) ?_
          refine lv_iload_n hx hb dX4_lift_142 rfl (lv_at hl 3 rfl) ?_
          refine e_iast hx hb hK hP hI hS 107 12 (hm 107 (by decide) (by decide)) ln rfl (by omega) (by omega) dX4_lift_143 (fun H locs hz1 hP hS => ?_)
          have hz := Nat.le_trans hz (Nat.le_of_eq hz1.symm)
          refine lv_aload_n hx hb dX4_lift_144 rfl (lv_at hl 2 rfl) ?_
          refine e_getf hx hb hts inX4 hown hK hP 100 12 (hm 100 (by decide) (by decide)) (by decide) rfl rfl 8 (by decide) aw_21 (fun _ h => h) rfl dX4_lift_145 ?_
          refine lv_aload_n hx hb dX4_lift_148 rfl (lv_at hl 2 rfl) ?_
          refine e_getf hx hb hts inX4 hown hK hP 100 12 (hm 100 (by decide) (by decide)) (by decide) rfl rfl 12 (by decide) aw_24 (fun _ h => h) rfl dX4_lift_149 ?_
          refine e_nrm (y := nI ln) (hv.2.1) ?_
          refine lv_iload_n hx hb dX4_lift_152 rfl (lv_at hl 4 rfl) ?_
          refine e_iast hx hb hK hP hI hS 108 12 (hm 108 (by decide) (by decide)) ln rfl (by omega) (by omega) dX4_lift_153 (fun H locs hz1 hP hS => ?_)
          have hz := Nat.le_trans hz (Nat.le_of_eq hz1.symm)
          refine lv_aload_n hx hb dX4_lift_154 rfl (lv_at hl 2 rfl) ?_
          refine e_getf hx hb hts inX4 hown hK hP 100 12 (hm 100 (by decide) (by decide)) (by decide) rfl rfl 9 (by decide) aw_22 (fun _ h => h) rfl dX4_lift_155 ?_
          refine lv_aload_n hx hb dX4_lift_158 rfl (lv_at hl 2 rfl) ?_
          refine e_getf hx hb hts inX4 hown hK hP 100 12 (hm 100 (by decide) (by decide)) (by decide) rfl rfl 12 (by decide) aw_24 (fun _ h => h) rfl dX4_lift_159 ?_
          refine e_nrm (y := nI ln) (hv.2.1) ?_
          refine lv_iload_n hx hb dX4_lift_162 rfl (lv_at hl 5 rfl) ?_
          refine e_iast hx hb hK hP hI hS 109 12 (hm 109 (by decide) (by decide)) ln rfl (by omega) (by omega) dX4_lift_163 (fun H locs hz1 hP hS => ?_)
          have hz := Nat.le_trans hz (Nat.le_of_eq hz1.symm)
          refine lv_aload_n hx hb dX4_lift_164 rfl (lv_at hl 2 rfl) ?_
          refine e_getf hx hb hts inX4 hown hK hP 100 12 (hm 100 (by decide) (by decide)) (by decide) rfl rfl 10 (by decide) aw_23 (fun _ h => h) rfl dX4_lift_165 ?_
          refine lv_aload_n hx hb dX4_lift_168 rfl (lv_at hl 2 rfl) ?_
          refine e_getf hx hb hts inX4 hown hK hP 100 12 (hm 100 (by decide) (by decide)) (by decide) rfl rfl 12 (by decide) aw_24 (fun _ h => h) rfl dX4_lift_169 ?_
          refine e_nrm (y := nI ln) (hv.2.1) ?_
          refine lv_iload hx hb dX4_lift_172 (lv_at hl 6 rfl) ?_
          refine e_iast hx hb hK hP hI hS 110 12 (hm 110 (by decide) (by decide)) ln rfl (by omega) (by omega) dX4_lift_174 (fun H locs hz1 hP hS => ?_)
          have hz := Nat.le_trans hz (Nat.le_of_eq hz1.symm)
          refine lv_aload_n hx hb dX4_lift_175 rfl (lv_at hl 2 rfl) ?_
          refine lv_dup hx hb dX4_lift_176 rfl ?_
          refine e_getf hx hb hts inX4 hown hK hP 100 12 (hm 100 (by decide) (by decide)) (by decide) rfl rfl 12 (by decide) aw_24 (fun _ h => h) rfl dX4_lift_177 ?_
          refine e_nrm (y := nI ln) (hv.2.1) ?_
          refine lv_iconst (v := 1) hx hb dX4_lift_180 (by decide) ?_
          refine lv_iadd hx hb dX4_lift_181 ?_
          refine e_nrm (y := (nI (ln + 1))) (nI_add ln 1) ?_
          refine e_putf hx hb hts inX4 tyX4 tyX4_ok nmX4 hown hK hP hI hS 100 12 (hm 100 (by decide) (by decide)) (by decide) rfl rfl 12 (by decide) aw_24 (fun _ h => h) rfl (ty := .int) (by decide +kernel) rfl rfl (Nat.le_of_ble_eq_true rfl) rfl dX4_lift_182 (fun H locs hz1 hP hS => ?_)
          have hz := Nat.le_trans hz (Nat.le_of_eq hz1.symm)
          refine lv_aload_n hx hb dX4_lift_185 rfl (lv_at hl 2 rfl) ?_
          refine e_getf hx hb hts inX4 hown hK hP 100 12 (hm 100 (by decide) (by decide)) (by decide) rfl rfl 12 (by decide) aw_24 (fun _ h => h) rfl dX4_lift_186 ?_
          refine e_nrm (y := nI (ln + 1)) (rfl) ?_
          refine lv_iconst (v := 1) hx hb dX4_lift_189 (by decide) ?_
          refine lv_isub hx hb dX4_lift_190 ?_
          refine e_nrm (y := (nI ((ln + 1) - 1))) (pk_sub (a := (ln + 1)) (b := 1) (by omega)) ?_
          exact hret _ _ _ _ _ _ (show (nI ((ln + 1) - 1)) = mLiftV v dn ln c0 d a b from (by first | (simp [mLiftV, bI, nc_1]; done) | (exfalso; simp_all; done))) (show (e_set (e_set (e_set (e_set (e_set (mT v (mLiftC v dn ln c0 d a b)) 107 ln c0) 108 ln d) 109 ln a) 110 ln b) 100 12 (nI (ln + 1))) = mLiftS v dn ln c0 d a b from (by first | (simp [mLiftV, bI, mLiftS, nc_1]; done) | (exfalso; simp_all; done))) hP hS dX4_lift_191
        · have nc_1 : (0 < (mLiftC v dn ln c0 d a b)) := of_decide_eq_true (bI_n0.mp c_1)
          refine lv_iconst (v := (-1)) hx hb dX4_lift_132 (by decide) ?_
          exact hret _ _ _ _ _ _ (show (-1) = mLiftV v dn ln c0 d a b from (by first | (simp [mLiftV, bI, nc_1]; done) | (exfalso; simp_all; done))) (show (mT v (mLiftC v dn ln c0 d a b)) = mLiftS v dn ln c0 d a b from (by first | (simp [mLiftV, bI, mLiftS, nc_1]; done) | (exfalso; simp_all; done))) hP hS dX4_lift_133
      refine lv_iload hx hb dX4_lift_86 (lv_at hl 1 rfl) ?_
      refine lv_if_ne (tgt := 95) hx hb dX4_lift_88 (by decide) (fun c_2 => ?_) (fun c_2 => ?_)
      · have nc_2 : (mLiftT dn c0 d a b) = true := bI_n0.mp c_2
        refine lv_iload_n hx hb dX4_lift_95 rfl (lv_at hl 4 rfl) ?_
        refine lv_iload_n hx hb dX4_lift_96 rfl (lv_at hl 5 rfl) ?_
        refine lv_icmp_eq (tgt := 112) hx hb dX4_lift_97 (by decide) (fun c_3 => ?_) (fun c_3 => ?_)
        · skip
          refine lv_iconst (v := 2) hx hb dX4_lift_112 (by decide) ?_
          refine lv_goto (tgt := 126) hx hb dX4_lift_113 (by decide) ?_
          exact e_nrm (show 2 = (mLiftC v dn ln c0 d a b) from (by first | (simp [mLiftC, bI, nc_2, eq_true c_3]; done) | (exfalso; simp_all; done))) (J86_126 ls (lv_sub hl [0, 1, 2, 3, 4, 5, 6] rfl))
        · skip
          refine lv_iload_n hx hb dX4_lift_100 rfl (lv_at hl 4 rfl) ?_
          refine lv_iload hx hb dX4_lift_101 (lv_at hl 6 rfl) ?_
          refine lv_icmp_eq (tgt := 112) hx hb dX4_lift_103 (by decide) (fun c_4 => ?_) (fun c_4 => ?_)
          · skip
            refine lv_iconst (v := 2) hx hb dX4_lift_112 (by decide) ?_
            refine lv_goto (tgt := 126) hx hb dX4_lift_113 (by decide) ?_
            exact e_nrm (show 2 = (mLiftC v dn ln c0 d a b) from (by first | (simp [mLiftC, bI, nc_2, eq_false c_3, eq_true c_4]; done) | (exfalso; simp_all; done))) (J86_126 ls (lv_sub hl [0, 1, 2, 3, 4, 5, 6] rfl))
          · skip
            refine lv_iload_n hx hb dX4_lift_106 rfl (lv_at hl 5 rfl) ?_
            refine lv_iload hx hb dX4_lift_107 (lv_at hl 6 rfl) ?_
            refine lv_icmp_ne (tgt := 116) hx hb dX4_lift_109 (by decide) (fun c_5 => ?_) (fun c_5 => ?_)
            · skip
              refine lv_iload hx hb dX4_lift_116 (lv_at hl 0 rfl) ?_
              refine lv_if_eq (tgt := 125) hx hb dX4_lift_118 (by decide) (fun c_6 => ?_) (fun c_6 => ?_)
              · have nc_6 : (mLiftB v dn ln c0 d a b) = false := bI_0.mp c_6
                refine lv_iconst (v := 0) hx hb dX4_lift_125 (by decide) ?_
                exact e_nrm (show 0 = (mLiftC v dn ln c0 d a b) from (by first | (simp [mLiftC, bI, nc_2, eq_false c_3, eq_false c_4, eq_false c_5, nc_6]; done) | (exfalso; simp_all; done))) (J86_126 ls (lv_sub hl [0, 1, 2, 3, 4, 5, 6] rfl))
              · have nc_6 : (mLiftB v dn ln c0 d a b) = true := bI_n0.mp c_6
                refine lv_iconst (v := 3) hx hb dX4_lift_121 (by decide) ?_
                refine lv_goto (tgt := 126) hx hb dX4_lift_122 (by decide) ?_
                exact e_nrm (show 3 = (mLiftC v dn ln c0 d a b) from (by first | (simp [mLiftC, bI, nc_2, eq_false c_3, eq_false c_4, eq_false c_5, nc_6]; done) | (exfalso; simp_all; done))) (J86_126 ls (lv_sub hl [0, 1, 2, 3, 4, 5, 6] rfl))
            · skip
              refine lv_iconst (v := 2) hx hb dX4_lift_112 (by decide) ?_
              refine lv_goto (tgt := 126) hx hb dX4_lift_113 (by decide) ?_
              exact e_nrm (show 2 = (mLiftC v dn ln c0 d a b) from (by first | (simp [mLiftC, bI, nc_2, eq_false c_3, eq_false c_4, eq_true c_5]; done) | (exfalso; simp_all; done))) (J86_126 ls (lv_sub hl [0, 1, 2, 3, 4, 5, 6] rfl))
      · have nc_2 : (mLiftT dn c0 d a b) = false := bI_0.mp c_2
        refine lv_iconst (v := 1) hx hb dX4_lift_91 (by decide) ?_
        refine lv_goto (tgt := 126) hx hb dX4_lift_92 (by decide) ?_
        exact e_nrm (show 1 = (mLiftC v dn ln c0 d a b) from (by first | (simp [mLiftC, bI, nc_2]; done) | (exfalso; simp_all; done))) (J86_126 ls (lv_sub hl [0, 1, 2, 3, 4, 5, 6] rfl))
    refine lv_iload hx hb dX4_lift_40 (lv_at hl 0 rfl) ?_
    refine lv_if_eq (tgt := 82) hx hb dX4_lift_42 (by decide) (fun c_7 => ?_) (fun c_7 => ?_)
    · have nc_7 : (mLiftT dn c0 d a b) = false := bI_0.mp c_7
      refine lv_iconst (v := 0) hx hb dX4_lift_82 (by decide) ?_
      exact e_nrm (show 0 = (bI (mLiftB v dn ln c0 d a b)) from (by first | (simp [mLiftB, bI, nc_7]; done) | (exfalso; simp_all; done))) (J40_83 ls (lv_sub hl [0, 1, 2, 3, 4, 5] rfl))
    · have nc_7 : (mLiftT dn c0 d a b) = true := bI_n0.mp c_7
      obtain ⟨c_8, hc_8, ec_8⟩ := e_okC ((mLiftT_ok nc_7).1)
      have nc_8 := nN_of ec_8 (by omega)
      obtain ⟨d_9, hd_9, ed_9⟩ := e_okD hd8 ((mLiftT_ok nc_7).2.1)
      have nd_9 := nN_of ed_9 (by omega)
      obtain ⟨d_10, hd_10, ed_10⟩ := e_okD hd8 ((mLiftT_ok nc_7).2.2.1)
      have nd_10 := nN_of ed_10 (by omega)
      obtain ⟨d_11, hd_11, ed_11⟩ := e_okD hd8 ((mLiftT_ok nc_7).2.2.2)
      have nd_11 := nN_of ed_11 (by omega)
      refine lv_aload_n hx hb dX4_lift_45 rfl (lv_at hl 1 rfl) ?_
      refine e_getf hx hb hts inX4 hown hK hP 100 12 (hm 100 (by decide) (by decide)) (by decide) rfl rfl 2 (by decide) aw_49 (fun _ h => h) rfl dX4_lift_46 ?_
      refine lv_iload_n hx hb dX4_lift_49 rfl (lv_at hl 3 rfl) ?_
      refine e_nrm (y := nI d_9) ed_9 ?_
      refine e_iald hx hb hK hP 103 8 (hm 103 (by decide) (by decide)) d_9 rfl (by omega) (by decide) dX4_lift_50 ?_
      refine lv_aload_n hx hb dX4_lift_51 rfl (lv_at hl 1 rfl) ?_
      refine e_getf hx hb hts inX4 hown hK hP 100 12 (hm 100 (by decide) (by decide)) (by decide) rfl rfl 2 (by decide) aw_49 (fun _ h => h) rfl dX4_lift_52 ?_
      refine lv_iload_n hx hb dX4_lift_55 rfl (lv_at hl 4 rfl) ?_
      refine e_nrm (y := nI d_10) ed_10 ?_
      refine e_iald hx hb hK hP 103 8 (hm 103 (by decide) (by decide)) d_10 rfl (by omega) (by decide) dX4_lift_56 ?_
      refine lv_iadd hx hb dX4_lift_57 ?_
      refine lv_aload_n hx hb dX4_lift_58 rfl (lv_at hl 1 rfl) ?_
      refine e_getf hx hb hts inX4 hown hK hP 100 12 (hm 100 (by decide) (by decide)) (by decide) rfl rfl 2 (by decide) aw_49 (fun _ h => h) rfl dX4_lift_59 ?_
      refine lv_iload hx hb dX4_lift_62 (lv_at hl 5 rfl) ?_
      refine e_nrm (y := nI d_11) ed_11 ?_
      refine e_iald hx hb hK hP 103 8 (hm 103 (by decide) (by decide)) d_11 rfl (by omega) (by decide) dX4_lift_64 ?_
      refine lv_iadd hx hb dX4_lift_65 ?_
      refine lv_if_gt (tgt := 78) hx hb dX4_lift_66 (by decide) (fun c_12 => ?_) (fun c_12 => ?_)
      · skip
        refine lv_iconst (v := 1) hx hb dX4_lift_78 (by decide) ?_
        refine lv_goto (tgt := 83) hx hb dX4_lift_79 (by decide) ?_
        exact e_nrm (show 1 = (bI (mLiftB v dn ln c0 d a b)) from (by first | (simp [mLiftB, bI, nc_7, nc_8, nd_9, nd_10, nd_11, c_12]; done) | (exfalso; simp_all; done))) (J40_83 ls (lv_sub hl [0, 1, 2, 3, 4, 5] rfl))
      · skip
        refine lv_aload_n hx hb dX4_lift_69 rfl (lv_at hl 1 rfl) ?_
        refine e_getf hx hb hts inX4 hown hK hP 100 12 (hm 100 (by decide) (by decide)) (by decide) rfl rfl 12 (by decide) aw_24 (fun _ h => h) rfl dX4_lift_70 ?_
        refine e_nrm (y := nI ln) (hv.2.1) ?_
        refine lv_bipush (v := 12) hx hb dX4_lift_73 (by decide) ?_
        refine lv_icmp_ne (tgt := 82) hx hb dX4_lift_75 (by decide) (fun c_13 => ?_) (fun c_13 => ?_)
        · have nc_13 : ¬ ln = 12 := fun h => c_13 ((nI_eq (a := ln) (b := 12) (by omega) (by omega)).mpr h)
          refine lv_iconst (v := 0) hx hb dX4_lift_82 (by decide) ?_
          exact e_nrm (show 0 = (bI (mLiftB v dn ln c0 d a b)) from (by first | (simp [mLiftB, bI, nc_7, nc_8, nd_9, nd_10, nd_11, c_12, nc_13]; done) | (exfalso; simp_all; done))) (J40_83 ls (lv_sub hl [0, 1, 2, 3, 4, 5] rfl))
        · have nc_13 : ln = 12 := (nI_eq (a := ln) (b := 12) (by omega) (by omega)).mp c_13
          refine lv_iconst (v := 1) hx hb dX4_lift_78 (by decide) ?_
          refine lv_goto (tgt := 83) hx hb dX4_lift_79 (by decide) ?_
          exact e_nrm (show 1 = (bI (mLiftB v dn ln c0 d a b)) from (by first | (simp [mLiftB, bI, nc_7, nc_8, nd_9, nd_10, nd_11, c_12, nc_13]; done) | (exfalso; simp_all; done))) (J40_83 ls (lv_sub hl [0, 1, 2, 3, 4, 5] rfl))
  refine lv_aload_n hx hb dX4_lift_0 rfl (lv_at hl 0 rfl) ?_
  refine lv_iload_n hx hb dX4_lift_1 rfl (lv_at hl 1 rfl) ?_
  refine e_cV (As := [.int c0]) (rest := []) hx hb hml hown hts 100 (c_X4_isCount (l := l) hm c0) cw_RX4_70 (by decide) (by decide) hz hP hI hK (hm 100 (by decide) (by decide)) (by decide) rfl rfl rfl hl.1 rfl (Nat.le_of_ble_eq_true rfl) ⟨Nat.zero_le _, Nat.zero_le _⟩ dX4_lift_2 ?_
  refine lv_if_eq (tgt := 37) hx hb dX4_lift_5 (by decide) (fun c_14 => ?_) (fun c_14 => ?_)
  · have nc_14 : (mIn c0 0 63) = false := bI_0.mp c_14
    refine lv_iconst (v := 0) hx hb dX4_lift_37 (by decide) ?_
    exact e_nrm (show 0 = (bI (mLiftT dn c0 d a b)) from (by first | (simp [mLiftT, mOkD, mOkC, bI, nc_14]; done) | (exfalso; simp_all; done))) (J0_38 ls (lv_sub hl [0, 1, 2, 3, 4] rfl))
  · have nc_14 : (mIn c0 0 63) = true := bI_n0.mp c_14
    refine lv_aload_n hx hb dX4_lift_8 rfl (lv_at hl 0 rfl) ?_
    refine lv_iload_n hx hb dX4_lift_9 rfl (lv_at hl 2 rfl) ?_
    refine e_cV (As := [.int d]) (rest := []) hx hb hml hown hts 100 (c_X4_isDancer (l := l) dn ln hm hv d) cw_RX4_67 (by decide) (by decide) hz hP hI hK (hm 100 (by decide) (by decide)) (by decide) rfl rfl rfl hl.1 rfl (Nat.le_of_ble_eq_true rfl) ⟨Nat.zero_le _, Nat.zero_le _⟩ dX4_lift_10 ?_
    refine lv_if_eq (tgt := 37) hx hb dX4_lift_13 (by decide) (fun c_15 => ?_) (fun c_15 => ?_)
    · have nc_15 : (mIn d 0 (nI dn - 1)) = false := bI_0.mp c_15
      refine lv_iconst (v := 0) hx hb dX4_lift_37 (by decide) ?_
      exact e_nrm (show 0 = (bI (mLiftT dn c0 d a b)) from (by first | (simp [mLiftT, mOkD, mOkC, bI, nc_14, nc_15]; done) | (exfalso; simp_all; done))) (J0_38 ls (lv_sub hl [0, 1, 2, 3, 4] rfl))
    · have nc_15 : (mIn d 0 (nI dn - 1)) = true := bI_n0.mp c_15
      refine lv_aload_n hx hb dX4_lift_16 rfl (lv_at hl 0 rfl) ?_
      refine lv_iload_n hx hb dX4_lift_17 rfl (lv_at hl 3 rfl) ?_
      refine e_cV (As := [.int a]) (rest := []) hx hb hml hown hts 100 (c_X4_isDancer (l := l) dn ln hm hv a) cw_RX4_67 (by decide) (by decide) hz hP hI hK (hm 100 (by decide) (by decide)) (by decide) rfl rfl rfl hl.1 rfl (Nat.le_of_ble_eq_true rfl) ⟨Nat.zero_le _, Nat.zero_le _⟩ dX4_lift_18 ?_
      refine lv_if_eq (tgt := 37) hx hb dX4_lift_21 (by decide) (fun c_16 => ?_) (fun c_16 => ?_)
      · have nc_16 : (mIn a 0 (nI dn - 1)) = false := bI_0.mp c_16
        refine lv_iconst (v := 0) hx hb dX4_lift_37 (by decide) ?_
        exact e_nrm (show 0 = (bI (mLiftT dn c0 d a b)) from (by first | (simp [mLiftT, mOkD, mOkC, bI, nc_14, nc_15, nc_16]; done) | (exfalso; simp_all; done))) (J0_38 ls (lv_sub hl [0, 1, 2, 3, 4] rfl))
      · have nc_16 : (mIn a 0 (nI dn - 1)) = true := bI_n0.mp c_16
        refine lv_aload_n hx hb dX4_lift_24 rfl (lv_at hl 0 rfl) ?_
        refine lv_iload hx hb dX4_lift_25 (lv_at hl 4 rfl) ?_
        refine e_cV (As := [.int b]) (rest := []) hx hb hml hown hts 100 (c_X4_isDancer (l := l) dn ln hm hv b) cw_RX4_67 (by decide) (by decide) hz hP hI hK (hm 100 (by decide) (by decide)) (by decide) rfl rfl rfl hl.1 rfl (Nat.le_of_ble_eq_true rfl) ⟨Nat.zero_le _, Nat.zero_le _⟩ dX4_lift_27 ?_
        refine lv_if_eq (tgt := 37) hx hb dX4_lift_30 (by decide) (fun c_17 => ?_) (fun c_17 => ?_)
        · have nc_17 : (mIn b 0 (nI dn - 1)) = false := bI_0.mp c_17
          refine lv_iconst (v := 0) hx hb dX4_lift_37 (by decide) ?_
          exact e_nrm (show 0 = (bI (mLiftT dn c0 d a b)) from (by first | (simp [mLiftT, mOkD, mOkC, bI, nc_14, nc_15, nc_16, nc_17]; done) | (exfalso; simp_all; done))) (J0_38 ls (lv_sub hl [0, 1, 2, 3, 4] rfl))
        · have nc_17 : (mIn b 0 (nI dn - 1)) = true := bI_n0.mp c_17
          refine lv_iconst (v := 1) hx hb dX4_lift_33 (by decide) ?_
          refine lv_goto (tgt := 38) hx hb dX4_lift_34 (by decide) ?_
          exact e_nrm (show 1 = (bI (mLiftT dn c0 d a b)) from (by first | (simp [mLiftT, mOkD, mOkC, bI, nc_14, nc_15, nc_16, nc_17]; done) | (exfalso; simp_all; done))) (J0_38 ls (lv_sub hl [0, 1, 2, 3, 4] rfl))

set_option maxRecDepth 100000 in
set_option maxHeartbeats 4000000 in
theorem c_X4_sleep {l : Launch} {X : eD} {z0 : Nat} {ad kd sp : Nat → Nat} {v : eV} (hm : mK kd) : eMu l yX4_sleep cX4_sleep 2 (some .int) 1 [.ref (ad 100)] X z0 ad kd sp v (some (.int (mSleepS v 100 15))) (mSleepS v) := by
  refine e_mutI (by decide +kernel) (Nat.le_of_ble_eq_true rfl) rfl ?_
  intro p e s m args below meth c hx hb hml hown hts hW Q hret ls hl
  obtain ⟨hz, hP, hI, hK⟩ := hW
  have hl : lv_has ls 2 [(0, .ref (ad 100))] := hl
  have hS : va_S (e_A z0) s.heap s.heap [] := va_S.rf
  refine lv_aload_n hx hb dX4_sleep_0 rfl (lv_at hl 0 rfl) ?_
  refine lv_iconst (v := 0) hx hb dX4_sleep_1 (by decide) ?_
  refine e_cVM (As := [.int 0]) (rest := []) hx hb hml hown hts 100 (c_X4_holds (l := l) hm 0) cw_RX4_63 (by decide) (by decide) hz hP hI hK hS (hm 100 (by decide) (by decide)) (by decide) rfl rfl rfl hl.1 rfl (Nat.le_of_ble_eq_true rfl) ⟨Nat.zero_le _, Nat.zero_le _⟩ dX4_sleep_2 (fun H locs hz hP hS => ?_)
  refine lv_pop hx hb dX4_sleep_5 rfl ?_
  refine lv_aload_n hx hb dX4_sleep_6 rfl (lv_at hl 0 rfl) ?_
  refine lv_dup hx hb dX4_sleep_7 rfl ?_
  refine e_getf hx hb hts inX4 hown hK hP 100 12 (hm 100 (by decide) (by decide)) (by decide) rfl rfl 15 (by decide) aw_89 (fun _ h => h) rfl dX4_sleep_8 ?_
  refine lv_iconst (v := 1) hx hb dX4_sleep_11 (by decide) ?_
  refine lv_iadd hx hb dX4_sleep_12 ?_
  refine e_putf hx hb hts inX4 tyX4 tyX4_ok nmX4 hown hK hP hI hS 100 12 (hm 100 (by decide) (by decide)) (by decide) rfl rfl 15 (by decide) aw_89 (fun _ h => h) rfl (ty := .int) (by decide +kernel) rfl rfl (Nat.le_of_ble_eq_true rfl) rfl dX4_sleep_13 (fun H locs hz1 hP hS => ?_)
  have hz := Nat.le_trans hz (Nat.le_of_eq hz1.symm)
  refine lv_aload_n hx hb dX4_sleep_16 rfl (lv_at hl 0 rfl) ?_
  refine e_cVM (As := []) (rest := []) hx hb hml hown hts 100 (c_X4_frees (l := l) (v := (e_set (mT v 0) 100 15 (((mT v 0) 100 15) + 1))) hm) cw_RX4_49 (by decide) (by decide) hz hP hI hK hS (hm 100 (by decide) (by decide)) (by decide) rfl rfl rfl hl.1 rfl (Nat.le_of_ble_eq_true rfl) ⟨Nat.zero_le _, Nat.zero_le _⟩ dX4_sleep_17 (fun H locs hz hP hS => ?_)
  refine lv_iconst (v := 0) hx hb dX4_sleep_20 (by decide) ?_
  refine lv_istore_n (lv' := [(1, .int 0), (0, .ref (ad 100))]) hx hb dX4_sleep_21 rfl hl (by decide) rfl (fun ls hl => ?_)
  have L22 : ∀ (k22 : Nat) (i : Nat) (u : eV), 8 - i < k22 → (i ≤ 8) → (u = mRest (mFrees (e_set (mT v 0) 100 15 (v 100 15 + 1)) 39) i) → ∀ (H : Heap) (locs : List Loc), z0 ≤ H.size → e_P X ad kd sp u H → va_S (e_A z0) s.heap H locs →  ∀ ls : Array Slot, lv_has ls 2 [(1, .int (nI i)), (0, .ref (ad 100))] → W p l e (e_rm 1 0 0) s m args below meth c H locs 0 0 Q (F0 m 22 ls []) := by
    intro k22
    induction k22 with
    | zero => intro i u hk; exact absurd hk (Nat.not_lt_zero _)
    | succ k22 ih22 =>
      intro i u hk22 hi eu H locs hz hP hS ls hl
      refine lv_iload_n hx hb dX4_sleep_22 rfl (lv_at hl 0 rfl) ?_
      refine lv_bipush (v := 8) hx hb dX4_sleep_23 (by decide) ?_
      refine lv_icmp_ge (tgt := 64) hx hb dX4_sleep_25 (by decide) (fun c_1 => ?_) (fun c_1 => ?_)
      · have nc_1 : 8 ≤ i := (nI_leI (a := 8) (b := i) (by omega) (by omega)).mp c_1
        refine lv_aload_n hx hb dX4_sleep_64 rfl (lv_at hl 1 rfl) ?_
        refine e_getf hx hb hts inX4 hown hK hP 100 12 (hm 100 (by decide) (by decide)) (by decide) rfl rfl 15 (by decide) aw_89 (fun _ h => h) rfl dX4_sleep_65 ?_
        exact hret _ _ _ _ _ _ (show (u 100 15) = mSleepS v 100 15 from by rw [eu, show i = 8 by omega]; rfl) (show u = mSleepS v from by rw [eu, show i = 8 by omega]; rfl) hP hS dX4_sleep_68
      · have nc_1 : ¬ 8 ≤ i := fun h => c_1 ((nI_leI (a := 8) (b := i) (by omega) (by omega)).mpr h)
        refine lv_aload_n hx hb dX4_sleep_28 rfl (lv_at hl 1 rfl) ?_
        refine e_getf hx hb hts inX4 hown hK hP 100 12 (hm 100 (by decide) (by decide)) (by decide) rfl rfl 3 (by decide) aw_76 (fun _ h => h) rfl dX4_sleep_29 ?_
        refine lv_iload_n hx hb dX4_sleep_32 rfl (lv_at hl 0 rfl) ?_
        have J33_57 : ∀ ls : Array Slot, lv_has ls 2 [(1, .int (nI i)), (0, .ref (ad 100))] → W p l e (e_rm 1 0 0) s m args below meth c H locs 0 0 Q (F0 m 57 ls [.int (if u 104 i < 25 then 0 else u 104 i - 25), .int (nI i), .ref (ad 104)]) := by
          intro ls hl
          refine e_iast hx hb hK hP hI hS 104 8 (hm 104 (by decide) (by decide)) i rfl (by omega) (by omega) dX4_sleep_57 (fun H locs hz1 hP hS => ?_)
          have hz := Nat.le_trans hz (Nat.le_of_eq hz1.symm)
          refine lv_iinc (v := (nI (i + 1))) (lv' := [(1, .int (nI (i + 1))), (0, .ref (ad 100))]) hx hb dX4_sleep_58 hl (k := 0) rfl (nI_add i 1) (by decide) rfl (fun ls hl => ?_)
          refine lv_goto (tgt := 22) hx hb dX4_sleep_61 (by decide) ?_
          exact ih22 (i + 1) _ (by omega) (by omega) (by rw [eu]; rfl) _ _ hz hP hS ls (lv_sub hl [0, 1] rfl)
        refine lv_aload_n hx hb dX4_sleep_33 rfl (lv_at hl 1 rfl) ?_
        refine e_getf hx hb hts inX4 hown hK hP 100 12 (hm 100 (by decide) (by decide)) (by decide) rfl rfl 3 (by decide) aw_76 (fun _ h => h) rfl dX4_sleep_34 ?_
        refine lv_iload_n hx hb dX4_sleep_37 rfl (lv_at hl 0 rfl) ?_
        refine e_iald hx hb hK hP 104 8 (hm 104 (by decide) (by decide)) i rfl (by omega) (by decide) dX4_sleep_38 ?_
        refine lv_bipush (v := 25) hx hb dX4_sleep_39 (by decide) ?_
        refine lv_icmp_ge (tgt := 48) hx hb dX4_sleep_41 (by decide) (fun c_2 => ?_) (fun c_2 => ?_)
        · have nc_2 : ¬ (u 104 i) < 25 := Int32.not_lt.mpr c_2
          refine lv_aload_n hx hb dX4_sleep_48 rfl (lv_at hl 1 rfl) ?_
          refine e_getf hx hb hts inX4 hown hK hP 100 12 (hm 100 (by decide) (by decide)) (by decide) rfl rfl 3 (by decide) aw_76 (fun _ h => h) rfl dX4_sleep_49 ?_
          refine lv_iload_n hx hb dX4_sleep_52 rfl (lv_at hl 0 rfl) ?_
          refine e_iald hx hb hK hP 104 8 (hm 104 (by decide) (by decide)) i rfl (by omega) (by decide) dX4_sleep_53 ?_
          refine lv_bipush (v := 25) hx hb dX4_sleep_54 (by decide) ?_
          refine lv_isub hx hb dX4_sleep_56 ?_
          exact e_nrm (show ((u 104 i) - 25) = (if u 104 i < 25 then 0 else u 104 i - 25) from (by first | (simp [bI, nc_1, nc_2]; done) | (exfalso; simp_all; done))) (J33_57 ls (lv_sub hl [0, 1] rfl))
        · have nc_2 : (u 104 i) < 25 := Int32.not_le.mp c_2
          refine lv_iconst (v := 0) hx hb dX4_sleep_44 (by decide) ?_
          refine lv_goto (tgt := 57) hx hb dX4_sleep_45 (by decide) ?_
          exact e_nrm (show 0 = (if u 104 i < 25 then 0 else u 104 i - 25) from (by first | (simp [bI, nc_1, nc_2]; done) | (exfalso; simp_all; done))) (J33_57 ls (lv_sub hl [0, 1] rfl))
  exact L22 _ 0 _ (Nat.lt_succ_self _) (Nat.zero_le _) (rfl) _ _ hz hP hS ls (lv_sub hl [0, 1] rfl)

theorem aw_55 : Cond.fieldLink RX4 52 "StepscriptModel" "thrown" "I" ∈ AW := aw_of (List.mem_of_getElem? (i := 735) (by decide +kernel)) (by decide +kernel)
theorem aw_56 : Cond.methodLink RX4 63 yX4_holds ∈ AW := aw_of (List.mem_of_getElem? (i := 783) (by decide +kernel)) (by decide +kernel)
theorem aw_57 : Cond.instanceMethod yX4_holds ∈ AW := aw_of (List.mem_of_getElem? (i := 785) (by decide +kernel)) (by decide +kernel)
theorem aw_58 : Cond.selects RX4 yX4_holds yX4_holds ∈ AW := aw_of (List.mem_of_getElem? (i := 25) (by decide +kernel)) (by decide +kernel)
set_option maxRecDepth 100000 in
theorem aw_59 : Cond.code yX4_holds cX4_holds 2 (some .boolean) ∈ AW := aw_of (List.mem_of_getElem? (i := 786) rfl) (by decide +kernel)
theorem cw_RX4_63 : e_cwV RX4 63 RX4 yX4_holds cX4_holds 2 (some .boolean) 1 := ⟨aw_56, aw_57, aw_58, aw_4, aw_59, rfl, by decide +kernel, by decide +kernel, by decide +kernel⟩
theorem aw_61 : Cond.methodLink RX4 67 yX4_isDancer ∈ AW := aw_of (List.mem_of_getElem? (i := 791) (by decide +kernel)) (by decide +kernel)
theorem aw_62 : Cond.instanceMethod yX4_isDancer ∈ AW := aw_of (List.mem_of_getElem? (i := 793) (by decide +kernel)) (by decide +kernel)
theorem aw_63 : Cond.selects RX4 yX4_isDancer yX4_isDancer ∈ AW := aw_of (List.mem_of_getElem? (i := 26) (by decide +kernel)) (by decide +kernel)
set_option maxRecDepth 100000 in
theorem aw_64 : Cond.code yX4_isDancer cX4_isDancer 2 (some .boolean) ∈ AW := aw_of (List.mem_of_getElem? (i := 794) rfl) (by decide +kernel)
theorem cw_RX4_67 : e_cwV RX4 67 RX4 yX4_isDancer cX4_isDancer 2 (some .boolean) 1 := ⟨aw_61, aw_62, aw_63, aw_4, aw_64, rfl, by decide +kernel, by decide +kernel, by decide +kernel⟩
theorem aw_66 : Cond.methodLink RX4 70 yX4_isCount ∈ AW := aw_of (List.mem_of_getElem? (i := 795) (by decide +kernel)) (by decide +kernel)
theorem aw_67 : Cond.instanceMethod yX4_isCount ∈ AW := aw_of (List.mem_of_getElem? (i := 797) (by decide +kernel)) (by decide +kernel)
theorem aw_68 : Cond.selects RX4 yX4_isCount yX4_isCount ∈ AW := aw_of (List.mem_of_getElem? (i := 27) (by decide +kernel)) (by decide +kernel)
set_option maxRecDepth 100000 in
theorem aw_69 : Cond.code yX4_isCount cX4_isCount 2 (some .boolean) ∈ AW := aw_of (List.mem_of_getElem? (i := 798) rfl) (by decide +kernel)
theorem cw_RX4_70 : e_cwV RX4 70 RX4 yX4_isCount cX4_isCount 2 (some .boolean) 1 := ⟨aw_66, aw_67, aw_68, aw_4, aw_69, rfl, by decide +kernel, by decide +kernel, by decide +kernel⟩
theorem aw_71 : Cond.methodLink RX4 84 yX4_clash ∈ AW := aw_of (List.mem_of_getElem? (i := 819) (by decide +kernel)) (by decide +kernel)
theorem aw_72 : Cond.instanceMethod yX4_clash ∈ AW := aw_of (List.mem_of_getElem? (i := 821) (by decide +kernel)) (by decide +kernel)
theorem aw_73 : Cond.selects RX4 yX4_clash yX4_clash ∈ AW := aw_of (List.mem_of_getElem? (i := 30) (by decide +kernel)) (by decide +kernel)
set_option maxRecDepth 100000 in
theorem aw_74 : Cond.code yX4_clash cX4_clash 5 (some .int) ∈ AW := aw_of (List.mem_of_getElem? (i := 822) rfl) (by decide +kernel)
theorem cw_RX4_84 : e_cwV RX4 84 RX4 yX4_clash cX4_clash 5 (some .int) 1 := ⟨aw_71, aw_72, aw_73, aw_4, aw_74, rfl, by decide +kernel, by decide +kernel, by decide +kernel⟩
theorem aw_76 : Cond.fieldLink RX4 19 "StepscriptModel" "knees" "[I" ∈ AW := aw_of (List.mem_of_getElem? (i := 722) (by decide +kernel)) (by decide +kernel)
theorem aw_77 : Cond.methodLink RX4 105 yX4_lasts ∈ AW := aw_of (List.mem_of_getElem? (i := 860) (by decide +kernel)) (by decide +kernel)
theorem aw_78 : Cond.instanceMethod yX4_lasts ∈ AW := aw_of (List.mem_of_getElem? (i := 862) (by decide +kernel)) (by decide +kernel)
theorem aw_79 : Cond.selects RX4 yX4_lasts yX4_lasts ∈ AW := aw_of (List.mem_of_getElem? (i := 36) (by decide +kernel)) (by decide +kernel)
set_option maxRecDepth 100000 in
theorem aw_80 : Cond.code yX4_lasts cX4_lasts 4 (some .int) ∈ AW := aw_of (List.mem_of_getElem? (i := 863) rfl) (by decide +kernel)
theorem cw_RX4_105 : e_cwV RX4 105 RX4 yX4_lasts cX4_lasts 4 (some .int) 1 := ⟨aw_77, aw_78, aw_79, aw_4, aw_80, rfl, by decide +kernel, by decide +kernel, by decide +kernel⟩
theorem aw_82 : Cond.constant RX4 104 1000000000 ∈ AW := aw_of (List.mem_of_getElem? (i := 859) (by decide +kernel)) (by decide +kernel)
set_option maxRecDepth 100000 in
set_option maxHeartbeats 4000000 in
theorem c_X4_thrown {l : Launch} {X : eD} {z0 : Nat} {ad kd sp : Nat → Nat} {v : eV} (hm : mK kd) : ePu l yX4_thrown cX4_thrown 1 (some .int) 0 [.ref (ad 100)] (e_W X z0 ad kd sp v) (some (.int (v 100 16))) := by
  refine e_pureI (by decide +kernel) (Nat.le_of_ble_eq_true rfl) rfl ?_
  intro p e s m args below meth c hx hb hml hown hts hW Q hret ls hl
  obtain ⟨hz, hP, hI, hK⟩ := hW
  have hl : lv_has ls 1 [(0, .ref (ad 100))] := hl
  refine lv_aload_n hx hb dX4_thrown_0 rfl (lv_at hl 0 rfl) ?_
  refine e_getf hx hb hts inX4 hown hK hP 100 12 (hm 100 (by decide) (by decide)) (by decide) rfl rfl 16 (by decide) aw_55 (fun _ h => h) rfl dX4_thrown_1 ?_
  exact e_nrm (show (v 100 16) = v 100 16 from (by first | (simp [bI]; done) | (exfalso; simp_all; done))) (hret _ _ dX4_thrown_4)

set_option maxRecDepth 100000 in
set_option maxHeartbeats 4000000 in
theorem c_X4_holds {l : Launch} {X : eD} {z0 : Nat} {ad kd sp : Nat → Nat} {v : eV} (hm : mK kd) (x : Int32) : eMu l yX4_holds cX4_holds 2 (some .boolean) 0 [.ref (ad 100), .int x] X z0 ad kd sp v (some (.int (bI (decide (0 < x))))) (mT v x) := by
  refine e_mutI (by decide +kernel) (Nat.le_of_ble_eq_true rfl) (bI_nar _) ?_
  intro p e s m args below meth c hx hb hml hown hts hW Q hret ls hl
  obtain ⟨hz, hP, hI, hK⟩ := hW
  have hl : lv_has ls 2 [(0, .ref (ad 100)), (1, .int x)] := hl
  have hS : va_S (e_A z0) s.heap s.heap [] := va_S.rf
  refine lv_aload_n hx hb dX4_holds_0 rfl (lv_at hl 0 rfl) ?_
  refine lv_iload_n hx hb dX4_holds_1 rfl (lv_at hl 1 rfl) ?_
  refine e_putf hx hb hts inX4 tyX4 tyX4_ok nmX4 hown hK hP hI hS 100 12 (hm 100 (by decide) (by decide)) (by decide) rfl rfl 16 (by decide) aw_55 (fun _ h => h) rfl (ty := .int) (by decide +kernel) rfl rfl (Nat.le_of_ble_eq_true rfl) rfl dX4_holds_2 (fun H locs hz1 hP hS => ?_)
  have hz := Nat.le_trans hz (Nat.le_of_eq hz1.symm)
  refine lv_iload_n hx hb dX4_holds_5 rfl (lv_at hl 1 rfl) ?_
  refine lv_if_le (tgt := 13) hx hb dX4_holds_6 (by decide) (fun c_1 => ?_) (fun c_1 => ?_)
  · have nc_1 : ¬ 0 < x := Int32.not_lt.mpr c_1
    refine lv_iconst (v := 0) hx hb dX4_holds_13 (by decide) ?_
    exact hret _ _ _ _ _ _ (show 0 = bI (decide (0 < x)) from (by first | (simp [bI, nc_1]; done) | (exfalso; simp_all; done))) (show (e_set v 100 16 x) = mT v x from rfl) hP hS dX4_holds_14
  · have nc_1 : 0 < x := Int32.not_le.mp c_1
    refine lv_iconst (v := 1) hx hb dX4_holds_9 (by decide) ?_
    refine lv_goto (tgt := 14) hx hb dX4_holds_10 (by decide) ?_
    exact hret _ _ _ _ _ _ (show 1 = bI (decide (0 < x)) from (by first | (simp [bI, nc_1]; done) | (exfalso; simp_all; done))) (show (e_set v 100 16 x) = mT v x from rfl) hP hS dX4_holds_14

set_option maxRecDepth 100000 in
set_option maxHeartbeats 4000000 in
theorem c_X4_frees {l : Launch} {X : eD} {z0 : Nat} {ad kd sp : Nat → Nat} {v : eV} (hm : mK kd) : eMu l yX4_frees cX4_frees 2 none 0 [.ref (ad 100)] X z0 ad kd sp v none (mFrees v 39) := by
  refine e_mutV (by decide +kernel) (Nat.le_of_ble_eq_true rfl) ?_
  intro p e s m args below meth c hx hb hml hown hts hW Q hret ls hl
  obtain ⟨hz, hP, hI, hK⟩ := hW
  have hl : lv_has ls 2 [(0, .ref (ad 100))] := hl
  have hS : va_S (e_A z0) s.heap s.heap [] := va_S.rf
  refine lv_iconst (v := 0) hx hb dX4_frees_0 (by decide) ?_
  refine lv_istore_n (lv' := [(1, .int 0), (0, .ref (ad 100))]) hx hb dX4_frees_1 rfl hl (by decide) rfl (fun ls hl => ?_)
  have L2 : ∀ (k2 : Nat) (i : Nat) (u : eV), 39 - i < k2 → (i ≤ 39) → (u = mFrees v i) → ∀ (H : Heap) (locs : List Loc), z0 ≤ H.size → e_P X ad kd sp u H → va_S (e_A z0) s.heap H locs →  ∀ ls : Array Slot, lv_has ls 2 [(1, .int (nI i)), (0, .ref (ad 100))] → W p l e (e_rm 0 0 0) s m args below meth c H locs 0 0 Q (F0 m 2 ls []) := by
    intro k2
    induction k2 with
    | zero => intro i u hk; exact absurd hk (Nat.not_lt_zero _)
    | succ k2 ih2 =>
      intro i u hk2 hi eu H locs hz hP hS ls hl
      refine lv_iload_n hx hb dX4_frees_2 rfl (lv_at hl 0 rfl) ?_
      refine lv_bipush (v := 39) hx hb dX4_frees_3 (by decide) ?_
      refine lv_icmp_ge (tgt := 21) hx hb dX4_frees_5 (by decide) (fun c_1 => ?_) (fun c_1 => ?_)
      · have nc_1 : 39 ≤ i := (nI_leI (a := 39) (b := i) (by omega) (by omega)).mp c_1
        exact hret _ _ _ _ _ (show u = mFrees v 39 from by rw [eu, show i = 39 by omega]) hP hS dX4_frees_21
      · have nc_1 : ¬ 39 ≤ i := fun h => c_1 ((nI_leI (a := 39) (b := i) (by omega) (by omega)).mpr h)
        refine lv_aload_n hx hb dX4_frees_8 rfl (lv_at hl 1 rfl) ?_
        refine e_getf hx hb hts inX4 hown hK hP 100 12 (hm 100 (by decide) (by decide)) (by decide) rfl rfl 14 (by decide) aw_48 (fun _ h => h) rfl dX4_frees_9 ?_
        refine lv_iload_n hx hb dX4_frees_12 rfl (lv_at hl 0 rfl) ?_
        refine lv_iconst (v := (-1)) hx hb dX4_frees_13 (by decide) ?_
        refine e_iast hx hb hK hP hI hS 113 39 (hm 113 (by decide) (by decide)) i rfl (by omega) (by omega) dX4_frees_14 (fun H locs hz1 hP hS => ?_)
        have hz := Nat.le_trans hz (Nat.le_of_eq hz1.symm)
        refine lv_iinc (v := (nI (i + 1))) (lv' := [(1, .int (nI (i + 1))), (0, .ref (ad 100))]) hx hb dX4_frees_15 hl (k := 0) rfl (nI_add i 1) (by decide) rfl (fun ls hl => ?_)
        refine lv_goto (tgt := 2) hx hb dX4_frees_18 (by decide) ?_
        exact ih2 (i + 1) _ (by omega) (by omega) (by rw [eu]; rfl) _ _ hz hP hS ls (lv_sub hl [0, 1] rfl)
  exact L2 _ 0 v (Nat.lt_succ_self _) (Nat.zero_le _) (rfl) _ _ hz hP hS ls (lv_sub hl [0, 1] rfl)

set_option maxRecDepth 100000 in
set_option maxHeartbeats 4000000 in
theorem c_X4_place {l : Launch} {X : eD} {z0 : Nat} {ad kd sp : Nat → Nat} {v : eV} (dn ln : Nat) (hm : mK kd) (hv : mI dn ln v) (d c0 b : Int32) : eMu l yX4_place cX4_place 4 (some .int) 2 [.ref (ad 100), .int d, .int c0, .int b] X z0 ad kd sp v (some (.int (mPlaceV v dn d c0 b))) (mT v (mPlaceC dn d c0)) := by
  refine e_mutI (by decide +kernel) (Nat.le_of_ble_eq_true rfl) rfl ?_
  intro p e s m args below meth c hx hb hml hown hts hW Q hret ls hl
  obtain ⟨hz, hP, hI, hK⟩ := hW
  have hl : lv_has ls 4 [(0, .ref (ad 100)), (1, .int d), (2, .int c0), (3, .int b)] := hl
  have hS : va_S (e_A z0) s.heap s.heap [] := va_S.rf
  have hd8 := hv.2.2.1
  have hl12 := hv.2.2.2.1
  refine lv_aload_n hx hb dX4_place_0 rfl (lv_at hl 0 rfl) ?_
  have J1_22 : ∀ ls : Array Slot, lv_has ls 4 [(0, .ref (ad 100)), (1, .int d), (2, .int c0), (3, .int b)] → W p l e (e_rm 2 0 0) s m args below meth c s.heap [] 0 0 Q (F0 m 22 ls [.int (mPlaceC dn d c0), .ref (ad 100)]) := by
    intro ls hl
    refine e_cVM (As := [.int (mPlaceC dn d c0)]) (rest := []) hx hb hml hown hts 100 (c_X4_holds (l := l) hm (mPlaceC dn d c0)) cw_RX4_63 (by decide) (by decide) hz hP hI hK hS (hm 100 (by decide) (by decide)) (by decide) rfl rfl rfl hl.1 rfl (Nat.le_of_ble_eq_true rfl) ⟨Nat.zero_le _, Nat.zero_le _⟩ dX4_place_22 (fun H locs hz hP hS => ?_)
    refine lv_if_eq (tgt := 32) hx hb dX4_place_25 (by decide) (fun c_1 => ?_) (fun c_1 => ?_)
    · have nc_1 : ¬ (0 < (mPlaceC dn d c0)) := of_decide_eq_false (bI_0.mp c_1)
      obtain ⟨d_2, hd_2, ed_2⟩ := e_okD hd8 ((mPlaceC_ok nc_1).1)
      have nd_2 := nN_of ed_2 (by omega)
      obtain ⟨c_3, hc_3, ec_3⟩ := e_okC ((mPlaceC_ok nc_1).2)
      have nc_3 := nN_of ec_3 (by omega)
      refine lv_iload_n hx hb dX4_place_32 rfl (lv_at hl 3 rfl) ?_
      refine lv_if_eq (tgt := 45) hx hb dX4_place_33 (by decide) (fun c_4 => ?_) (fun c_4 => ?_)
      · skip
        refine lv_aload_n hx hb dX4_place_45 rfl (lv_at hl 0 rfl) ?_
        refine lv_iload_n hx hb dX4_place_46 rfl (lv_at hl 1 rfl) ?_
        refine e_nrm (y := nI d_2) ed_2 ?_
        refine lv_iload_n hx hb dX4_place_47 rfl (lv_at hl 2 rfl) ?_
        refine e_nrm (y := nI c_3) ec_3 ?_
        refine e_cV (As := [.int (nI d_2), .int (nI c_3)]) (rest := []) hx hb hml hown hts 100 (c_X4_x (l := l) (v := (mT v (mPlaceC dn d c0))) hm d_2 (c_3 + 1) (nI c_3) (by omega) (by omega) (nI_1 c_3)) cw_RX4_77 (by decide) (by decide) hz hP hI hK (hm 100 (by decide) (by decide)) (by decide) rfl rfl rfl hl.1 rfl (Nat.le_of_ble_eq_true rfl) ⟨Nat.zero_le _, Nat.zero_le _⟩ dX4_place_48 ?_
        exact hret _ _ _ _ _ _ (show (mX (mT v (mPlaceC dn d c0)) d_2 (c_3 + 1)) = mPlaceV v dn d c0 b from (by first | (simp [mPlaceV, mX_T, mY_T, bI, nc_1, nd_2, nc_3, c_4]; done) | (exfalso; simp_all; done))) (show (mT v (mPlaceC dn d c0)) = mT v (mPlaceC dn d c0) from rfl) hP hS dX4_place_51
      · skip
        refine lv_aload_n hx hb dX4_place_36 rfl (lv_at hl 0 rfl) ?_
        refine lv_iload_n hx hb dX4_place_37 rfl (lv_at hl 1 rfl) ?_
        refine e_nrm (y := nI d_2) ed_2 ?_
        refine lv_iload_n hx hb dX4_place_38 rfl (lv_at hl 2 rfl) ?_
        refine e_nrm (y := nI c_3) ec_3 ?_
        refine e_cV (As := [.int (nI d_2), .int (nI c_3)]) (rest := []) hx hb hml hown hts 100 (c_X4_y (l := l) (v := (mT v (mPlaceC dn d c0))) hm d_2 (c_3 + 1) (nI c_3) (by omega) (by omega) (nI_1 c_3)) cw_RX4_73 (by decide) (by decide) hz hP hI hK (hm 100 (by decide) (by decide)) (by decide) rfl rfl rfl hl.1 rfl (Nat.le_of_ble_eq_true rfl) ⟨Nat.zero_le _, Nat.zero_le _⟩ dX4_place_39 ?_
        refine lv_goto (tgt := 51) hx hb dX4_place_42 (by decide) ?_
        exact hret _ _ _ _ _ _ (show (mY (mT v (mPlaceC dn d c0)) d_2 (c_3 + 1)) = mPlaceV v dn d c0 b from (by first | (simp [mPlaceV, mX_T, mY_T, bI, nc_1, nd_2, nc_3, c_4]; done) | (exfalso; simp_all; done))) (show (mT v (mPlaceC dn d c0)) = mT v (mPlaceC dn d c0) from rfl) hP hS dX4_place_51
    · have nc_1 : (0 < (mPlaceC dn d c0)) := of_decide_eq_true (bI_n0.mp c_1)
      refine lv_iconst (v := (-1)) hx hb dX4_place_28 (by decide) ?_
      refine lv_goto (tgt := 51) hx hb dX4_place_29 (by decide) ?_
      exact hret _ _ _ _ _ _ (show (-1) = mPlaceV v dn d c0 b from (by first | (simp [mPlaceV, mX_T, mY_T, bI, nc_1]; done) | (exfalso; simp_all; done))) (show (mT v (mPlaceC dn d c0)) = mT v (mPlaceC dn d c0) from rfl) hP hS dX4_place_51
  refine lv_aload_n hx hb dX4_place_1 rfl (lv_at hl 0 rfl) ?_
  refine lv_iload_n hx hb dX4_place_2 rfl (lv_at hl 1 rfl) ?_
  refine e_cV (As := [.int d]) (rest := [.ref (ad 100)]) hx hb hml hown hts 100 (c_X4_isDancer (l := l) dn ln hm hv d) cw_RX4_67 (by decide) (by decide) hz hP hI hK (hm 100 (by decide) (by decide)) (by decide) rfl rfl rfl hl.1 rfl (Nat.le_of_ble_eq_true rfl) ⟨Nat.zero_le _, Nat.zero_le _⟩ dX4_place_3 ?_
  refine lv_if_eq (tgt := 21) hx hb dX4_place_6 (by decide) (fun c_5 => ?_) (fun c_5 => ?_)
  · have nc_5 : (mIn d 0 (nI dn - 1)) = false := bI_0.mp c_5
    refine lv_iconst (v := 1) hx hb dX4_place_21 (by decide) ?_
    exact e_nrm (show 1 = (mPlaceC dn d c0) from (by first | (simp [mPlaceC, mOkD, mOkC, bI, nc_5]; done) | (exfalso; simp_all; done))) (J1_22 ls (lv_sub hl [0, 1, 2, 3] rfl))
  · have nc_5 : (mIn d 0 (nI dn - 1)) = true := bI_n0.mp c_5
    refine lv_aload_n hx hb dX4_place_9 rfl (lv_at hl 0 rfl) ?_
    refine lv_iload_n hx hb dX4_place_10 rfl (lv_at hl 2 rfl) ?_
    refine e_cV (As := [.int c0]) (rest := [.ref (ad 100)]) hx hb hml hown hts 100 (c_X4_isCount (l := l) hm c0) cw_RX4_70 (by decide) (by decide) hz hP hI hK (hm 100 (by decide) (by decide)) (by decide) rfl rfl rfl hl.1 rfl (Nat.le_of_ble_eq_true rfl) ⟨Nat.zero_le _, Nat.zero_le _⟩ dX4_place_11 ?_
    refine lv_if_eq (tgt := 21) hx hb dX4_place_14 (by decide) (fun c_6 => ?_) (fun c_6 => ?_)
    · have nc_6 : (mIn c0 0 63) = false := bI_0.mp c_6
      refine lv_iconst (v := 1) hx hb dX4_place_21 (by decide) ?_
      exact e_nrm (show 1 = (mPlaceC dn d c0) from (by first | (simp [mPlaceC, mOkD, mOkC, bI, nc_5, nc_6]; done) | (exfalso; simp_all; done))) (J1_22 ls (lv_sub hl [0, 1, 2, 3] rfl))
    · have nc_6 : (mIn c0 0 63) = true := bI_n0.mp c_6
      refine lv_iconst (v := 0) hx hb dX4_place_17 (by decide) ?_
      refine lv_goto (tgt := 22) hx hb dX4_place_18 (by decide) ?_
      exact e_nrm (show 0 = (mPlaceC dn d c0) from (by first | (simp [mPlaceC, mOkD, mOkC, bI, nc_5, nc_6]; done) | (exfalso; simp_all; done))) (J1_22 ls (lv_sub hl [0, 1, 2, 3] rfl))

set_option maxRecDepth 100000 in
set_option maxHeartbeats 4000000 in
theorem c_X4_placeAnew {l : Launch} {X : eD} {z0 : Nat} {ad kd sp : Nat → Nat} {v : eV} (dn ln : Nat) (hm : mK kd) (hv : mI dn ln v) (d c0 b : Int32) : eMu l yX4_placeAnew cX4_placeAnew 4 (some .int) 2 [.ref (ad 100), .int d, .int c0, .int b] X z0 ad kd sp v (some (.int (mPlaceV v dn d c0 b))) (mT v (mPlaceC dn d c0)) := by
  refine e_mutI (by decide +kernel) (Nat.le_of_ble_eq_true rfl) rfl ?_
  intro p e s m args below meth c hx hb hml hown hts hW Q hret ls hl
  obtain ⟨hz, hP, hI, hK⟩ := hW
  have hl : lv_has ls 4 [(0, .ref (ad 100)), (1, .int d), (2, .int c0), (3, .int b)] := hl
  have hS : va_S (e_A z0) s.heap s.heap [] := va_S.rf
  have hd8 := hv.2.2.1
  have hl12 := hv.2.2.2.1
  refine lv_aload_n hx hb dX4_placeAnew_0 rfl (lv_at hl 0 rfl) ?_
  have J1_22 : ∀ ls : Array Slot, lv_has ls 4 [(0, .ref (ad 100)), (1, .int d), (2, .int c0), (3, .int b)] → W p l e (e_rm 2 0 0) s m args below meth c s.heap [] 0 0 Q (F0 m 22 ls [.int (mPlaceC dn d c0), .ref (ad 100)]) := by
    intro ls hl
    refine e_cVM (As := [.int (mPlaceC dn d c0)]) (rest := []) hx hb hml hown hts 100 (c_X4_holds (l := l) hm (mPlaceC dn d c0)) cw_RX4_63 (by decide) (by decide) hz hP hI hK hS (hm 100 (by decide) (by decide)) (by decide) rfl rfl rfl hl.1 rfl (Nat.le_of_ble_eq_true rfl) ⟨Nat.zero_le _, Nat.zero_le _⟩ dX4_placeAnew_22 (fun H locs hz hP hS => ?_)
    refine lv_if_eq (tgt := 32) hx hb dX4_placeAnew_25 (by decide) (fun c_1 => ?_) (fun c_1 => ?_)
    · have nc_1 : ¬ (0 < (mPlaceC dn d c0)) := of_decide_eq_false (bI_0.mp c_1)
      obtain ⟨d_2, hd_2, ed_2⟩ := e_okD hd8 ((mPlaceC_ok nc_1).1)
      have nd_2 := nN_of ed_2 (by omega)
      obtain ⟨c_3, hc_3, ec_3⟩ := e_okC ((mPlaceC_ok nc_1).2)
      have nc_3 := nN_of ec_3 (by omega)
      refine lv_iload_n hx hb dX4_placeAnew_32 rfl (lv_at hl 3 rfl) ?_
      refine lv_if_eq (tgt := 45) hx hb dX4_placeAnew_33 (by decide) (fun c_4 => ?_) (fun c_4 => ?_)
      · skip
        refine lv_aload_n hx hb dX4_placeAnew_45 rfl (lv_at hl 0 rfl) ?_
        refine lv_iload_n hx hb dX4_placeAnew_46 rfl (lv_at hl 1 rfl) ?_
        refine e_nrm (y := nI d_2) ed_2 ?_
        refine lv_iload_n hx hb dX4_placeAnew_47 rfl (lv_at hl 2 rfl) ?_
        refine e_nrm (y := nI c_3) ec_3 ?_
        refine e_cV (As := [.int (nI d_2), .int (nI c_3)]) (rest := []) hx hb hml hown hts 100 (c_X4_x (l := l) (v := (mT v (mPlaceC dn d c0))) hm d_2 (c_3 + 1) (nI c_3) (by omega) (by omega) (nI_1 c_3)) cw_RX4_77 (by decide) (by decide) hz hP hI hK (hm 100 (by decide) (by decide)) (by decide) rfl rfl rfl hl.1 rfl (Nat.le_of_ble_eq_true rfl) ⟨Nat.zero_le _, Nat.zero_le _⟩ dX4_placeAnew_48 ?_
        exact hret _ _ _ _ _ _ (show (mX (mT v (mPlaceC dn d c0)) d_2 (c_3 + 1)) = mPlaceV v dn d c0 b from (by first | (simp [mPlaceV, mX_T, mY_T, bI, nc_1, nd_2, nc_3, c_4]; done) | (exfalso; simp_all; done))) (show (mT v (mPlaceC dn d c0)) = mT v (mPlaceC dn d c0) from rfl) hP hS dX4_placeAnew_51
      · skip
        refine lv_aload_n hx hb dX4_placeAnew_36 rfl (lv_at hl 0 rfl) ?_
        refine lv_iload_n hx hb dX4_placeAnew_37 rfl (lv_at hl 1 rfl) ?_
        refine e_nrm (y := nI d_2) ed_2 ?_
        refine lv_iload_n hx hb dX4_placeAnew_38 rfl (lv_at hl 2 rfl) ?_
        refine e_nrm (y := nI c_3) ec_3 ?_
        refine e_cV (As := [.int (nI d_2), .int (nI c_3)]) (rest := []) hx hb hml hown hts 100 (c_X4_y (l := l) (v := (mT v (mPlaceC dn d c0))) hm d_2 (c_3 + 1) (nI c_3) (by omega) (by omega) (nI_1 c_3)) cw_RX4_73 (by decide) (by decide) hz hP hI hK (hm 100 (by decide) (by decide)) (by decide) rfl rfl rfl hl.1 rfl (Nat.le_of_ble_eq_true rfl) ⟨Nat.zero_le _, Nat.zero_le _⟩ dX4_placeAnew_39 ?_
        refine lv_goto (tgt := 51) hx hb dX4_placeAnew_42 (by decide) ?_
        exact hret _ _ _ _ _ _ (show (mY (mT v (mPlaceC dn d c0)) d_2 (c_3 + 1)) = mPlaceV v dn d c0 b from (by first | (simp [mPlaceV, mX_T, mY_T, bI, nc_1, nd_2, nc_3, c_4]; done) | (exfalso; simp_all; done))) (show (mT v (mPlaceC dn d c0)) = mT v (mPlaceC dn d c0) from rfl) hP hS dX4_placeAnew_51
    · have nc_1 : (0 < (mPlaceC dn d c0)) := of_decide_eq_true (bI_n0.mp c_1)
      refine lv_iconst (v := (-1)) hx hb dX4_placeAnew_28 (by decide) ?_
      refine lv_goto (tgt := 51) hx hb dX4_placeAnew_29 (by decide) ?_
      exact hret _ _ _ _ _ _ (show (-1) = mPlaceV v dn d c0 b from (by first | (simp [mPlaceV, mX_T, mY_T, bI, nc_1]; done) | (exfalso; simp_all; done))) (show (mT v (mPlaceC dn d c0)) = mT v (mPlaceC dn d c0) from rfl) hP hS dX4_placeAnew_51
  refine lv_aload_n hx hb dX4_placeAnew_1 rfl (lv_at hl 0 rfl) ?_
  refine lv_iload_n hx hb dX4_placeAnew_2 rfl (lv_at hl 1 rfl) ?_
  refine e_cV (As := [.int d]) (rest := [.ref (ad 100)]) hx hb hml hown hts 100 (c_X4_isDancer (l := l) dn ln hm hv d) cw_RX4_67 (by decide) (by decide) hz hP hI hK (hm 100 (by decide) (by decide)) (by decide) rfl rfl rfl hl.1 rfl (Nat.le_of_ble_eq_true rfl) ⟨Nat.zero_le _, Nat.zero_le _⟩ dX4_placeAnew_3 ?_
  refine lv_if_eq (tgt := 21) hx hb dX4_placeAnew_6 (by decide) (fun c_5 => ?_) (fun c_5 => ?_)
  · have nc_5 : (mIn d 0 (nI dn - 1)) = false := bI_0.mp c_5
    refine lv_iconst (v := 1) hx hb dX4_placeAnew_21 (by decide) ?_
    exact e_nrm (show 1 = (mPlaceC dn d c0) from (by first | (simp [mPlaceC, mOkD, mOkC, bI, nc_5]; done) | (exfalso; simp_all; done))) (J1_22 ls (lv_sub hl [0, 1, 2, 3] rfl))
  · have nc_5 : (mIn d 0 (nI dn - 1)) = true := bI_n0.mp c_5
    refine lv_aload_n hx hb dX4_placeAnew_9 rfl (lv_at hl 0 rfl) ?_
    refine lv_iload_n hx hb dX4_placeAnew_10 rfl (lv_at hl 2 rfl) ?_
    refine e_cV (As := [.int c0]) (rest := [.ref (ad 100)]) hx hb hml hown hts 100 (c_X4_isCount (l := l) hm c0) cw_RX4_70 (by decide) (by decide) hz hP hI hK (hm 100 (by decide) (by decide)) (by decide) rfl rfl rfl hl.1 rfl (Nat.le_of_ble_eq_true rfl) ⟨Nat.zero_le _, Nat.zero_le _⟩ dX4_placeAnew_11 ?_
    refine lv_if_eq (tgt := 21) hx hb dX4_placeAnew_14 (by decide) (fun c_6 => ?_) (fun c_6 => ?_)
    · have nc_6 : (mIn c0 0 63) = false := bI_0.mp c_6
      refine lv_iconst (v := 1) hx hb dX4_placeAnew_21 (by decide) ?_
      exact e_nrm (show 1 = (mPlaceC dn d c0) from (by first | (simp [mPlaceC, mOkD, mOkC, bI, nc_5, nc_6]; done) | (exfalso; simp_all; done))) (J1_22 ls (lv_sub hl [0, 1, 2, 3] rfl))
    · have nc_6 : (mIn c0 0 63) = true := bI_n0.mp c_6
      refine lv_iconst (v := 0) hx hb dX4_placeAnew_17 (by decide) ?_
      refine lv_goto (tgt := 22) hx hb dX4_placeAnew_18 (by decide) ?_
      exact e_nrm (show 0 = (mPlaceC dn d c0) from (by first | (simp [mPlaceC, mOkD, mOkC, bI, nc_5, nc_6]; done) | (exfalso; simp_all; done))) (J1_22 ls (lv_sub hl [0, 1, 2, 3] rfl))

set_option maxRecDepth 100000 in
set_option maxHeartbeats 4000000 in
theorem c_X4_clashes {l : Launch} {X : eD} {z0 : Nat} {ad kd sp : Nat → Nat} {v : eV} (dn ln : Nat) (hm : mK kd) (hv : mI dn ln v) (c0 : Int32) : eMu l yX4_clashes cX4_clashes 2 (some .int) 3 [.ref (ad 100), .int c0] X z0 ad kd sp v (some (.int (mClashesV v dn c0))) (mT v (mClashesC c0)) := by
  refine e_mutI (by decide +kernel) (Nat.le_of_ble_eq_true rfl) rfl ?_
  intro p e s m args below meth c hx hb hml hown hts hW Q hret ls hl
  obtain ⟨hz, hP, hI, hK⟩ := hW
  have hl : lv_has ls 2 [(0, .ref (ad 100)), (1, .int c0)] := hl
  have hS : va_S (e_A z0) s.heap s.heap [] := va_S.rf
  have hd8 := hv.2.2.1
  have hl12 := hv.2.2.2.1
  refine lv_aload_n hx hb dX4_clashes_0 rfl (lv_at hl 0 rfl) ?_
  have J1_14 : ∀ ls : Array Slot, lv_has ls 2 [(0, .ref (ad 100)), (1, .int c0)] → W p l e (e_rm 3 0 0) s m args below meth c s.heap [] 0 0 Q (F0 m 14 ls [.int (mClashesC c0), .ref (ad 100)]) := by
    intro ls hl
    refine e_cVM (As := [.int (mClashesC c0)]) (rest := []) hx hb hml hown hts 100 (c_X4_holds (l := l) hm (mClashesC c0)) cw_RX4_63 (by decide) (by decide) hz hP hI hK hS (hm 100 (by decide) (by decide)) (by decide) rfl rfl rfl hl.1 rfl (Nat.le_of_ble_eq_true rfl) ⟨Nat.zero_le _, Nat.zero_le _⟩ dX4_clashes_14 (fun H locs hz hP hS => ?_)
    refine lv_if_eq (tgt := 24) hx hb dX4_clashes_17 (by decide) (fun c_1 => ?_) (fun c_1 => ?_)
    · have nc_1 : ¬ (0 < (mClashesC c0)) := of_decide_eq_false (bI_0.mp c_1)
      obtain ⟨c_2, hc_2, ec_2⟩ := e_okC (mClashesC_ok nc_1)
      have nc_2 := nN_of ec_2 (by omega)
      refine lv_aload_n hx hb dX4_clashes_24 rfl (lv_at hl 0 rfl) ?_
      refine lv_iload_n hx hb dX4_clashes_25 rfl (lv_at hl 1 rfl) ?_
      refine e_nrm (y := nI c_2) ec_2 ?_
      refine e_cV (As := [.int (nI c_2)]) (rest := []) hx hb hml hown hts 100 (c_X4_clash (l := l) (v := (mT v (mClashesC c0))) dn ln hm hv c_2 (by omega)) cw_RX4_84 (by decide) (by decide) hz hP hI hK (hm 100 (by decide) (by decide)) (by decide) rfl rfl rfl hl.1 rfl (Nat.le_of_ble_eq_true rfl) ⟨Nat.zero_le _, Nat.zero_le _⟩ dX4_clashes_26 ?_
      exact hret _ _ _ _ _ _ (show (mClash (mT v (mClashesC c0)) c_2 dn) = mClashesV v dn c0 from (by first | (simp [mClashesV, mClash_T, bI, nc_1, nc_2]; done) | (exfalso; simp_all; done))) (show (mT v (mClashesC c0)) = mT v (mClashesC c0) from rfl) hP hS dX4_clashes_29
    · have nc_1 : (0 < (mClashesC c0)) := of_decide_eq_true (bI_n0.mp c_1)
      refine lv_iconst (v := (-1)) hx hb dX4_clashes_20 (by decide) ?_
      refine lv_goto (tgt := 29) hx hb dX4_clashes_21 (by decide) ?_
      exact hret _ _ _ _ _ _ (show (-1) = mClashesV v dn c0 from (by first | (simp [mClashesV, mClash_T, bI, nc_1]; done) | (exfalso; simp_all; done))) (show (mT v (mClashesC c0)) = mT v (mClashesC c0) from rfl) hP hS dX4_clashes_29
  refine lv_aload_n hx hb dX4_clashes_1 rfl (lv_at hl 0 rfl) ?_
  refine lv_iload_n hx hb dX4_clashes_2 rfl (lv_at hl 1 rfl) ?_
  refine e_cV (As := [.int c0]) (rest := [.ref (ad 100)]) hx hb hml hown hts 100 (c_X4_isCount (l := l) hm c0) cw_RX4_70 (by decide) (by decide) hz hP hI hK (hm 100 (by decide) (by decide)) (by decide) rfl rfl rfl hl.1 rfl (Nat.le_of_ble_eq_true rfl) ⟨Nat.zero_le _, Nat.zero_le _⟩ dX4_clashes_3 ?_
  refine lv_if_eq (tgt := 13) hx hb dX4_clashes_6 (by decide) (fun c_3 => ?_) (fun c_3 => ?_)
  · have nc_3 : (mIn c0 0 63) = false := bI_0.mp c_3
    refine lv_iconst (v := 1) hx hb dX4_clashes_13 (by decide) ?_
    exact e_nrm (show 1 = (mClashesC c0) from (by first | (simp [mClashesC, mOkC, bI, nc_3]; done) | (exfalso; simp_all; done))) (J1_14 ls (lv_sub hl [0, 1] rfl))
  · have nc_3 : (mIn c0 0 63) = true := bI_n0.mp c_3
    refine lv_iconst (v := 0) hx hb dX4_clashes_9 (by decide) ?_
    refine lv_goto (tgt := 14) hx hb dX4_clashes_10 (by decide) ?_
    exact e_nrm (show 0 = (mClashesC c0) from (by first | (simp [mClashesC, mOkC, bI, nc_3]; done) | (exfalso; simp_all; done))) (J1_14 ls (lv_sub hl [0, 1] rfl))

set_option maxRecDepth 100000 in
set_option maxHeartbeats 4000000 in
theorem c_X4_firstClash {l : Launch} {X : eD} {z0 : Nat} {ad kd sp : Nat → Nat} {v : eV} (dn ln : Nat) (hm : mK kd) (hv : mI dn ln v) : eMu l yX4_firstClash cX4_firstClash 2 (some .int) 3 [.ref (ad 100)] X z0 ad kd sp v (some (.int (mFirst v dn))) (mT v 0) := by
  refine e_mutI (by decide +kernel) (Nat.le_of_ble_eq_true rfl) rfl ?_
  intro p e s m args below meth c hx hb hml hown hts hW Q hret ls hl
  obtain ⟨hz, hP, hI, hK⟩ := hW
  have hl : lv_has ls 2 [(0, .ref (ad 100))] := hl
  have hS : va_S (e_A z0) s.heap s.heap [] := va_S.rf
  have hd8 := hv.2.2.1
  have hl12 := hv.2.2.2.1
  refine lv_aload_n hx hb dX4_firstClash_0 rfl (lv_at hl 0 rfl) ?_
  refine lv_iconst (v := 0) hx hb dX4_firstClash_1 (by decide) ?_
  refine e_cVM (As := [.int 0]) (rest := []) hx hb hml hown hts 100 (c_X4_holds (l := l) hm 0) cw_RX4_63 (by decide) (by decide) hz hP hI hK hS (hm 100 (by decide) (by decide)) (by decide) rfl rfl rfl hl.1 rfl (Nat.le_of_ble_eq_true rfl) ⟨Nat.zero_le _, Nat.zero_le _⟩ dX4_firstClash_2 (fun H locs hz hP hS => ?_)
  refine lv_pop hx hb dX4_firstClash_5 rfl ?_
  refine lv_iconst (v := 0) hx hb dX4_firstClash_6 (by decide) ?_
  refine lv_istore_n (lv' := [(1, .int 0), (0, .ref (ad 100))]) hx hb dX4_firstClash_7 rfl hl (by decide) rfl (fun ls hl => ?_)
  have L8 : ∀ (k8 : Nat) (i : Nat), 64 - i < k8 → (i ≤ 64) → (firstN (fun c => decide (0 < mClash v c dn)) (64 - i) i = mFirst v dn) →  ∀ ls : Array Slot, lv_has ls 2 [(1, .int (nI i)), (0, .ref (ad 100))] → W p l e (e_rm 3 0 0) s m args below meth c H locs 0 0 Q (F0 m 8 ls []) := by
    intro k8
    induction k8 with
    | zero => intro i hk; exact absurd hk (Nat.not_lt_zero _)
    | succ k8 ih8 =>
      intro i hk8 hi ef ls hl
      refine lv_iload_n hx hb dX4_firstClash_8 rfl (lv_at hl 0 rfl) ?_
      refine lv_bipush (v := 64) hx hb dX4_firstClash_9 (by decide) ?_
      refine lv_icmp_ge (tgt := 30) hx hb dX4_firstClash_11 (by decide) (fun c_1 => ?_) (fun c_1 => ?_)
      · have nc_1 : 64 ≤ i := (nI_leI (a := 64) (b := i) (by omega) (by omega)).mp c_1
        refine lv_iconst (v := (-1)) hx hb dX4_firstClash_30 (by decide) ?_
        exact hret _ _ _ _ _ _ (show (-1) = mFirst v dn from by rw [← ef, firstN_end (by omega)]) (show (mT v 0) = mT v 0 from rfl) hP hS dX4_firstClash_31
      · have nc_1 : ¬ 64 ≤ i := fun h => c_1 ((nI_leI (a := 64) (b := i) (by omega) (by omega)).mpr h)
        refine lv_aload_n hx hb dX4_firstClash_14 rfl (lv_at hl 1 rfl) ?_
        refine lv_iload_n hx hb dX4_firstClash_15 rfl (lv_at hl 0 rfl) ?_
        refine e_cV (As := [.int (nI i)]) (rest := []) hx hb hml hown hts 100 (c_X4_clash (l := l) (v := (mT v 0)) dn ln hm hv i (by omega)) cw_RX4_84 (by decide) (by decide) hz hP hI hK (hm 100 (by decide) (by decide)) (by decide) rfl rfl rfl hl.1 rfl (Nat.le_of_ble_eq_true rfl) ⟨Nat.zero_le _, Nat.zero_le _⟩ dX4_firstClash_16 ?_
        refine lv_if_le (tgt := 24) hx hb dX4_firstClash_19 (by decide) (fun c_2 => ?_) (fun c_2 => ?_)
        · have nc_2 : ¬ 0 < (mClash (mT v 0) i dn) := Int32.not_lt.mpr c_2
          refine lv_iinc (v := (nI (i + 1))) (lv' := [(1, .int (nI (i + 1))), (0, .ref (ad 100))]) hx hb dX4_firstClash_24 hl (k := 0) rfl (nI_add i 1) (by decide) rfl (fun ls hl => ?_)
          refine lv_goto (tgt := 8) hx hb dX4_firstClash_27 (by decide) ?_
          exact ih8 (i + 1) (by omega) (by omega) (by rw [← ef, firstN_step (by omega : i < 64), if_neg (by simpa [mClash_T] using nc_2)])  ls (lv_sub hl [0, 1] rfl)
        · have nc_2 : 0 < (mClash (mT v 0) i dn) := Int32.not_le.mp c_2
          refine lv_iload_n hx hb dX4_firstClash_22 rfl (lv_at hl 0 rfl) ?_
          exact hret _ _ _ _ _ _ (show (nI i) = mFirst v dn from by rw [← ef, firstN_step (by omega : i < 64), if_pos (by simpa [mClash_T] using nc_2)]) (show (mT v 0) = mT v 0 from rfl) hP hS dX4_firstClash_23
  exact L8 _ 0 (Nat.lt_succ_self _) (Nat.zero_le _) (rfl)  ls (lv_sub hl [0, 1] rfl)

set_option maxRecDepth 100000 in
set_option maxHeartbeats 4000000 in
theorem c_X4_rehearsal {l : Launch} {X : eD} {z0 : Nat} {ad kd sp : Nat → Nat} {v : eV} (hm : mK kd) (r h : Int32) : eMu l yX4_rehearsal cX4_rehearsal 3 (some .int) 1 [.ref (ad 100), .int r, .int h] X z0 ad kd sp v (some (.int (mRehearsalV v r h))) (mT v (mRehearsalC r h)) := by
  refine e_mutI (by decide +kernel) (Nat.le_of_ble_eq_true rfl) rfl ?_
  intro p e s m args below meth c hx hb hml hown hts hW Q hret ls hl
  obtain ⟨hz, hP, hI, hK⟩ := hW
  have hl : lv_has ls 3 [(0, .ref (ad 100)), (1, .int r), (2, .int h)] := hl
  have hS : va_S (e_A z0) s.heap s.heap [] := va_S.rf
  refine lv_aload_n hx hb dX4_rehearsal_0 rfl (lv_at hl 0 rfl) ?_
  have J1_28 : ∀ ls : Array Slot, lv_has ls 3 [(0, .ref (ad 100)), (1, .int r), (2, .int h)] → W p l e (e_rm 1 0 0) s m args below meth c s.heap [] 0 0 Q (F0 m 28 ls [.int (mRehearsalC r h), .ref (ad 100)]) := by
    intro ls hl
    refine e_cVM (As := [.int (mRehearsalC r h)]) (rest := []) hx hb hml hown hts 100 (c_X4_holds (l := l) hm (mRehearsalC r h)) cw_RX4_63 (by decide) (by decide) hz hP hI hK hS (hm 100 (by decide) (by decide)) (by decide) rfl rfl rfl hl.1 rfl (Nat.le_of_ble_eq_true rfl) ⟨Nat.zero_le _, Nat.zero_le _⟩ dX4_rehearsal_28 (fun H locs hz hP hS => ?_)
    refine lv_if_eq (tgt := 38) hx hb dX4_rehearsal_31 (by decide) (fun c_1 => ?_) (fun c_1 => ?_)
    · have nc_1 : ¬ (0 < (mRehearsalC r h)) := of_decide_eq_false (bI_0.mp c_1)
      obtain ⟨r_2, gr_2, hr_2, er_2⟩ := e_okR (lo := 0) (hi := 2) (by decide) (by decide) rfl (by decide) (mRehearsalC_ok nc_1).1
      have nr_2 := nN_of er_2 (by omega)
      obtain ⟨h_3, gh_3, hh_3, eh_3⟩ := e_okR (lo := 8) (hi := 20) (by decide) (by decide) rfl (by decide) (mRehearsalC_ok nc_1).2
      have nh_3 := nN_of eh_3 (by omega)
      refine lv_aload_n hx hb dX4_rehearsal_38 rfl (lv_at hl 0 rfl) ?_
      refine e_getf hx hb hts inX4 hown hK hP 100 12 (hm 100 (by decide) (by decide)) (by decide) rfl rfl 14 (by decide) aw_48 (fun _ h => h) rfl dX4_rehearsal_39 ?_
      refine lv_bipush (v := 13) hx hb dX4_rehearsal_42 (by decide) ?_
      refine lv_iload_n hx hb dX4_rehearsal_44 rfl (lv_at hl 1 rfl) ?_
      refine e_nrm (y := nI r_2) er_2 ?_
      refine lv_imul hx hb dX4_rehearsal_45 ?_
      refine e_nrm (y := (nI (13 * r_2))) (pk_mul 13 r_2) ?_
      refine lv_iload_n hx hb dX4_rehearsal_46 rfl (lv_at hl 2 rfl) ?_
      refine e_nrm (y := nI h_3) eh_3 ?_
      refine lv_iadd hx hb dX4_rehearsal_47 ?_
      refine e_nrm (y := (nI ((13 * r_2) + h_3))) (nI_add (13 * r_2) h_3) ?_
      refine lv_bipush (v := 8) hx hb dX4_rehearsal_48 (by decide) ?_
      refine lv_isub hx hb dX4_rehearsal_50 ?_
      refine e_nrm (y := (nI (((13 * r_2) + h_3) - 8))) (pk_sub (a := ((13 * r_2) + h_3)) (b := 8) (by omega)) ?_
      refine e_iald hx hb hK hP 113 39 (hm 113 (by decide) (by decide)) (((13 * r_2) + h_3) - 8) rfl (by omega) (by decide) dX4_rehearsal_51 ?_
      exact hret _ _ _ _ _ _ (show ((mT v (mRehearsalC r h)) 113 (((13 * r_2) + h_3) - 8)) = mRehearsalV v r h from (by first | (simp [mRehearsalV, mT_113, bI, nc_1, nr_2, nh_3]; done) | (exfalso; simp_all; done))) (show (mT v (mRehearsalC r h)) = mT v (mRehearsalC r h) from rfl) hP hS dX4_rehearsal_52
    · have nc_1 : (0 < (mRehearsalC r h)) := of_decide_eq_true (bI_n0.mp c_1)
      refine lv_iconst (v := (-1)) hx hb dX4_rehearsal_34 (by decide) ?_
      refine lv_goto (tgt := 52) hx hb dX4_rehearsal_35 (by decide) ?_
      exact hret _ _ _ _ _ _ (show (-1) = mRehearsalV v r h from (by first | (simp [mRehearsalV, mT_113, bI, nc_1]; done) | (exfalso; simp_all; done))) (show (mT v (mRehearsalC r h)) = mT v (mRehearsalC r h) from rfl) hP hS dX4_rehearsal_52
  refine lv_aload_n hx hb dX4_rehearsal_1 rfl (lv_at hl 0 rfl) ?_
  refine lv_iload_n hx hb dX4_rehearsal_2 rfl (lv_at hl 1 rfl) ?_
  refine lv_iconst (v := 0) hx hb dX4_rehearsal_3 (by decide) ?_
  refine lv_iconst (v := 2) hx hb dX4_rehearsal_4 (by decide) ?_
  refine e_cV (As := [.int r, .int 0, .int 2]) (rest := [.ref (ad 100)]) hx hb hml hown hts 100 (c_X4_in (l := l) hm r 0 2) cw_RX4_59 (by decide) (by decide) hz hP hI hK (hm 100 (by decide) (by decide)) (by decide) rfl rfl rfl hl.1 rfl (Nat.le_of_ble_eq_true rfl) ⟨Nat.zero_le _, Nat.zero_le _⟩ dX4_rehearsal_5 ?_
  refine lv_if_eq (tgt := 27) hx hb dX4_rehearsal_8 (by decide) (fun c_4 => ?_) (fun c_4 => ?_)
  · have nc_4 : (mIn r 0 2) = false := bI_0.mp c_4
    refine lv_iconst (v := 1) hx hb dX4_rehearsal_27 (by decide) ?_
    exact e_nrm (show 1 = (mRehearsalC r h) from (by first | (simp [mRehearsalC, bI, nc_4]; done) | (exfalso; simp_all; done))) (J1_28 ls (lv_sub hl [0, 1, 2] rfl))
  · have nc_4 : (mIn r 0 2) = true := bI_n0.mp c_4
    refine lv_aload_n hx hb dX4_rehearsal_11 rfl (lv_at hl 0 rfl) ?_
    refine lv_iload_n hx hb dX4_rehearsal_12 rfl (lv_at hl 2 rfl) ?_
    refine lv_bipush (v := 8) hx hb dX4_rehearsal_13 (by decide) ?_
    refine lv_bipush (v := 20) hx hb dX4_rehearsal_15 (by decide) ?_
    refine e_cV (As := [.int h, .int 8, .int 20]) (rest := [.ref (ad 100)]) hx hb hml hown hts 100 (c_X4_in (l := l) hm h 8 20) cw_RX4_59 (by decide) (by decide) hz hP hI hK (hm 100 (by decide) (by decide)) (by decide) rfl rfl rfl hl.1 rfl (Nat.le_of_ble_eq_true rfl) ⟨Nat.zero_le _, Nat.zero_le _⟩ dX4_rehearsal_17 ?_
    refine lv_if_eq (tgt := 27) hx hb dX4_rehearsal_20 (by decide) (fun c_5 => ?_) (fun c_5 => ?_)
    · have nc_5 : (mIn h 8 20) = false := bI_0.mp c_5
      refine lv_iconst (v := 1) hx hb dX4_rehearsal_27 (by decide) ?_
      exact e_nrm (show 1 = (mRehearsalC r h) from (by first | (simp [mRehearsalC, bI, nc_4, nc_5]; done) | (exfalso; simp_all; done))) (J1_28 ls (lv_sub hl [0, 1, 2] rfl))
    · have nc_5 : (mIn h 8 20) = true := bI_n0.mp c_5
      refine lv_iconst (v := 0) hx hb dX4_rehearsal_23 (by decide) ?_
      refine lv_goto (tgt := 28) hx hb dX4_rehearsal_24 (by decide) ?_
      exact e_nrm (show 0 = (mRehearsalC r h) from (by first | (simp [mRehearsalC, bI, nc_4, nc_5]; done) | (exfalso; simp_all; done))) (J1_28 ls (lv_sub hl [0, 1, 2] rfl))

set_option maxRecDepth 100000 in
set_option maxHeartbeats 4000000 in
theorem c_X4_knees {l : Launch} {X : eD} {z0 : Nat} {ad kd sp : Nat → Nat} {v : eV} (dn ln : Nat) (hm : mK kd) (hv : mI dn ln v) (d : Int32) : eMu l yX4_knees cX4_knees 2 (some .int) 2 [.ref (ad 100), .int d] X z0 ad kd sp v (some (.int (mKneesV v dn d))) (mT v (mKneesC dn d)) := by
  refine e_mutI (by decide +kernel) (Nat.le_of_ble_eq_true rfl) rfl ?_
  intro p e s m args below meth c hx hb hml hown hts hW Q hret ls hl
  obtain ⟨hz, hP, hI, hK⟩ := hW
  have hl : lv_has ls 2 [(0, .ref (ad 100)), (1, .int d)] := hl
  have hS : va_S (e_A z0) s.heap s.heap [] := va_S.rf
  have hd8 := hv.2.2.1
  have hl12 := hv.2.2.2.1
  refine lv_aload_n hx hb dX4_knees_0 rfl (lv_at hl 0 rfl) ?_
  have J1_14 : ∀ ls : Array Slot, lv_has ls 2 [(0, .ref (ad 100)), (1, .int d)] → W p l e (e_rm 2 0 0) s m args below meth c s.heap [] 0 0 Q (F0 m 14 ls [.int (mKneesC dn d), .ref (ad 100)]) := by
    intro ls hl
    refine e_cVM (As := [.int (mKneesC dn d)]) (rest := []) hx hb hml hown hts 100 (c_X4_holds (l := l) hm (mKneesC dn d)) cw_RX4_63 (by decide) (by decide) hz hP hI hK hS (hm 100 (by decide) (by decide)) (by decide) rfl rfl rfl hl.1 rfl (Nat.le_of_ble_eq_true rfl) ⟨Nat.zero_le _, Nat.zero_le _⟩ dX4_knees_14 (fun H locs hz hP hS => ?_)
    refine lv_if_eq (tgt := 24) hx hb dX4_knees_17 (by decide) (fun c_1 => ?_) (fun c_1 => ?_)
    · have nc_1 : ¬ (0 < (mKneesC dn d)) := of_decide_eq_false (bI_0.mp c_1)
      obtain ⟨d_2, hd_2, ed_2⟩ := e_okD hd8 (mKneesC_ok nc_1)
      have nd_2 := nN_of ed_2 (by omega)
      refine lv_aload_n hx hb dX4_knees_24 rfl (lv_at hl 0 rfl) ?_
      refine e_getf hx hb hts inX4 hown hK hP 100 12 (hm 100 (by decide) (by decide)) (by decide) rfl rfl 3 (by decide) aw_76 (fun _ h => h) rfl dX4_knees_25 ?_
      refine lv_iload_n hx hb dX4_knees_28 rfl (lv_at hl 1 rfl) ?_
      refine e_nrm (y := nI d_2) ed_2 ?_
      refine e_iald hx hb hK hP 104 8 (hm 104 (by decide) (by decide)) d_2 rfl (by omega) (by decide) dX4_knees_29 ?_
      exact hret _ _ _ _ _ _ (show ((mT v (mKneesC dn d)) 104 d_2) = mKneesV v dn d from (by first | (simp [mKneesV, mT_104, bI, nc_1, nd_2]; done) | (exfalso; simp_all; done))) (show (mT v (mKneesC dn d)) = mT v (mKneesC dn d) from rfl) hP hS dX4_knees_30
    · have nc_1 : (0 < (mKneesC dn d)) := of_decide_eq_true (bI_n0.mp c_1)
      refine lv_iconst (v := (-1)) hx hb dX4_knees_20 (by decide) ?_
      refine lv_goto (tgt := 30) hx hb dX4_knees_21 (by decide) ?_
      exact hret _ _ _ _ _ _ (show (-1) = mKneesV v dn d from (by first | (simp [mKneesV, mT_104, bI, nc_1]; done) | (exfalso; simp_all; done))) (show (mT v (mKneesC dn d)) = mT v (mKneesC dn d) from rfl) hP hS dX4_knees_30
  refine lv_aload_n hx hb dX4_knees_1 rfl (lv_at hl 0 rfl) ?_
  refine lv_iload_n hx hb dX4_knees_2 rfl (lv_at hl 1 rfl) ?_
  refine e_cV (As := [.int d]) (rest := [.ref (ad 100)]) hx hb hml hown hts 100 (c_X4_isDancer (l := l) dn ln hm hv d) cw_RX4_67 (by decide) (by decide) hz hP hI hK (hm 100 (by decide) (by decide)) (by decide) rfl rfl rfl hl.1 rfl (Nat.le_of_ble_eq_true rfl) ⟨Nat.zero_le _, Nat.zero_le _⟩ dX4_knees_3 ?_
  refine lv_if_eq (tgt := 13) hx hb dX4_knees_6 (by decide) (fun c_3 => ?_) (fun c_3 => ?_)
  · have nc_3 : (mIn d 0 (nI dn - 1)) = false := bI_0.mp c_3
    refine lv_iconst (v := 1) hx hb dX4_knees_13 (by decide) ?_
    exact e_nrm (show 1 = (mKneesC dn d) from (by first | (simp [mKneesC, mOkD, bI, nc_3]; done) | (exfalso; simp_all; done))) (J1_14 ls (lv_sub hl [0, 1] rfl))
  · have nc_3 : (mIn d 0 (nI dn - 1)) = true := bI_n0.mp c_3
    refine lv_iconst (v := 0) hx hb dX4_knees_9 (by decide) ?_
    refine lv_goto (tgt := 14) hx hb dX4_knees_10 (by decide) ?_
    exact e_nrm (show 0 = (mKneesC dn d) from (by first | (simp [mKneesC, mOkD, bI, nc_3]; done) | (exfalso; simp_all; done))) (J1_14 ls (lv_sub hl [0, 1] rfl))

set_option maxRecDepth 100000 in
set_option maxHeartbeats 4000000 in
theorem c_X4_tempo {l : Launch} {X : eD} {z0 : Nat} {ad kd sp : Nat → Nat} {v : eV} (hm : mK kd) (c0 x : Int32) : eMu l yX4_tempo cX4_tempo 4 (some .int) 2 [.ref (ad 100), .int c0, .int x] X z0 ad kd sp v (some (.int (mTempoV v c0 x))) (mTempoS v c0 x) := by
  refine e_mutI (by decide +kernel) (Nat.le_of_ble_eq_true rfl) rfl ?_
  intro p e s m args below meth c hx hb hml hown hts hW Q hret ls hl
  obtain ⟨hz, hP, hI, hK⟩ := hW
  have hl : lv_has ls 4 [(0, .ref (ad 100)), (1, .int c0), (2, .int x)] := hl
  have hS : va_S (e_A z0) s.heap s.heap [] := va_S.rf
  refine lv_aload_n hx hb dX4_tempo_0 rfl (lv_at hl 0 rfl) ?_
  have J1_29 : ∀ ls : Array Slot, lv_has ls 4 [(0, .ref (ad 100)), (1, .int c0), (2, .int x)] → W p l e (e_rm 2 0 0) s m args below meth c s.heap [] 0 0 Q (F0 m 29 ls [.int (mTempoC c0 x), .ref (ad 100)]) := by
    intro ls hl
    refine e_cVM (As := [.int (mTempoC c0 x)]) (rest := []) hx hb hml hown hts 100 (c_X4_holds (l := l) hm (mTempoC c0 x)) cw_RX4_63 (by decide) (by decide) hz hP hI hK hS (hm 100 (by decide) (by decide)) (by decide) rfl rfl rfl hl.1 rfl (Nat.le_of_ble_eq_true rfl) ⟨Nat.zero_le _, Nat.zero_le _⟩ dX4_tempo_29 (fun H locs hz hP hS => ?_)
    refine lv_if_eq (tgt := 37) hx hb dX4_tempo_32 (by decide) (fun c_1 => ?_) (fun c_1 => ?_)
    · have nc_1 : ¬ (0 < (mTempoC c0 x)) := of_decide_eq_false (bI_0.mp c_1)
      obtain ⟨c_2, hc_2, ec_2⟩ := e_okC (mTempoC_ok nc_1)
      have nc_2 := nN_of ec_2 (by omega)
      refine lv_aload_n hx hb dX4_tempo_37 rfl (lv_at hl 0 rfl) ?_
      refine lv_iload_n hx hb dX4_tempo_38 rfl (lv_at hl 1 rfl) ?_
      refine e_nrm (y := nI c_2) ec_2 ?_
      refine e_cV (As := [.int (nI c_2)]) (rest := []) hx hb hml hown hts 100 (c_X4_lasts (l := l) (v := (mT v (mTempoC c0 x))) hm c_2 (by omega)) cw_RX4_105 (by decide) (by decide) hz hP hI hK (hm 100 (by decide) (by decide)) (by decide) rfl rfl rfl hl.1 rfl (Nat.le_of_ble_eq_true rfl) ⟨Nat.zero_le _, Nat.zero_le _⟩ dX4_tempo_39 ?_
      refine lv_istore_n (lv' := [(3, .int (mLast (mT v (mTempoC c0 x)) (c_2 + 1))), (0, .ref (ad 100)), (1, .int c0), (2, .int x)]) hx hb dX4_tempo_42 rfl hl (by decide) rfl (fun ls hl => ?_)
      refine lv_aload_n hx hb dX4_tempo_43 rfl (lv_at hl 1 rfl) ?_
      refine e_getf hx hb hts inX4 hown hK hP 100 12 (hm 100 (by decide) (by decide)) (by decide) rfl rfl 13 (by decide) aw_37 (fun _ h => h) rfl dX4_tempo_44 ?_
      refine lv_iload_n hx hb dX4_tempo_47 rfl (lv_at hl 2 rfl) ?_
      refine e_nrm (y := nI c_2) ec_2 ?_
      refine lv_iload_n hx hb dX4_tempo_48 rfl (lv_at hl 3 rfl) ?_
      refine e_iast hx hb hK hP hI hS 112 64 (hm 112 (by decide) (by decide)) c_2 rfl (by omega) (by omega) dX4_tempo_49 (fun H locs hz1 hP hS => ?_)
      have hz := Nat.le_trans hz (Nat.le_of_eq hz1.symm)
      refine lv_iload_n hx hb dX4_tempo_50 rfl (lv_at hl 0 rfl) ?_
      exact hret _ _ _ _ _ _ (show (mLast (mT v (mTempoC c0 x)) (c_2 + 1)) = mTempoV v c0 x from (by first | (simp [mTempoV, mLast_T, bI, nc_1, nc_2]; done) | (exfalso; simp_all; done))) (show (e_set (mT v (mTempoC c0 x)) 112 c_2 x) = mTempoS v c0 x from (by first | (simp [mTempoV, mLast_T, bI, mTempoS, nc_1, nc_2]; done) | (exfalso; simp_all; done))) hP hS dX4_tempo_51
    · have nc_1 : (0 < (mTempoC c0 x)) := of_decide_eq_true (bI_n0.mp c_1)
      refine lv_iconst (v := (-1)) hx hb dX4_tempo_35 (by decide) ?_
      exact hret _ _ _ _ _ _ (show (-1) = mTempoV v c0 x from (by first | (simp [mTempoV, mLast_T, bI, nc_1]; done) | (exfalso; simp_all; done))) (show (mT v (mTempoC c0 x)) = mTempoS v c0 x from (by first | (simp [mTempoV, mLast_T, bI, mTempoS, nc_1]; done) | (exfalso; simp_all; done))) hP hS dX4_tempo_36
  refine lv_aload_n hx hb dX4_tempo_1 rfl (lv_at hl 0 rfl) ?_
  refine lv_iload_n hx hb dX4_tempo_2 rfl (lv_at hl 1 rfl) ?_
  refine e_cV (As := [.int c0]) (rest := [.ref (ad 100)]) hx hb hml hown hts 100 (c_X4_isCount (l := l) hm c0) cw_RX4_70 (by decide) (by decide) hz hP hI hK (hm 100 (by decide) (by decide)) (by decide) rfl rfl rfl hl.1 rfl (Nat.le_of_ble_eq_true rfl) ⟨Nat.zero_le _, Nat.zero_le _⟩ dX4_tempo_3 ?_
  refine lv_if_ne (tgt := 13) hx hb dX4_tempo_6 (by decide) (fun c_3 => ?_) (fun c_3 => ?_)
  · have nc_3 : (mIn c0 0 63) = true := bI_n0.mp c_3
    refine lv_aload_n hx hb dX4_tempo_13 rfl (lv_at hl 0 rfl) ?_
    refine lv_iload_n hx hb dX4_tempo_14 rfl (lv_at hl 2 rfl) ?_
    refine lv_iconst (v := 1) hx hb dX4_tempo_15 (by decide) ?_
    refine lv_ldc hx hb hown (hts _ aw_82) dX4_tempo_16 ?_
    refine e_cV (As := [.int x, .int 1, .int 1000000000]) (rest := [.ref (ad 100)]) hx hb hml hown hts 100 (c_X4_in (l := l) hm x 1 1000000000) cw_RX4_59 (by decide) (by decide) hz hP hI hK (hm 100 (by decide) (by decide)) (by decide) rfl rfl rfl hl.1 rfl (Nat.le_of_ble_eq_true rfl) ⟨Nat.zero_le _, Nat.zero_le _⟩ dX4_tempo_18 ?_
    refine lv_if_eq (tgt := 28) hx hb dX4_tempo_21 (by decide) (fun c_4 => ?_) (fun c_4 => ?_)
    · have nc_4 : (mIn x 1 1000000000) = false := bI_0.mp c_4
      refine lv_iconst (v := 2) hx hb dX4_tempo_28 (by decide) ?_
      exact e_nrm (show 2 = (mTempoC c0 x) from (by first | (simp [mTempoC, mOkC, bI, nc_3, nc_4]; done) | (exfalso; simp_all; done))) (J1_29 ls (lv_sub hl [0, 1, 2] rfl))
    · have nc_4 : (mIn x 1 1000000000) = true := bI_n0.mp c_4
      refine lv_iconst (v := 0) hx hb dX4_tempo_24 (by decide) ?_
      refine lv_goto (tgt := 29) hx hb dX4_tempo_25 (by decide) ?_
      exact e_nrm (show 0 = (mTempoC c0 x) from (by first | (simp [mTempoC, mOkC, bI, nc_3, nc_4]; done) | (exfalso; simp_all; done))) (J1_29 ls (lv_sub hl [0, 1, 2] rfl))
  · have nc_3 : (mIn c0 0 63) = false := bI_0.mp c_3
    refine lv_iconst (v := 1) hx hb dX4_tempo_9 (by decide) ?_
    refine lv_goto (tgt := 29) hx hb dX4_tempo_10 (by decide) ?_
    exact e_nrm (show 1 = (mTempoC c0 x) from (by first | (simp [mTempoC, mOkC, bI, nc_3]; done) | (exfalso; simp_all; done))) (J1_29 ls (lv_sub hl [0, 1, 2] rfl))

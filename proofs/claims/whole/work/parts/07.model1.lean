theorem aw_0 : Cond.fieldLink RX4 56 "StepscriptModel" "dancers" "I" ∈ AW := aw_of (List.mem_of_getElem? (i := 723) (by decide +kernel)) (by decide +kernel)
theorem aw_1 : Cond.methodLink RX4 59 yX4_in ∈ AW := aw_of (List.mem_of_getElem? (i := 779) (by decide +kernel)) (by decide +kernel)
theorem aw_2 : Cond.instanceMethod yX4_in ∈ AW := aw_of (List.mem_of_getElem? (i := 781) (by decide +kernel)) (by decide +kernel)
theorem aw_3 : Cond.selects RX4 yX4_in yX4_in ∈ AW := aw_of (List.mem_of_getElem? (i := 24) (by decide +kernel)) (by decide +kernel)
theorem aw_4 : Cond.initialized RX4 ∈ AW := aw_of (List.mem_of_getElem? (i := 49) (by decide +kernel)) (by decide +kernel)
set_option maxRecDepth 100000 in
theorem aw_5 : Cond.code yX4_in cX4_in 4 (some .boolean) ∈ AW := aw_of (List.mem_of_getElem? (i := 782) rfl) (by decide +kernel)
theorem cw_RX4_59 : e_cwV RX4 59 RX4 yX4_in cX4_in 4 (some .boolean) 3 := ⟨aw_1, aw_2, aw_3, aw_4, aw_5, rfl, by decide +kernel, by decide +kernel, by decide +kernel⟩
theorem aw_7 : Cond.fieldLink RX4 7 "StepscriptModel" "first" "[I" ∈ AW := aw_of (List.mem_of_getElem? (i := 719) (by decide +kernel)) (by decide +kernel)
theorem aw_8 : Cond.fieldLink RX4 22 "StepscriptModel" "mx" "[I" ∈ AW := aw_of (List.mem_of_getElem? (i := 724) (by decide +kernel)) (by decide +kernel)
theorem aw_9 : Cond.fieldLink RX4 13 "StepscriptModel" "second" "[I" ∈ AW := aw_of (List.mem_of_getElem? (i := 720) (by decide +kernel)) (by decide +kernel)
theorem aw_10 : Cond.fieldLink RX4 25 "StepscriptModel" "my" "[I" ∈ AW := aw_of (List.mem_of_getElem? (i := 725) (by decide +kernel)) (by decide +kernel)
theorem aw_11 : Cond.methodLink RX4 77 yX4_x ∈ AW := aw_of (List.mem_of_getElem? (i := 807) (by decide +kernel)) (by decide +kernel)
theorem aw_12 : Cond.instanceMethod yX4_x ∈ AW := aw_of (List.mem_of_getElem? (i := 809) (by decide +kernel)) (by decide +kernel)
theorem aw_13 : Cond.selects RX4 yX4_x yX4_x ∈ AW := aw_of (List.mem_of_getElem? (i := 29) (by decide +kernel)) (by decide +kernel)
set_option maxRecDepth 100000 in
theorem aw_14 : Cond.code yX4_x cX4_x 5 (some .int) ∈ AW := aw_of (List.mem_of_getElem? (i := 810) rfl) (by decide +kernel)
theorem cw_RX4_77 : e_cwV RX4 77 RX4 yX4_x cX4_x 5 (some .int) 2 := ⟨aw_11, aw_12, aw_13, aw_4, aw_14, rfl, by decide +kernel, by decide +kernel, by decide +kernel⟩
theorem aw_16 : Cond.methodLink RX4 73 yX4_y ∈ AW := aw_of (List.mem_of_getElem? (i := 803) (by decide +kernel)) (by decide +kernel)
theorem aw_17 : Cond.instanceMethod yX4_y ∈ AW := aw_of (List.mem_of_getElem? (i := 805) (by decide +kernel)) (by decide +kernel)
theorem aw_18 : Cond.selects RX4 yX4_y yX4_y ∈ AW := aw_of (List.mem_of_getElem? (i := 28) (by decide +kernel)) (by decide +kernel)
set_option maxRecDepth 100000 in
theorem aw_19 : Cond.code yX4_y cX4_y 5 (some .int) ∈ AW := aw_of (List.mem_of_getElem? (i := 806) rfl) (by decide +kernel)
theorem cw_RX4_73 : e_cwV RX4 73 RX4 yX4_y cX4_y 5 (some .int) 2 := ⟨aw_16, aw_17, aw_18, aw_4, aw_19, rfl, by decide +kernel, by decide +kernel, by decide +kernel⟩
theorem aw_21 : Cond.fieldLink RX4 31 "StepscriptModel" "ll" "[I" ∈ AW := aw_of (List.mem_of_getElem? (i := 727) (by decide +kernel)) (by decide +kernel)
theorem aw_22 : Cond.fieldLink RX4 34 "StepscriptModel" "la" "[I" ∈ AW := aw_of (List.mem_of_getElem? (i := 728) (by decide +kernel)) (by decide +kernel)
theorem aw_23 : Cond.fieldLink RX4 37 "StepscriptModel" "lb" "[I" ∈ AW := aw_of (List.mem_of_getElem? (i := 729) (by decide +kernel)) (by decide +kernel)
theorem aw_24 : Cond.fieldLink RX4 88 "StepscriptModel" "lifts" "I" ∈ AW := aw_of (List.mem_of_getElem? (i := 731) (by decide +kernel)) (by decide +kernel)
theorem aw_25 : Cond.fieldLink RX4 40 "StepscriptModel" "lg" "[I" ∈ AW := aw_of (List.mem_of_getElem? (i := 730) (by decide +kernel)) (by decide +kernel)
theorem aw_26 : Cond.fieldLink RX4 28 "StepscriptModel" "lc" "[I" ∈ AW := aw_of (List.mem_of_getElem? (i := 726) (by decide +kernel)) (by decide +kernel)
theorem aw_27 : Cond.methodLink RX4 91 yX4_isOf ∈ AW := aw_of (List.mem_of_getElem? (i := 851) (by decide +kernel)) (by decide +kernel)
theorem aw_28 : Cond.instanceMethod yX4_isOf ∈ AW := aw_of (List.mem_of_getElem? (i := 853) (by decide +kernel)) (by decide +kernel)
theorem aw_29 : Cond.selects RX4 yX4_isOf yX4_isOf ∈ AW := aw_of (List.mem_of_getElem? (i := 35) (by decide +kernel)) (by decide +kernel)
set_option maxRecDepth 100000 in
theorem aw_30 : Cond.code yX4_isOf cX4_isOf 3 (some .boolean) ∈ AW := aw_of (List.mem_of_getElem? (i := 854) rfl) (by decide +kernel)
theorem cw_RX4_91 : e_cwV RX4 91 RX4 yX4_isOf cX4_isOf 3 (some .boolean) 2 := ⟨aw_27, aw_28, aw_29, aw_4, aw_30, rfl, by decide +kernel, by decide +kernel, by decide +kernel⟩
theorem aw_32 : Cond.methodLink RX4 80 yX4_isAt ∈ AW := aw_of (List.mem_of_getElem? (i := 823) (by decide +kernel)) (by decide +kernel)
theorem aw_33 : Cond.instanceMethod yX4_isAt ∈ AW := aw_of (List.mem_of_getElem? (i := 825) (by decide +kernel)) (by decide +kernel)
theorem aw_34 : Cond.selects RX4 yX4_isAt yX4_isAt ∈ AW := aw_of (List.mem_of_getElem? (i := 31) (by decide +kernel)) (by decide +kernel)
set_option maxRecDepth 100000 in
theorem aw_35 : Cond.code yX4_isAt cX4_isAt 5 (some .boolean) ∈ AW := aw_of (List.mem_of_getElem? (i := 826) rfl) (by decide +kernel)
theorem cw_RX4_80 : e_cwV RX4 80 RX4 yX4_isAt cX4_isAt 5 (some .boolean) 4 := ⟨aw_32, aw_33, aw_34, aw_4, aw_35, rfl, by decide +kernel, by decide +kernel, by decide +kernel⟩
theorem aw_37 : Cond.fieldLink RX4 43 "StepscriptModel" "told" "[I" ∈ AW := aw_of (List.mem_of_getElem? (i := 732) (by decide +kernel)) (by decide +kernel)
theorem aw_38 : Cond.methodLink RX4 110 yX4_flat ∈ AW := aw_of (List.mem_of_getElem? (i := 877) (by decide +kernel)) (by decide +kernel)
theorem aw_39 : Cond.instanceMethod yX4_flat ∈ AW := aw_of (List.mem_of_getElem? (i := 879) (by decide +kernel)) (by decide +kernel)
theorem aw_40 : Cond.selects RX4 yX4_flat yX4_flat ∈ AW := aw_of (List.mem_of_getElem? (i := 38) (by decide +kernel)) (by decide +kernel)
set_option maxRecDepth 100000 in
theorem aw_41 : Cond.code yX4_flat cX4_flat 2 (some .int) ∈ AW := aw_of (List.mem_of_getElem? (i := 880) rfl) (by decide +kernel)
theorem cw_RX4_110 : e_cwV RX4 110 RX4 yX4_flat cX4_flat 2 (some .int) 1 := ⟨aw_38, aw_39, aw_40, aw_4, aw_41, rfl, by decide +kernel, by decide +kernel, by decide +kernel⟩
theorem aw_43 : Cond.methodLink RX4 98 yX4_liftsOf ∈ AW := aw_of (List.mem_of_getElem? (i := 847) (by decide +kernel)) (by decide +kernel)
theorem aw_44 : Cond.instanceMethod yX4_liftsOf ∈ AW := aw_of (List.mem_of_getElem? (i := 849) (by decide +kernel)) (by decide +kernel)
theorem aw_45 : Cond.selects RX4 yX4_liftsOf yX4_liftsOf ∈ AW := aw_of (List.mem_of_getElem? (i := 34) (by decide +kernel)) (by decide +kernel)
set_option maxRecDepth 100000 in
theorem aw_46 : Cond.code yX4_liftsOf cX4_liftsOf 5 (some .int) ∈ AW := aw_of (List.mem_of_getElem? (i := 850) rfl) (by decide +kernel)
theorem cw_RX4_98 : e_cwV RX4 98 RX4 yX4_liftsOf cX4_liftsOf 5 (some .int) 2 := ⟨aw_43, aw_44, aw_45, aw_4, aw_46, rfl, by decide +kernel, by decide +kernel, by decide +kernel⟩
theorem aw_48 : Cond.fieldLink RX4 46 "StepscriptModel" "taken" "[I" ∈ AW := aw_of (List.mem_of_getElem? (i := 733) (by decide +kernel)) (by decide +kernel)
theorem aw_49 : Cond.fieldLink RX4 16 "StepscriptModel" "out" "[I" ∈ AW := aw_of (List.mem_of_getElem? (i := 721) (by decide +kernel)) (by decide +kernel)
theorem aw_50 : Cond.methodLink RX4 95 yX4_isBeside ∈ AW := aw_of (List.mem_of_getElem? (i := 843) (by decide +kernel)) (by decide +kernel)
theorem aw_51 : Cond.instanceMethod yX4_isBeside ∈ AW := aw_of (List.mem_of_getElem? (i := 845) (by decide +kernel)) (by decide +kernel)
theorem aw_52 : Cond.selects RX4 yX4_isBeside yX4_isBeside ∈ AW := aw_of (List.mem_of_getElem? (i := 33) (by decide +kernel)) (by decide +kernel)
set_option maxRecDepth 100000 in
theorem aw_53 : Cond.code yX4_isBeside cX4_isBeside 4 (some .boolean) ∈ AW := aw_of (List.mem_of_getElem? (i := 846) rfl) (by decide +kernel)
theorem cw_RX4_95 : e_cwV RX4 95 RX4 yX4_isBeside cX4_isBeside 4 (some .boolean) 3 := ⟨aw_50, aw_51, aw_52, aw_4, aw_53, rfl, by decide +kernel, by decide +kernel, by decide +kernel⟩
set_option maxRecDepth 100000 in
set_option maxHeartbeats 4000000 in
theorem c_X4_in {l : Launch} {X : eD} {z0 : Nat} {ad kd sp : Nat → Nat} {v : eV} (hm : mK kd) (x lo hi : Int32) : ePu l yX4_in cX4_in 4 (some .boolean) 0 [.ref (ad 100), .int x, .int lo, .int hi] (e_W X z0 ad kd sp v) (some (.int (bI (mIn x lo hi)))) := by
  refine e_pureI (by decide +kernel) (Nat.le_of_ble_eq_true rfl) (bI_nar _) ?_
  intro p e s m args below meth c hx hb hml hown hts hW Q hret ls hl
  obtain ⟨hz, hP, hI, hK⟩ := hW
  have hl : lv_has ls 4 [(0, .ref (ad 100)), (1, .int x), (2, .int lo), (3, .int hi)] := hl
  refine lv_iload_n hx hb dX4_in_0 rfl (lv_at hl 1 rfl) ?_
  refine lv_iload_n hx hb dX4_in_1 rfl (lv_at hl 2 rfl) ?_
  refine lv_icmp_lt (tgt := 14) hx hb dX4_in_2 (by decide) (fun c_1 => ?_) (fun c_1 => ?_)
  · skip
    refine lv_iconst (v := 0) hx hb dX4_in_14 (by decide) ?_
    exact e_nrm (show 0 = bI (mIn x lo hi) from (by first | (simp [mIn, bI, c_1]; done) | (exfalso; simp_all; done))) (hret _ _ dX4_in_15)
  · skip
    refine lv_iload_n hx hb dX4_in_5 rfl (lv_at hl 1 rfl) ?_
    refine lv_iload_n hx hb dX4_in_6 rfl (lv_at hl 3 rfl) ?_
    refine lv_icmp_gt (tgt := 14) hx hb dX4_in_7 (by decide) (fun c_2 => ?_) (fun c_2 => ?_)
    · skip
      refine lv_iconst (v := 0) hx hb dX4_in_14 (by decide) ?_
      exact e_nrm (show 0 = bI (mIn x lo hi) from (by first | (simp [mIn, bI, c_1, c_2]; done) | (exfalso; simp_all; done))) (hret _ _ dX4_in_15)
    · skip
      refine lv_iconst (v := 1) hx hb dX4_in_10 (by decide) ?_
      refine lv_goto (tgt := 15) hx hb dX4_in_11 (by decide) ?_
      exact e_nrm (show 1 = bI (mIn x lo hi) from (by first | (simp [mIn, bI, c_1, c_2]; done) | (exfalso; simp_all; done))) (hret _ _ dX4_in_15)

set_option maxRecDepth 100000 in
set_option maxHeartbeats 4000000 in
theorem c_X4_isDancer {l : Launch} {X : eD} {z0 : Nat} {ad kd sp : Nat → Nat} {v : eV} (dn ln : Nat) (hm : mK kd) (hv : mI dn ln v) (d : Int32) : ePu l yX4_isDancer cX4_isDancer 2 (some .boolean) 1 [.ref (ad 100), .int d] (e_W X z0 ad kd sp v) (some (.int (bI (mIn d 0 (nI dn - 1))))) := by
  refine e_pureI (by decide +kernel) (Nat.le_of_ble_eq_true rfl) (bI_nar _) ?_
  intro p e s m args below meth c hx hb hml hown hts hW Q hret ls hl
  obtain ⟨hz, hP, hI, hK⟩ := hW
  have hl : lv_has ls 2 [(0, .ref (ad 100)), (1, .int d)] := hl
  refine lv_aload_n hx hb dX4_isDancer_0 rfl (lv_at hl 0 rfl) ?_
  refine lv_iload_n hx hb dX4_isDancer_1 rfl (lv_at hl 1 rfl) ?_
  refine lv_iconst (v := 0) hx hb dX4_isDancer_2 (by decide) ?_
  refine lv_aload_n hx hb dX4_isDancer_3 rfl (lv_at hl 0 rfl) ?_
  refine e_getf hx hb hts inX4 hown hK hP 100 12 (hm 100 (by decide) (by decide)) (by decide) rfl rfl 4 (by decide) aw_0 (fun _ h => h) rfl dX4_isDancer_4 ?_
  refine e_nrm (y := nI dn) (hv.1) ?_
  refine lv_iconst (v := 1) hx hb dX4_isDancer_7 (by decide) ?_
  refine lv_isub hx hb dX4_isDancer_8 ?_
  refine e_cV (As := [.int d, .int 0, .int ((nI dn) - 1)]) (rest := []) hx hb hml hown hts 100 (c_X4_in (l := l) hm d 0 ((nI dn) - 1)) cw_RX4_59 (by decide) (by decide) hz hP hI hK (hm 100 (by decide) (by decide)) (by decide) rfl rfl rfl hl.1 rfl (Nat.le_of_ble_eq_true rfl) ⟨Nat.zero_le _, Nat.zero_le _⟩ dX4_isDancer_9 ?_
  exact e_nrm (show (bI (mIn d 0 ((nI dn) - 1))) = bI (mIn d 0 (nI dn - 1)) from (by first | (simp [bI]; done) | (exfalso; simp_all; done))) (hret _ _ dX4_isDancer_12)

set_option maxRecDepth 100000 in
set_option maxHeartbeats 4000000 in
theorem c_X4_isCount {l : Launch} {X : eD} {z0 : Nat} {ad kd sp : Nat → Nat} {v : eV} (hm : mK kd) (c0 : Int32) : ePu l yX4_isCount cX4_isCount 2 (some .boolean) 1 [.ref (ad 100), .int c0] (e_W X z0 ad kd sp v) (some (.int (bI (mIn c0 0 63)))) := by
  refine e_pureI (by decide +kernel) (Nat.le_of_ble_eq_true rfl) (bI_nar _) ?_
  intro p e s m args below meth c hx hb hml hown hts hW Q hret ls hl
  obtain ⟨hz, hP, hI, hK⟩ := hW
  have hl : lv_has ls 2 [(0, .ref (ad 100)), (1, .int c0)] := hl
  refine lv_aload_n hx hb dX4_isCount_0 rfl (lv_at hl 0 rfl) ?_
  refine lv_iload_n hx hb dX4_isCount_1 rfl (lv_at hl 1 rfl) ?_
  refine lv_iconst (v := 0) hx hb dX4_isCount_2 (by decide) ?_
  refine lv_bipush (v := 63) hx hb dX4_isCount_3 (by decide) ?_
  refine e_cV (As := [.int c0, .int 0, .int 63]) (rest := []) hx hb hml hown hts 100 (c_X4_in (l := l) hm c0 0 63) cw_RX4_59 (by decide) (by decide) hz hP hI hK (hm 100 (by decide) (by decide)) (by decide) rfl rfl rfl hl.1 rfl (Nat.le_of_ble_eq_true rfl) ⟨Nat.zero_le _, Nat.zero_le _⟩ dX4_isCount_5 ?_
  exact e_nrm (show (bI (mIn c0 0 63)) = bI (mIn c0 0 63) from (by first | (simp [bI]; done) | (exfalso; simp_all; done))) (hret _ _ dX4_isCount_8)

set_option maxRecDepth 100000 in
set_option maxHeartbeats 4000000 in
theorem c_X4_x {l : Launch} {X : eD} {z0 : Nat} {ad kd sp : Nat → Nat} {v : eV} (hm : mK kd) (d n : Nat) (ci : Int32) (hd : d < 8) (hn : n ≤ 64) (hc : ci + 1 = nI n) : ePu l yX4_x cX4_x 5 (some .int) 0 [.ref (ad 100), .int (nI d), .int ci] (e_W X z0 ad kd sp v) (some (.int (mX v d n))) := by
  refine e_pureI (by decide +kernel) (Nat.le_of_ble_eq_true rfl) rfl ?_
  intro p e s m args below meth c hx hb hml hown hts hW Q hret ls hl
  obtain ⟨hz, hP, hI, hK⟩ := hW
  have hl : lv_has ls 5 [(0, .ref (ad 100)), (1, .int (nI d)), (2, .int ci)] := hl
  refine lv_aload_n hx hb dX4_x_0 rfl (lv_at hl 0 rfl) ?_
  refine e_getf hx hb hts inX4 hown hK hP 100 12 (hm 100 (by decide) (by decide)) (by decide) rfl rfl 0 (by decide) aw_7 (fun _ h => h) rfl dX4_x_1 ?_
  refine lv_iload_n hx hb dX4_x_4 rfl (lv_at hl 1 rfl) ?_
  refine e_iald hx hb hK hP 101 8 (hm 101 (by decide) (by decide)) d rfl (by omega) (by decide) dX4_x_5 ?_
  refine lv_istore_n (lv' := [(3, .int (v 101 d)), (0, .ref (ad 100)), (1, .int (nI d)), (2, .int ci)]) hx hb dX4_x_6 rfl hl (by decide) rfl (fun ls hl => ?_)
  refine lv_bipush (v := 64) hx hb dX4_x_7 (by decide) ?_
  refine lv_iload_n hx hb dX4_x_9 rfl (lv_at hl 2 rfl) ?_
  refine lv_imul hx hb dX4_x_10 ?_
  refine e_nrm (y := (nI (64 * d))) (pk_mul 64 d) ?_
  refine lv_istore (lv' := [(4, .int (nI (64 * d))), (3, .int (v 101 d)), (0, .ref (ad 100)), (1, .int (nI d)), (2, .int ci)]) hx hb dX4_x_11 hl (by decide) rfl (fun ls hl => ?_)
  have L13 : ∀ (k13 : Nat) (i : Nat) (x3 : Int32), n - i < k13 → (i ≤ n) → (x3 = v 101 d + sumN (fun j => v 105 (64 * d + j)) i) →  ∀ ls : Array Slot, lv_has ls 5 [(4, .int (nI (64 * d + i))), (3, .int x3), (0, .ref (ad 100)), (1, .int (nI d)), (2, .int ci)] → W p l e (e_rm 0 0 0) s m args below meth c s.heap [] 0 0 Q (F0 m 13 ls []) := by
    intro k13
    induction k13 with
    | zero => intro i x3 hk; exact absurd hk (Nat.not_lt_zero _)
    | succ k13 ih13 =>
      intro i x3 hk13 hi ex3 ls hl
      refine lv_iload hx hb dX4_x_13 (lv_at hl 0 rfl) ?_
      refine lv_bipush (v := 64) hx hb dX4_x_15 (by decide) ?_
      refine lv_iload_n hx hb dX4_x_17 rfl (lv_at hl 3 rfl) ?_
      refine lv_imul hx hb dX4_x_18 ?_
      refine e_nrm (y := (nI (64 * d))) (pk_mul 64 d) ?_
      refine lv_iload_n hx hb dX4_x_19 rfl (lv_at hl 4 rfl) ?_
      refine lv_iadd hx hb dX4_x_20 ?_
      refine lv_icmp_gt (tgt := 40) hx hb dX4_x_21 (by decide) (fun c_1 => ?_) (fun c_1 => ?_)
      · have nc_1 : n ≤ i := (e_xc hc (by omega) (by omega) (by omega)).mp c_1
        refine lv_iload_n hx hb dX4_x_40 rfl (lv_at hl 1 rfl) ?_
        exact e_nrm (show x3 = mX v d n from by rw [ex3, show i = n by omega]; rfl) (hret _ _ dX4_x_41)
      · have nc_1 : ¬ n ≤ i := fun h => c_1 ((e_xc hc (by omega) (by omega) (by omega)).mpr h)
        refine lv_iload_n hx hb dX4_x_24 rfl (lv_at hl 1 rfl) ?_
        refine lv_aload_n hx hb dX4_x_25 rfl (lv_at hl 2 rfl) ?_
        refine e_getf hx hb hts inX4 hown hK hP 100 12 (hm 100 (by decide) (by decide)) (by decide) rfl rfl 5 (by decide) aw_8 (fun _ h => h) rfl dX4_x_26 ?_
        refine lv_iload hx hb dX4_x_29 (lv_at hl 0 rfl) ?_
        refine e_iald hx hb hK hP 105 512 (hm 105 (by decide) (by decide)) (64 * d + i) rfl (by omega) (by decide) dX4_x_31 ?_
        refine lv_iadd hx hb dX4_x_32 ?_
        refine lv_istore_n (lv' := [(3, .int (x3 + (v 105 (64 * d + i)))), (4, .int (nI (64 * d + i))), (0, .ref (ad 100)), (1, .int (nI d)), (2, .int ci)]) hx hb dX4_x_33 rfl hl (by decide) rfl (fun ls hl => ?_)
        refine lv_iinc (v := (nI ((64 * d + i) + 1))) (lv' := [(4, .int (nI ((64 * d + i) + 1))), (3, .int (x3 + (v 105 (64 * d + i)))), (0, .ref (ad 100)), (1, .int (nI d)), (2, .int ci)]) hx hb dX4_x_34 hl (k := 1) rfl (nI_add (64 * d + i) 1) (by decide) rfl (fun ls hl => ?_)
        refine lv_goto (tgt := 13) hx hb dX4_x_37 (by decide) ?_
        exact ih13 (i + 1) (x3 + (v 105 (64 * d + i))) (by omega) (by omega) (by rw [ex3, Int32.add_assoc]; rfl)  ls (lv_sub hl [0, 1, 2, 3, 4] rfl)
  exact L13 _ 0 (v 101 d) (Nat.lt_succ_self _) (Nat.zero_le _) (by show _ = _ + 0; rw [Int32.add_zero])  ls (lv_sub hl [0, 1, 2, 3, 4] rfl)

set_option maxRecDepth 100000 in
set_option maxHeartbeats 4000000 in
theorem c_X4_y {l : Launch} {X : eD} {z0 : Nat} {ad kd sp : Nat → Nat} {v : eV} (hm : mK kd) (d n : Nat) (ci : Int32) (hd : d < 8) (hn : n ≤ 64) (hc : ci + 1 = nI n) : ePu l yX4_y cX4_y 5 (some .int) 0 [.ref (ad 100), .int (nI d), .int ci] (e_W X z0 ad kd sp v) (some (.int (mY v d n))) := by
  refine e_pureI (by decide +kernel) (Nat.le_of_ble_eq_true rfl) rfl ?_
  intro p e s m args below meth c hx hb hml hown hts hW Q hret ls hl
  obtain ⟨hz, hP, hI, hK⟩ := hW
  have hl : lv_has ls 5 [(0, .ref (ad 100)), (1, .int (nI d)), (2, .int ci)] := hl
  refine lv_aload_n hx hb dX4_y_0 rfl (lv_at hl 0 rfl) ?_
  refine e_getf hx hb hts inX4 hown hK hP 100 12 (hm 100 (by decide) (by decide)) (by decide) rfl rfl 1 (by decide) aw_9 (fun _ h => h) rfl dX4_y_1 ?_
  refine lv_iload_n hx hb dX4_y_4 rfl (lv_at hl 1 rfl) ?_
  refine e_iald hx hb hK hP 102 8 (hm 102 (by decide) (by decide)) d rfl (by omega) (by decide) dX4_y_5 ?_
  refine lv_istore_n (lv' := [(3, .int (v 102 d)), (0, .ref (ad 100)), (1, .int (nI d)), (2, .int ci)]) hx hb dX4_y_6 rfl hl (by decide) rfl (fun ls hl => ?_)
  refine lv_bipush (v := 64) hx hb dX4_y_7 (by decide) ?_
  refine lv_iload_n hx hb dX4_y_9 rfl (lv_at hl 2 rfl) ?_
  refine lv_imul hx hb dX4_y_10 ?_
  refine e_nrm (y := (nI (64 * d))) (pk_mul 64 d) ?_
  refine lv_istore (lv' := [(4, .int (nI (64 * d))), (3, .int (v 102 d)), (0, .ref (ad 100)), (1, .int (nI d)), (2, .int ci)]) hx hb dX4_y_11 hl (by decide) rfl (fun ls hl => ?_)
  have L13 : ∀ (k13 : Nat) (i : Nat) (x3 : Int32), n - i < k13 → (i ≤ n) → (x3 = v 102 d + sumN (fun j => v 106 (64 * d + j)) i) →  ∀ ls : Array Slot, lv_has ls 5 [(4, .int (nI (64 * d + i))), (3, .int x3), (0, .ref (ad 100)), (1, .int (nI d)), (2, .int ci)] → W p l e (e_rm 0 0 0) s m args below meth c s.heap [] 0 0 Q (F0 m 13 ls []) := by
    intro k13
    induction k13 with
    | zero => intro i x3 hk; exact absurd hk (Nat.not_lt_zero _)
    | succ k13 ih13 =>
      intro i x3 hk13 hi ex3 ls hl
      refine lv_iload hx hb dX4_y_13 (lv_at hl 0 rfl) ?_
      refine lv_bipush (v := 64) hx hb dX4_y_15 (by decide) ?_
      refine lv_iload_n hx hb dX4_y_17 rfl (lv_at hl 3 rfl) ?_
      refine lv_imul hx hb dX4_y_18 ?_
      refine e_nrm (y := (nI (64 * d))) (pk_mul 64 d) ?_
      refine lv_iload_n hx hb dX4_y_19 rfl (lv_at hl 4 rfl) ?_
      refine lv_iadd hx hb dX4_y_20 ?_
      refine lv_icmp_gt (tgt := 40) hx hb dX4_y_21 (by decide) (fun c_1 => ?_) (fun c_1 => ?_)
      · have nc_1 : n ≤ i := (e_xc hc (by omega) (by omega) (by omega)).mp c_1
        refine lv_iload_n hx hb dX4_y_40 rfl (lv_at hl 1 rfl) ?_
        exact e_nrm (show x3 = mY v d n from by rw [ex3, show i = n by omega]; rfl) (hret _ _ dX4_y_41)
      · have nc_1 : ¬ n ≤ i := fun h => c_1 ((e_xc hc (by omega) (by omega) (by omega)).mpr h)
        refine lv_iload_n hx hb dX4_y_24 rfl (lv_at hl 1 rfl) ?_
        refine lv_aload_n hx hb dX4_y_25 rfl (lv_at hl 2 rfl) ?_
        refine e_getf hx hb hts inX4 hown hK hP 100 12 (hm 100 (by decide) (by decide)) (by decide) rfl rfl 6 (by decide) aw_10 (fun _ h => h) rfl dX4_y_26 ?_
        refine lv_iload hx hb dX4_y_29 (lv_at hl 0 rfl) ?_
        refine e_iald hx hb hK hP 106 512 (hm 106 (by decide) (by decide)) (64 * d + i) rfl (by omega) (by decide) dX4_y_31 ?_
        refine lv_iadd hx hb dX4_y_32 ?_
        refine lv_istore_n (lv' := [(3, .int (x3 + (v 106 (64 * d + i)))), (4, .int (nI (64 * d + i))), (0, .ref (ad 100)), (1, .int (nI d)), (2, .int ci)]) hx hb dX4_y_33 rfl hl (by decide) rfl (fun ls hl => ?_)
        refine lv_iinc (v := (nI ((64 * d + i) + 1))) (lv' := [(4, .int (nI ((64 * d + i) + 1))), (3, .int (x3 + (v 106 (64 * d + i)))), (0, .ref (ad 100)), (1, .int (nI d)), (2, .int ci)]) hx hb dX4_y_34 hl (k := 1) rfl (nI_add (64 * d + i) 1) (by decide) rfl (fun ls hl => ?_)
        refine lv_goto (tgt := 13) hx hb dX4_y_37 (by decide) ?_
        exact ih13 (i + 1) (x3 + (v 106 (64 * d + i))) (by omega) (by omega) (by rw [ex3, Int32.add_assoc]; rfl)  ls (lv_sub hl [0, 1, 2, 3, 4] rfl)
  exact L13 _ 0 (v 102 d) (Nat.lt_succ_self _) (Nat.zero_le _) (by show _ = _ + 0; rw [Int32.add_zero])  ls (lv_sub hl [0, 1, 2, 3, 4] rfl)

set_option maxRecDepth 100000 in
set_option maxHeartbeats 4000000 in
theorem c_X4_isAt {l : Launch} {X : eD} {z0 : Nat} {ad kd sp : Nat → Nat} {v : eV} (hm : mK kd) (d n e0 k : Nat) (ci ki : Int32) (hd : d < 8) (hn : n ≤ 64) (hc : ci + 1 = nI n) (he : e0 < 8) (hkn : k ≤ 64) (hk : ki + 1 = nI k) : ePu l yX4_isAt cX4_isAt 5 (some .boolean) 1 [.ref (ad 100), .int (nI d), .int ci, .int (nI e0), .int ki] (e_W X z0 ad kd sp v) (some (.int (bI (mAt v d n e0 k)))) := by
  refine e_pureI (by decide +kernel) (Nat.le_of_ble_eq_true rfl) (bI_nar _) ?_
  intro p e s m args below meth c hx hb hml hown hts hW Q hret ls hl
  obtain ⟨hz, hP, hI, hK⟩ := hW
  have hl : lv_has ls 5 [(0, .ref (ad 100)), (1, .int (nI d)), (2, .int ci), (3, .int (nI e0)), (4, .int ki)] := hl
  refine lv_aload_n hx hb dX4_isAt_0 rfl (lv_at hl 0 rfl) ?_
  refine lv_iload_n hx hb dX4_isAt_1 rfl (lv_at hl 1 rfl) ?_
  refine lv_iload_n hx hb dX4_isAt_2 rfl (lv_at hl 2 rfl) ?_
  refine e_cV (As := [.int (nI d), .int ci]) (rest := []) hx hb hml hown hts 100 (c_X4_x (l := l) hm d n ci (by omega) (by omega) (hc)) cw_RX4_77 (by decide) (by decide) hz hP hI hK (hm 100 (by decide) (by decide)) (by decide) rfl rfl rfl hl.1 rfl (Nat.le_of_ble_eq_true rfl) ⟨Nat.zero_le _, Nat.zero_le _⟩ dX4_isAt_3 ?_
  refine lv_aload_n hx hb dX4_isAt_6 rfl (lv_at hl 0 rfl) ?_
  refine lv_iload_n hx hb dX4_isAt_7 rfl (lv_at hl 3 rfl) ?_
  refine lv_iload hx hb dX4_isAt_8 (lv_at hl 4 rfl) ?_
  refine e_cV (As := [.int (nI e0), .int ki]) (rest := [.int (mX v d n)]) hx hb hml hown hts 100 (c_X4_x (l := l) hm e0 k ki (by omega) (by omega) (hk)) cw_RX4_77 (by decide) (by decide) hz hP hI hK (hm 100 (by decide) (by decide)) (by decide) rfl rfl rfl hl.1 rfl (Nat.le_of_ble_eq_true rfl) ⟨Nat.zero_le _, Nat.zero_le _⟩ dX4_isAt_10 ?_
  refine lv_icmp_ne (tgt := 36) hx hb dX4_isAt_13 (by decide) (fun c_1 => ?_) (fun c_1 => ?_)
  · skip
    refine lv_iconst (v := 0) hx hb dX4_isAt_36 (by decide) ?_
    exact e_nrm (show 0 = bI (mAt v d n e0 k) from (by first | (simp [mAt, bI, eq_false c_1]; done) | (exfalso; simp_all; done))) (hret _ _ dX4_isAt_37)
  · skip
    refine lv_aload_n hx hb dX4_isAt_16 rfl (lv_at hl 0 rfl) ?_
    refine lv_iload_n hx hb dX4_isAt_17 rfl (lv_at hl 1 rfl) ?_
    refine lv_iload_n hx hb dX4_isAt_18 rfl (lv_at hl 2 rfl) ?_
    refine e_cV (As := [.int (nI d), .int ci]) (rest := []) hx hb hml hown hts 100 (c_X4_y (l := l) hm d n ci (by omega) (by omega) (hc)) cw_RX4_73 (by decide) (by decide) hz hP hI hK (hm 100 (by decide) (by decide)) (by decide) rfl rfl rfl hl.1 rfl (Nat.le_of_ble_eq_true rfl) ⟨Nat.zero_le _, Nat.zero_le _⟩ dX4_isAt_19 ?_
    refine lv_aload_n hx hb dX4_isAt_22 rfl (lv_at hl 0 rfl) ?_
    refine lv_iload_n hx hb dX4_isAt_23 rfl (lv_at hl 3 rfl) ?_
    refine lv_iload hx hb dX4_isAt_24 (lv_at hl 4 rfl) ?_
    refine e_cV (As := [.int (nI e0), .int ki]) (rest := [.int (mY v d n)]) hx hb hml hown hts 100 (c_X4_y (l := l) hm e0 k ki (by omega) (by omega) (hk)) cw_RX4_73 (by decide) (by decide) hz hP hI hK (hm 100 (by decide) (by decide)) (by decide) rfl rfl rfl hl.1 rfl (Nat.le_of_ble_eq_true rfl) ⟨Nat.zero_le _, Nat.zero_le _⟩ dX4_isAt_26 ?_
    refine lv_icmp_ne (tgt := 36) hx hb dX4_isAt_29 (by decide) (fun c_2 => ?_) (fun c_2 => ?_)
    · skip
      refine lv_iconst (v := 0) hx hb dX4_isAt_36 (by decide) ?_
      exact e_nrm (show 0 = bI (mAt v d n e0 k) from (by first | (simp [mAt, bI, eq_true c_1, eq_false c_2]; done) | (exfalso; simp_all; done))) (hret _ _ dX4_isAt_37)
    · skip
      refine lv_iconst (v := 1) hx hb dX4_isAt_32 (by decide) ?_
      refine lv_goto (tgt := 37) hx hb dX4_isAt_33 (by decide) ?_
      exact e_nrm (show 1 = bI (mAt v d n e0 k) from (by first | (simp [mAt, bI, eq_true c_1, eq_true c_2]; done) | (exfalso; simp_all; done))) (hret _ _ dX4_isAt_37)

set_option maxRecDepth 100000 in
set_option maxHeartbeats 4000000 in
theorem c_X4_isOf {l : Launch} {X : eD} {z0 : Nat} {ad kd sp : Nat → Nat} {v : eV} (hm : mK kd) (i : Nat) (d : Int32) (hi : i < 12) : ePu l yX4_isOf cX4_isOf 3 (some .boolean) 0 [.ref (ad 100), .int (nI i), .int d] (e_W X z0 ad kd sp v) (some (.int (bI (mOf v i d)))) := by
  refine e_pureI (by decide +kernel) (Nat.le_of_ble_eq_true rfl) (bI_nar _) ?_
  intro p e s m args below meth c hx hb hml hown hts hW Q hret ls hl
  obtain ⟨hz, hP, hI, hK⟩ := hW
  have hl : lv_has ls 3 [(0, .ref (ad 100)), (1, .int (nI i)), (2, .int d)] := hl
  refine lv_aload_n hx hb dX4_isOf_0 rfl (lv_at hl 0 rfl) ?_
  refine e_getf hx hb hts inX4 hown hK hP 100 12 (hm 100 (by decide) (by decide)) (by decide) rfl rfl 8 (by decide) aw_21 (fun _ h => h) rfl dX4_isOf_1 ?_
  refine lv_iload_n hx hb dX4_isOf_4 rfl (lv_at hl 1 rfl) ?_
  refine e_iald hx hb hK hP 108 12 (hm 108 (by decide) (by decide)) i rfl (by omega) (by decide) dX4_isOf_5 ?_
  refine lv_iload_n hx hb dX4_isOf_6 rfl (lv_at hl 2 rfl) ?_
  refine lv_icmp_eq (tgt := 30) hx hb dX4_isOf_7 (by decide) (fun c_1 => ?_) (fun c_1 => ?_)
  · skip
    refine lv_iconst (v := 1) hx hb dX4_isOf_30 (by decide) ?_
    refine lv_goto (tgt := 35) hx hb dX4_isOf_31 (by decide) ?_
    exact e_nrm (show 1 = bI (mOf v i d) from (by first | (simp [mOf, bI, eq_true c_1]; done) | (exfalso; simp_all; done))) (hret _ _ dX4_isOf_35)
  · skip
    refine lv_aload_n hx hb dX4_isOf_10 rfl (lv_at hl 0 rfl) ?_
    refine e_getf hx hb hts inX4 hown hK hP 100 12 (hm 100 (by decide) (by decide)) (by decide) rfl rfl 9 (by decide) aw_22 (fun _ h => h) rfl dX4_isOf_11 ?_
    refine lv_iload_n hx hb dX4_isOf_14 rfl (lv_at hl 1 rfl) ?_
    refine e_iald hx hb hK hP 109 12 (hm 109 (by decide) (by decide)) i rfl (by omega) (by decide) dX4_isOf_15 ?_
    refine lv_iload_n hx hb dX4_isOf_16 rfl (lv_at hl 2 rfl) ?_
    refine lv_icmp_eq (tgt := 30) hx hb dX4_isOf_17 (by decide) (fun c_2 => ?_) (fun c_2 => ?_)
    · skip
      refine lv_iconst (v := 1) hx hb dX4_isOf_30 (by decide) ?_
      refine lv_goto (tgt := 35) hx hb dX4_isOf_31 (by decide) ?_
      exact e_nrm (show 1 = bI (mOf v i d) from (by first | (simp [mOf, bI, eq_false c_1, eq_true c_2]; done) | (exfalso; simp_all; done))) (hret _ _ dX4_isOf_35)
    · skip
      refine lv_aload_n hx hb dX4_isOf_20 rfl (lv_at hl 0 rfl) ?_
      refine e_getf hx hb hts inX4 hown hK hP 100 12 (hm 100 (by decide) (by decide)) (by decide) rfl rfl 10 (by decide) aw_23 (fun _ h => h) rfl dX4_isOf_21 ?_
      refine lv_iload_n hx hb dX4_isOf_24 rfl (lv_at hl 1 rfl) ?_
      refine e_iald hx hb hK hP 110 12 (hm 110 (by decide) (by decide)) i rfl (by omega) (by decide) dX4_isOf_25 ?_
      refine lv_iload_n hx hb dX4_isOf_26 rfl (lv_at hl 2 rfl) ?_
      refine lv_icmp_ne (tgt := 34) hx hb dX4_isOf_27 (by decide) (fun c_3 => ?_) (fun c_3 => ?_)
      · skip
        refine lv_iconst (v := 0) hx hb dX4_isOf_34 (by decide) ?_
        exact e_nrm (show 0 = bI (mOf v i d) from (by first | (simp [mOf, bI, eq_false c_1, eq_false c_2, eq_false c_3]; done) | (exfalso; simp_all; done))) (hret _ _ dX4_isOf_35)
      · skip
        refine lv_iconst (v := 1) hx hb dX4_isOf_30 (by decide) ?_
        refine lv_goto (tgt := 35) hx hb dX4_isOf_31 (by decide) ?_
        exact e_nrm (show 1 = bI (mOf v i d) from (by first | (simp [mOf, bI, eq_false c_1, eq_false c_2, eq_true c_3]; done) | (exfalso; simp_all; done))) (hret _ _ dX4_isOf_35)

set_option maxRecDepth 100000 in
set_option maxHeartbeats 4000000 in
theorem c_X4_liftsOf {l : Launch} {X : eD} {z0 : Nat} {ad kd sp : Nat → Nat} {v : eV} (dn ln : Nat) (hm : mK kd) (hv : mI dn ln v) (d c0 : Int32) : ePu l yX4_liftsOf cX4_liftsOf 5 (some .int) 1 [.ref (ad 100), .int d, .int c0] (e_W X z0 ad kd sp v) (some (.int (mLiftsOf v d c0 ln))) := by
  refine e_pureI (by decide +kernel) (Nat.le_of_ble_eq_true rfl) rfl ?_
  intro p e s m args below meth c hx hb hml hown hts hW Q hret ls hl
  obtain ⟨hz, hP, hI, hK⟩ := hW
  have hl : lv_has ls 5 [(0, .ref (ad 100)), (1, .int d), (2, .int c0)] := hl
  have hd8 := hv.2.2.1
  have hl12 := hv.2.2.2.1
  refine lv_iconst (v := 0) hx hb dX4_liftsOf_0 (by decide) ?_
  refine lv_istore_n (lv' := [(3, .int 0), (0, .ref (ad 100)), (1, .int d), (2, .int c0)]) hx hb dX4_liftsOf_1 rfl hl (by decide) rfl (fun ls hl => ?_)
  refine lv_iconst (v := 0) hx hb dX4_liftsOf_2 (by decide) ?_
  refine lv_istore (lv' := [(4, .int 0), (3, .int 0), (0, .ref (ad 100)), (1, .int d), (2, .int c0)]) hx hb dX4_liftsOf_3 hl (by decide) rfl (fun ls hl => ?_)
  have L5 : ∀ (k5 : Nat) (i : Nat) (x3 : Int32), ln - i < k5 → (i ≤ ln) → (x3 = mLiftsOf v d c0 i) →  ∀ ls : Array Slot, lv_has ls 5 [(4, .int (nI i)), (3, .int x3), (0, .ref (ad 100)), (1, .int d), (2, .int c0)] → W p l e (e_rm 1 0 0) s m args below meth c s.heap [] 0 0 Q (F0 m 5 ls []) := by
    intro k5
    induction k5 with
    | zero => intro i x3 hk; exact absurd hk (Nat.not_lt_zero _)
    | succ k5 ih5 =>
      intro i x3 hk5 hi ex3 ls hl
      refine lv_iload hx hb dX4_liftsOf_5 (lv_at hl 0 rfl) ?_
      refine lv_aload_n hx hb dX4_liftsOf_7 rfl (lv_at hl 2 rfl) ?_
      refine e_getf hx hb hts inX4 hown hK hP 100 12 (hm 100 (by decide) (by decide)) (by decide) rfl rfl 12 (by decide) aw_24 (fun _ h => h) rfl dX4_liftsOf_8 ?_
      refine e_nrm (y := nI ln) (hv.2.1) ?_
      refine lv_icmp_ge (tgt := 59) hx hb dX4_liftsOf_11 (by decide) (fun c_1 => ?_) (fun c_1 => ?_)
      · have nc_1 : ln ≤ i := (nI_leI (a := ln) (b := i) (by omega) (by omega)).mp c_1
        refine lv_iload_n hx hb dX4_liftsOf_59 rfl (lv_at hl 1 rfl) ?_
        exact e_nrm (show x3 = mLiftsOf v d c0 ln from by rw [ex3, show i = ln by omega]) (hret _ _ dX4_liftsOf_60)
      · have nc_1 : ¬ ln ≤ i := fun h => c_1 ((nI_leI (a := ln) (b := i) (by omega) (by omega)).mpr h)
        refine lv_iload_n hx hb dX4_liftsOf_14 rfl (lv_at hl 1 rfl) ?_
        have J15_51 : ∀ ls : Array Slot, lv_has ls 5 [(4, .int (nI i)), (3, .int x3), (0, .ref (ad 100)), (1, .int d), (2, .int c0)] → W p l e (e_rm 1 0 0) s m args below meth c s.heap [] 0 0 Q (F0 m 51 ls [.int (bI (decide (v 111 i = 0) && decide (v 107 i = c0) && mOf v i d)), .int x3]) := by
          intro ls hl
          refine lv_iadd hx hb dX4_liftsOf_51 ?_
          refine lv_istore_n (lv' := [(3, .int (x3 + (bI (decide (v 111 i = 0) && decide (v 107 i = c0) && mOf v i d)))), (4, .int (nI i)), (0, .ref (ad 100)), (1, .int d), (2, .int c0)]) hx hb dX4_liftsOf_52 rfl hl (by decide) rfl (fun ls hl => ?_)
          refine lv_iinc (v := (nI (i + 1))) (lv' := [(4, .int (nI (i + 1))), (3, .int (x3 + (bI (decide (v 111 i = 0) && decide (v 107 i = c0) && mOf v i d)))), (0, .ref (ad 100)), (1, .int d), (2, .int c0)]) hx hb dX4_liftsOf_53 hl (k := 1) rfl (nI_add i 1) (by decide) rfl (fun ls hl => ?_)
          refine lv_goto (tgt := 5) hx hb dX4_liftsOf_56 (by decide) ?_
          exact ih5 (i + 1) (x3 + (bI (decide (v 111 i = 0) && decide (v 107 i = c0) && mOf v i d))) (by omega) (by omega) (by rw [ex3]; rfl)  ls (lv_sub hl [0, 1, 2, 3, 4] rfl)
        refine lv_aload_n hx hb dX4_liftsOf_15 rfl (lv_at hl 2 rfl) ?_
        refine e_getf hx hb hts inX4 hown hK hP 100 12 (hm 100 (by decide) (by decide)) (by decide) rfl rfl 11 (by decide) aw_25 (fun _ h => h) rfl dX4_liftsOf_16 ?_
        refine lv_iload hx hb dX4_liftsOf_19 (lv_at hl 0 rfl) ?_
        refine e_iald hx hb hK hP 111 12 (hm 111 (by decide) (by decide)) i rfl (by omega) (by decide) dX4_liftsOf_21 ?_
        refine lv_if_ne (tgt := 50) hx hb dX4_liftsOf_22 (by decide) (fun c_2 => ?_) (fun c_2 => ?_)
        · skip
          refine lv_iconst (v := 0) hx hb dX4_liftsOf_50 (by decide) ?_
          exact e_nrm (show 0 = (bI (decide (v 111 i = 0) && decide (v 107 i = c0) && mOf v i d)) from (by first | (simp [bI, nc_1, c_2]; done) | (exfalso; simp_all; done))) (J15_51 ls (lv_sub hl [0, 1, 2, 3, 4] rfl))
        · skip
          refine lv_aload_n hx hb dX4_liftsOf_25 rfl (lv_at hl 2 rfl) ?_
          refine e_getf hx hb hts inX4 hown hK hP 100 12 (hm 100 (by decide) (by decide)) (by decide) rfl rfl 7 (by decide) aw_26 (fun _ h => h) rfl dX4_liftsOf_26 ?_
          refine lv_iload hx hb dX4_liftsOf_29 (lv_at hl 0 rfl) ?_
          refine e_iald hx hb hK hP 107 12 (hm 107 (by decide) (by decide)) i rfl (by omega) (by decide) dX4_liftsOf_31 ?_
          refine lv_iload_n hx hb dX4_liftsOf_32 rfl (lv_at hl 4 rfl) ?_
          refine lv_icmp_ne (tgt := 50) hx hb dX4_liftsOf_33 (by decide) (fun c_3 => ?_) (fun c_3 => ?_)
          · skip
            refine lv_iconst (v := 0) hx hb dX4_liftsOf_50 (by decide) ?_
            exact e_nrm (show 0 = (bI (decide (v 111 i = 0) && decide (v 107 i = c0) && mOf v i d)) from (by first | (simp [bI, nc_1, c_2, eq_false c_3]; done) | (exfalso; simp_all; done))) (J15_51 ls (lv_sub hl [0, 1, 2, 3, 4] rfl))
          · skip
            refine lv_aload_n hx hb dX4_liftsOf_36 rfl (lv_at hl 2 rfl) ?_
            refine lv_iload hx hb dX4_liftsOf_37 (lv_at hl 0 rfl) ?_
            refine lv_iload_n hx hb dX4_liftsOf_39 rfl (lv_at hl 3 rfl) ?_
            refine e_cV (As := [.int (nI i), .int d]) (rest := [.int x3]) hx hb hml hown hts 100 (c_X4_isOf (l := l) hm i d (by omega)) cw_RX4_91 (by decide) (by decide) hz hP hI hK (hm 100 (by decide) (by decide)) (by decide) rfl rfl rfl hl.1 rfl (Nat.le_of_ble_eq_true rfl) ⟨Nat.zero_le _, Nat.zero_le _⟩ dX4_liftsOf_40 ?_
            refine lv_if_eq (tgt := 50) hx hb dX4_liftsOf_43 (by decide) (fun c_4 => ?_) (fun c_4 => ?_)
            · have nc_4 : (mOf v i d) = false := bI_0.mp c_4
              refine lv_iconst (v := 0) hx hb dX4_liftsOf_50 (by decide) ?_
              exact e_nrm (show 0 = (bI (decide (v 111 i = 0) && decide (v 107 i = c0) && mOf v i d)) from (by first | (simp [bI, nc_1, c_2, eq_true c_3, nc_4]; done) | (exfalso; simp_all; done))) (J15_51 ls (lv_sub hl [0, 1, 2, 3, 4] rfl))
            · have nc_4 : (mOf v i d) = true := bI_n0.mp c_4
              refine lv_iconst (v := 1) hx hb dX4_liftsOf_46 (by decide) ?_
              refine lv_goto (tgt := 51) hx hb dX4_liftsOf_47 (by decide) ?_
              exact e_nrm (show 1 = (bI (decide (v 111 i = 0) && decide (v 107 i = c0) && mOf v i d)) from (by first | (simp [bI, nc_1, c_2, eq_true c_3, nc_4]; done) | (exfalso; simp_all; done))) (J15_51 ls (lv_sub hl [0, 1, 2, 3, 4] rfl))
  exact L5 _ 0 0 (Nat.lt_succ_self _) (Nat.zero_le _) (rfl)  ls (lv_sub hl [0, 1, 2, 3, 4] rfl)

set_option maxRecDepth 100000 in
set_option maxHeartbeats 4000000 in
theorem c_X4_isBeside {l : Launch} {X : eD} {z0 : Nat} {ad kd sp : Nat → Nat} {v : eV} (hm : mK kd) (d e0 c0 : Nat) (hd : d < 8) (he : e0 < 8) (hc : c0 < 64) : ePu l yX4_isBeside cX4_isBeside 4 (some .boolean) 2 [.ref (ad 100), .int (nI d), .int (nI e0), .int (nI c0)] (e_W X z0 ad kd sp v) (some (.int (bI (mBeside v d e0 c0)))) := by
  refine e_pureI (by decide +kernel) (Nat.le_of_ble_eq_true rfl) (bI_nar _) ?_
  intro p e s m args below meth c hx hb hml hown hts hW Q hret ls hl
  obtain ⟨hz, hP, hI, hK⟩ := hW
  have hl : lv_has ls 4 [(0, .ref (ad 100)), (1, .int (nI d)), (2, .int (nI e0)), (3, .int (nI c0))] := hl
  refine lv_aload_n hx hb dX4_isBeside_0 rfl (lv_at hl 0 rfl) ?_
  refine lv_iload_n hx hb dX4_isBeside_1 rfl (lv_at hl 1 rfl) ?_
  refine lv_iload_n hx hb dX4_isBeside_2 rfl (lv_at hl 3 rfl) ?_
  refine lv_iload_n hx hb dX4_isBeside_3 rfl (lv_at hl 2 rfl) ?_
  refine lv_iload_n hx hb dX4_isBeside_4 rfl (lv_at hl 3 rfl) ?_
  refine e_cV (As := [.int (nI d), .int (nI c0), .int (nI e0), .int (nI c0)]) (rest := []) hx hb hml hown hts 100 (c_X4_isAt (l := l) hm d (c0 + 1) e0 (c0 + 1) (nI c0) (nI c0) (by omega) (by omega) (nI_1 c0) (by omega) (by omega) (nI_1 c0)) cw_RX4_80 (by decide) (by decide) hz hP hI hK (hm 100 (by decide) (by decide)) (by decide) rfl rfl rfl hl.1 rfl (Nat.le_of_ble_eq_true rfl) ⟨Nat.zero_le _, Nat.zero_le _⟩ dX4_isBeside_5 ?_
  refine lv_if_ne (tgt := 59) hx hb dX4_isBeside_8 (by decide) (fun c_1 => ?_) (fun c_1 => ?_)
  · have nc_1 : (mAt v d (c0 + 1) e0 (c0 + 1)) = true := bI_n0.mp c_1
    refine lv_iconst (v := 0) hx hb dX4_isBeside_59 (by decide) ?_
    exact e_nrm (show 0 = bI (mBeside v d e0 c0) from (by first | (simp [mBeside, bI, nc_1]; done) | (exfalso; simp_all; done))) (hret _ _ dX4_isBeside_60)
  · have nc_1 : (mAt v d (c0 + 1) e0 (c0 + 1)) = false := bI_0.mp c_1
    refine lv_aload_n hx hb dX4_isBeside_11 rfl (lv_at hl 0 rfl) ?_
    refine lv_aload_n hx hb dX4_isBeside_12 rfl (lv_at hl 0 rfl) ?_
    refine lv_iload_n hx hb dX4_isBeside_13 rfl (lv_at hl 1 rfl) ?_
    refine lv_iload_n hx hb dX4_isBeside_14 rfl (lv_at hl 3 rfl) ?_
    refine e_cV (As := [.int (nI d), .int (nI c0)]) (rest := [.ref (ad 100)]) hx hb hml hown hts 100 (c_X4_x (l := l) hm d (c0 + 1) (nI c0) (by omega) (by omega) (nI_1 c0)) cw_RX4_77 (by decide) (by decide) hz hP hI hK (hm 100 (by decide) (by decide)) (by decide) rfl rfl rfl hl.1 rfl (Nat.le_of_ble_eq_true rfl) ⟨Nat.zero_le _, Nat.zero_le _⟩ dX4_isBeside_15 ?_
    refine lv_aload_n hx hb dX4_isBeside_18 rfl (lv_at hl 0 rfl) ?_
    refine lv_iload_n hx hb dX4_isBeside_19 rfl (lv_at hl 2 rfl) ?_
    refine lv_iload_n hx hb dX4_isBeside_20 rfl (lv_at hl 3 rfl) ?_
    refine e_cV (As := [.int (nI e0), .int (nI c0)]) (rest := [.int (mX v d (c0 + 1)), .ref (ad 100)]) hx hb hml hown hts 100 (c_X4_x (l := l) hm e0 (c0 + 1) (nI c0) (by omega) (by omega) (nI_1 c0)) cw_RX4_77 (by decide) (by decide) hz hP hI hK (hm 100 (by decide) (by decide)) (by decide) rfl rfl rfl hl.1 rfl (Nat.le_of_ble_eq_true rfl) ⟨Nat.zero_le _, Nat.zero_le _⟩ dX4_isBeside_21 ?_
    refine lv_isub hx hb dX4_isBeside_24 ?_
    refine lv_iconst (v := (-1)) hx hb dX4_isBeside_25 (by decide) ?_
    refine lv_iconst (v := 1) hx hb dX4_isBeside_26 (by decide) ?_
    refine e_cV (As := [.int ((mX v d (c0 + 1)) - (mX v e0 (c0 + 1))), .int (-1), .int 1]) (rest := []) hx hb hml hown hts 100 (c_X4_in (l := l) hm ((mX v d (c0 + 1)) - (mX v e0 (c0 + 1))) (-1) 1) cw_RX4_59 (by decide) (by decide) hz hP hI hK (hm 100 (by decide) (by decide)) (by decide) rfl rfl rfl hl.1 rfl (Nat.le_of_ble_eq_true rfl) ⟨Nat.zero_le _, Nat.zero_le _⟩ dX4_isBeside_27 ?_
    refine lv_if_eq (tgt := 59) hx hb dX4_isBeside_30 (by decide) (fun c_2 => ?_) (fun c_2 => ?_)
    · have nc_2 : (mIn ((mX v d (c0 + 1)) - (mX v e0 (c0 + 1))) (-1) 1) = false := bI_0.mp c_2
      refine lv_iconst (v := 0) hx hb dX4_isBeside_59 (by decide) ?_
      exact e_nrm (show 0 = bI (mBeside v d e0 c0) from (by first | (simp [mBeside, bI, nc_1, nc_2]; done) | (exfalso; simp_all; done))) (hret _ _ dX4_isBeside_60)
    · have nc_2 : (mIn ((mX v d (c0 + 1)) - (mX v e0 (c0 + 1))) (-1) 1) = true := bI_n0.mp c_2
      refine lv_aload_n hx hb dX4_isBeside_33 rfl (lv_at hl 0 rfl) ?_
      refine lv_aload_n hx hb dX4_isBeside_34 rfl (lv_at hl 0 rfl) ?_
      refine lv_iload_n hx hb dX4_isBeside_35 rfl (lv_at hl 1 rfl) ?_
      refine lv_iload_n hx hb dX4_isBeside_36 rfl (lv_at hl 3 rfl) ?_
      refine e_cV (As := [.int (nI d), .int (nI c0)]) (rest := [.ref (ad 100)]) hx hb hml hown hts 100 (c_X4_y (l := l) hm d (c0 + 1) (nI c0) (by omega) (by omega) (nI_1 c0)) cw_RX4_73 (by decide) (by decide) hz hP hI hK (hm 100 (by decide) (by decide)) (by decide) rfl rfl rfl hl.1 rfl (Nat.le_of_ble_eq_true rfl) ⟨Nat.zero_le _, Nat.zero_le _⟩ dX4_isBeside_37 ?_
      refine lv_aload_n hx hb dX4_isBeside_40 rfl (lv_at hl 0 rfl) ?_
      refine lv_iload_n hx hb dX4_isBeside_41 rfl (lv_at hl 2 rfl) ?_
      refine lv_iload_n hx hb dX4_isBeside_42 rfl (lv_at hl 3 rfl) ?_
      refine e_cV (As := [.int (nI e0), .int (nI c0)]) (rest := [.int (mY v d (c0 + 1)), .ref (ad 100)]) hx hb hml hown hts 100 (c_X4_y (l := l) hm e0 (c0 + 1) (nI c0) (by omega) (by omega) (nI_1 c0)) cw_RX4_73 (by decide) (by decide) hz hP hI hK (hm 100 (by decide) (by decide)) (by decide) rfl rfl rfl hl.1 rfl (Nat.le_of_ble_eq_true rfl) ⟨Nat.zero_le _, Nat.zero_le _⟩ dX4_isBeside_43 ?_
      refine lv_isub hx hb dX4_isBeside_46 ?_
      refine lv_iconst (v := (-1)) hx hb dX4_isBeside_47 (by decide) ?_
      refine lv_iconst (v := 1) hx hb dX4_isBeside_48 (by decide) ?_
      refine e_cV (As := [.int ((mY v d (c0 + 1)) - (mY v e0 (c0 + 1))), .int (-1), .int 1]) (rest := []) hx hb hml hown hts 100 (c_X4_in (l := l) hm ((mY v d (c0 + 1)) - (mY v e0 (c0 + 1))) (-1) 1) cw_RX4_59 (by decide) (by decide) hz hP hI hK (hm 100 (by decide) (by decide)) (by decide) rfl rfl rfl hl.1 rfl (Nat.le_of_ble_eq_true rfl) ⟨Nat.zero_le _, Nat.zero_le _⟩ dX4_isBeside_49 ?_
      refine lv_if_eq (tgt := 59) hx hb dX4_isBeside_52 (by decide) (fun c_3 => ?_) (fun c_3 => ?_)
      · have nc_3 : (mIn ((mY v d (c0 + 1)) - (mY v e0 (c0 + 1))) (-1) 1) = false := bI_0.mp c_3
        refine lv_iconst (v := 0) hx hb dX4_isBeside_59 (by decide) ?_
        exact e_nrm (show 0 = bI (mBeside v d e0 c0) from (by first | (simp [mBeside, bI, nc_1, nc_2, nc_3]; done) | (exfalso; simp_all; done))) (hret _ _ dX4_isBeside_60)
      · have nc_3 : (mIn ((mY v d (c0 + 1)) - (mY v e0 (c0 + 1))) (-1) 1) = true := bI_n0.mp c_3
        refine lv_iconst (v := 1) hx hb dX4_isBeside_55 (by decide) ?_
        refine lv_goto (tgt := 60) hx hb dX4_isBeside_56 (by decide) ?_
        exact e_nrm (show 1 = bI (mBeside v d e0 c0) from (by first | (simp [mBeside, bI, nc_1, nc_2, nc_3]; done) | (exfalso; simp_all; done))) (hret _ _ dX4_isBeside_60)

set_option maxRecDepth 100000 in
set_option maxHeartbeats 4000000 in
theorem c_X4_lasts {l : Launch} {X : eD} {z0 : Nat} {ad kd sp : Nat → Nat} {v : eV} (hm : mK kd) (c0 : Nat) (hc : c0 < 64) : ePu l yX4_lasts cX4_lasts 4 (some .int) 0 [.ref (ad 100), .int (nI c0)] (e_W X z0 ad kd sp v) (some (.int (mLast v (c0 + 1)))) := by
  refine e_pureI (by decide +kernel) (Nat.le_of_ble_eq_true rfl) rfl ?_
  intro p e s m args below meth c hx hb hml hown hts hW Q hret ls hl
  obtain ⟨hz, hP, hI, hK⟩ := hW
  have hl : lv_has ls 4 [(0, .ref (ad 100)), (1, .int (nI c0))] := hl
  refine lv_sipush (v := 500) hx hb dX4_lasts_0 (by decide) ?_
  refine lv_istore_n (lv' := [(2, .int 500), (0, .ref (ad 100)), (1, .int (nI c0))]) hx hb dX4_lasts_3 rfl hl (by decide) rfl (fun ls hl => ?_)
  refine lv_iconst (v := 0) hx hb dX4_lasts_4 (by decide) ?_
  refine lv_istore_n (lv' := [(3, .int 0), (2, .int 500), (0, .ref (ad 100)), (1, .int (nI c0))]) hx hb dX4_lasts_5 rfl hl (by decide) rfl (fun ls hl => ?_)
  have L6 : ∀ (k6 : Nat) (i : Nat) (x2 : Int32), c0 + 1 - i < k6 → (i ≤ c0 + 1) → (x2 = mLast v i) →  ∀ ls : Array Slot, lv_has ls 4 [(3, .int (nI i)), (2, .int x2), (0, .ref (ad 100)), (1, .int (nI c0))] → W p l e (e_rm 0 0 0) s m args below meth c s.heap [] 0 0 Q (F0 m 6 ls []) := by
    intro k6
    induction k6 with
    | zero => intro i x2 hk; exact absurd hk (Nat.not_lt_zero _)
    | succ k6 ih6 =>
      intro i x2 hk6 hi ex2 ls hl
      refine lv_iload_n hx hb dX4_lasts_6 rfl (lv_at hl 0 rfl) ?_
      refine lv_iload_n hx hb dX4_lasts_7 rfl (lv_at hl 3 rfl) ?_
      refine lv_icmp_gt (tgt := 37) hx hb dX4_lasts_8 (by decide) (fun c_1 => ?_) (fun c_1 => ?_)
      · have nc_1 : c0 < i := (nI_ltI (a := c0) (b := i) (by omega) (by omega)).mp c_1
        refine lv_iload_n hx hb dX4_lasts_37 rfl (lv_at hl 1 rfl) ?_
        exact e_nrm (show x2 = mLast v (c0 + 1) from by rw [ex2, show i = c0 + 1 by omega]) (hret _ _ dX4_lasts_38)
      · have nc_1 : ¬ c0 < i := fun h => c_1 ((nI_ltI (a := c0) (b := i) (by omega) (by omega)).mpr h)
        refine lv_aload_n hx hb dX4_lasts_11 rfl (lv_at hl 2 rfl) ?_
        refine e_getf hx hb hts inX4 hown hK hP 100 12 (hm 100 (by decide) (by decide)) (by decide) rfl rfl 13 (by decide) aw_37 (fun _ h => h) rfl dX4_lasts_12 ?_
        refine lv_iload_n hx hb dX4_lasts_15 rfl (lv_at hl 0 rfl) ?_
        refine e_iald hx hb hK hP 112 64 (hm 112 (by decide) (by decide)) i rfl (by omega) (by decide) dX4_lasts_16 ?_
        refine lv_if_le (tgt := 29) hx hb dX4_lasts_17 (by decide) (fun c_2 => ?_) (fun c_2 => ?_)
        · have nc_2 : ¬ 0 < (v 112 i) := Int32.not_lt.mpr c_2
          refine lv_iload_n hx hb dX4_lasts_29 rfl (lv_at hl 1 rfl) ?_
          refine lv_istore_n (lv' := [(2, .int x2), (3, .int (nI i)), (0, .ref (ad 100)), (1, .int (nI c0))]) hx hb dX4_lasts_30 rfl hl (by decide) rfl (fun ls hl => ?_)
          refine lv_iinc (v := (nI (i + 1))) (lv' := [(3, .int (nI (i + 1))), (2, .int x2), (0, .ref (ad 100)), (1, .int (nI c0))]) hx hb dX4_lasts_31 hl (k := 1) rfl (nI_add i 1) (by decide) rfl (fun ls hl => ?_)
          refine lv_goto (tgt := 6) hx hb dX4_lasts_34 (by decide) ?_
          exact ih6 (i + 1) x2 (by omega) (by omega) (by show _ = ite _ _ _; simp [nc_1, nc_2, ex2])  ls (lv_sub hl [0, 1, 2, 3] rfl)
        · have nc_2 : 0 < (v 112 i) := Int32.not_le.mp c_2
          refine lv_aload_n hx hb dX4_lasts_20 rfl (lv_at hl 2 rfl) ?_
          refine e_getf hx hb hts inX4 hown hK hP 100 12 (hm 100 (by decide) (by decide)) (by decide) rfl rfl 13 (by decide) aw_37 (fun _ h => h) rfl dX4_lasts_21 ?_
          refine lv_iload_n hx hb dX4_lasts_24 rfl (lv_at hl 0 rfl) ?_
          refine e_iald hx hb hK hP 112 64 (hm 112 (by decide) (by decide)) i rfl (by omega) (by decide) dX4_lasts_25 ?_
          refine lv_goto (tgt := 30) hx hb dX4_lasts_26 (by decide) ?_
          refine lv_istore_n (lv' := [(2, .int (v 112 i)), (3, .int (nI i)), (0, .ref (ad 100)), (1, .int (nI c0))]) hx hb dX4_lasts_30 rfl hl (by decide) rfl (fun ls hl => ?_)
          refine lv_iinc (v := (nI (i + 1))) (lv' := [(3, .int (nI (i + 1))), (2, .int (v 112 i)), (0, .ref (ad 100)), (1, .int (nI c0))]) hx hb dX4_lasts_31 hl (k := 1) rfl (nI_add i 1) (by decide) rfl (fun ls hl => ?_)
          refine lv_goto (tgt := 6) hx hb dX4_lasts_34 (by decide) ?_
          exact ih6 (i + 1) (v 112 i) (by omega) (by omega) (by show _ = ite _ _ _; simp [nc_1, nc_2, ex2])  ls (lv_sub hl [0, 1, 2, 3] rfl)
  exact L6 _ 0 500 (Nat.lt_succ_self _) (Nat.zero_le _) (rfl)  ls (lv_sub hl [0, 1, 2, 3] rfl)

set_option maxRecDepth 100000 in
set_option maxHeartbeats 4000000 in
theorem c_X4_flat {l : Launch} {X : eD} {z0 : Nat} {ad kd sp : Nat → Nat} {v : eV} (hm : mK kd) (x : Int32) : ePu l yX4_flat cX4_flat 2 (some .int) 0 [.ref (ad 100), .int x] (e_W X z0 ad kd sp v) (some (.int (mFlat x))) := by
  refine e_pureI (by decide +kernel) (Nat.le_of_ble_eq_true rfl) rfl ?_
  intro p e s m args below meth c hx hb hml hown hts hW Q hret ls hl
  obtain ⟨hz, hP, hI, hK⟩ := hW
  have hl : lv_has ls 2 [(0, .ref (ad 100)), (1, .int x)] := hl
  refine lv_iload_n hx hb dX4_flat_0 rfl (lv_at hl 1 rfl) ?_
  refine lv_if_ge (tgt := 9) hx hb dX4_flat_1 (by decide) (fun c_1 => ?_) (fun c_1 => ?_)
  · have nc_1 : ¬ x < 0 := Int32.not_lt.mpr c_1
    refine lv_iload_n hx hb dX4_flat_9 rfl (lv_at hl 1 rfl) ?_
    exact e_nrm (show x = mFlat x from (by first | (simp [mFlat, bI, nc_1]; done) | (exfalso; simp_all; done))) (hret _ _ dX4_flat_10)
  · have nc_1 : x < 0 := Int32.not_le.mp c_1
    refine lv_iload_n hx hb dX4_flat_4 rfl (lv_at hl 1 rfl) ?_
    refine lv_ineg hx hb dX4_flat_5 ?_
    refine lv_goto (tgt := 10) hx hb dX4_flat_6 (by decide) ?_
    exact e_nrm (show (-x) = mFlat x from (by first | (simp [mFlat, bI, nc_1]; done) | (exfalso; simp_all; done))) (hret _ _ dX4_flat_10)

set_option maxRecDepth 100000 in
set_option maxHeartbeats 4000000 in
theorem c_X4_cost {l : Launch} {X : eD} {z0 : Nat} {ad kd sp : Nat → Nat} {v : eV} (dn ln : Nat) (hm : mK kd) (hv : mI dn ln v) (d a b : Nat) (hd : d < 8) (ha : a < 64) (hb9 : b < 64) : ePu l yX4_cost cX4_cost 6 (some .int) 2 [.ref (ad 100), .int (nI d), .int (nI a), .int (nI b)] (e_W X z0 ad kd sp v) (some (.int (mCost v ln d a (b + 1 - a)))) := by
  refine e_pureI (by decide +kernel) (Nat.le_of_ble_eq_true rfl) rfl ?_
  intro p e s m args below meth c hx hb hml hown hts hW Q hret ls hl
  obtain ⟨hz, hP, hI, hK⟩ := hW
  have hl : lv_has ls 6 [(0, .ref (ad 100)), (1, .int (nI d)), (2, .int (nI a)), (3, .int (nI b))] := hl
  refine lv_iconst (v := 0) hx hb dX4_cost_0 (by decide) ?_
  refine lv_istore (lv' := [(4, .int 0), (0, .ref (ad 100)), (1, .int (nI d)), (2, .int (nI a)), (3, .int (nI b))]) hx hb dX4_cost_1 hl (by decide) rfl (fun ls hl => ?_)
  refine lv_iload_n hx hb dX4_cost_3 rfl (lv_at hl 3 rfl) ?_
  refine lv_istore (lv' := [(5, .int (nI a)), (4, .int 0), (0, .ref (ad 100)), (1, .int (nI d)), (2, .int (nI a)), (3, .int (nI b))]) hx hb dX4_cost_4 hl (by decide) rfl (fun ls hl => ?_)
  have L6 : ∀ (k6 : Nat) (i : Nat) (x4 : Int32), b + 1 - a - i < k6 → (i ≤ b + 1 - a) → (x4 = mCost v ln d a i) →  ∀ ls : Array Slot, lv_has ls 6 [(5, .int (nI (a + i))), (4, .int x4), (0, .ref (ad 100)), (1, .int (nI d)), (2, .int (nI a)), (3, .int (nI b))] → W p l e (e_rm 2 0 0) s m args below meth c s.heap [] 0 0 Q (F0 m 6 ls []) := by
    intro k6
    induction k6 with
    | zero => intro i x4 hk; exact absurd hk (Nat.not_lt_zero _)
    | succ k6 ih6 =>
      intro i x4 hk6 hi ex4 ls hl
      refine lv_iload hx hb dX4_cost_6 (lv_at hl 0 rfl) ?_
      refine lv_iload_n hx hb dX4_cost_8 rfl (lv_at hl 5 rfl) ?_
      refine lv_icmp_gt (tgt := 66) hx hb dX4_cost_9 (by decide) (fun c_1 => ?_) (fun c_1 => ?_)
      · have nc_1 : b < (a + i) := (nI_ltI (a := b) (b := (a + i)) (by omega) (by omega)).mp c_1
        refine lv_iload hx hb dX4_cost_66 (lv_at hl 1 rfl) ?_
        exact e_nrm (show x4 = mCost v ln d a (b + 1 - a) from by rw [ex4, show i = b + 1 - a by omega]) (hret _ _ dX4_cost_68)
      · have nc_1 : ¬ b < (a + i) := fun h => c_1 ((nI_ltI (a := b) (b := (a + i)) (by omega) (by omega)).mpr h)
        refine lv_iload hx hb dX4_cost_12 (lv_at hl 1 rfl) ?_
        refine lv_aload_n hx hb dX4_cost_14 rfl (lv_at hl 2 rfl) ?_
        refine lv_aload_n hx hb dX4_cost_15 rfl (lv_at hl 2 rfl) ?_
        refine e_getf hx hb hts inX4 hown hK hP 100 12 (hm 100 (by decide) (by decide)) (by decide) rfl rfl 5 (by decide) aw_8 (fun _ h => h) rfl dX4_cost_16 ?_
        refine lv_bipush (v := 64) hx hb dX4_cost_19 (by decide) ?_
        refine lv_iload_n hx hb dX4_cost_21 rfl (lv_at hl 3 rfl) ?_
        refine lv_imul hx hb dX4_cost_22 ?_
        refine e_nrm (y := (nI (64 * d))) (pk_mul 64 d) ?_
        refine lv_iload hx hb dX4_cost_23 (lv_at hl 0 rfl) ?_
        refine lv_iadd hx hb dX4_cost_25 ?_
        refine e_nrm (y := (nI ((64 * d) + (a + i)))) (nI_add (64 * d) (a + i)) ?_
        refine e_iald hx hb hK hP 105 512 (hm 105 (by decide) (by decide)) ((64 * d) + (a + i)) rfl (by omega) (by decide) dX4_cost_26 ?_
        refine e_cV (As := [.int (v 105 ((64 * d) + (a + i)))]) (rest := [.int x4]) hx hb hml hown hts 100 (c_X4_flat (l := l) hm (v 105 ((64 * d) + (a + i)))) cw_RX4_110 (by decide) (by decide) hz hP hI hK (hm 100 (by decide) (by decide)) (by decide) rfl rfl rfl hl.1 rfl (Nat.le_of_ble_eq_true rfl) ⟨Nat.zero_le _, Nat.zero_le _⟩ dX4_cost_27 ?_
        refine lv_aload_n hx hb dX4_cost_30 rfl (lv_at hl 2 rfl) ?_
        refine lv_aload_n hx hb dX4_cost_31 rfl (lv_at hl 2 rfl) ?_
        refine e_getf hx hb hts inX4 hown hK hP 100 12 (hm 100 (by decide) (by decide)) (by decide) rfl rfl 6 (by decide) aw_10 (fun _ h => h) rfl dX4_cost_32 ?_
        refine lv_bipush (v := 64) hx hb dX4_cost_35 (by decide) ?_
        refine lv_iload_n hx hb dX4_cost_37 rfl (lv_at hl 3 rfl) ?_
        refine lv_imul hx hb dX4_cost_38 ?_
        refine e_nrm (y := (nI (64 * d))) (pk_mul 64 d) ?_
        refine lv_iload hx hb dX4_cost_39 (lv_at hl 0 rfl) ?_
        refine lv_iadd hx hb dX4_cost_41 ?_
        refine e_nrm (y := (nI ((64 * d) + (a + i)))) (nI_add (64 * d) (a + i)) ?_
        refine e_iald hx hb hK hP 106 512 (hm 106 (by decide) (by decide)) ((64 * d) + (a + i)) rfl (by omega) (by decide) dX4_cost_42 ?_
        refine e_cV (As := [.int (v 106 ((64 * d) + (a + i)))]) (rest := [.int (mFlat (v 105 ((64 * d) + (a + i)))), .int x4]) hx hb hml hown hts 100 (c_X4_flat (l := l) hm (v 106 ((64 * d) + (a + i)))) cw_RX4_110 (by decide) (by decide) hz hP hI hK (hm 100 (by decide) (by decide)) (by decide) rfl rfl rfl hl.1 rfl (Nat.le_of_ble_eq_true rfl) ⟨Nat.zero_le _, Nat.zero_le _⟩ dX4_cost_43 ?_
        refine lv_iadd hx hb dX4_cost_46 ?_
        refine lv_iconst (v := 5) hx hb dX4_cost_47 (by decide) ?_
        refine lv_aload_n hx hb dX4_cost_48 rfl (lv_at hl 2 rfl) ?_
        refine lv_iload_n hx hb dX4_cost_49 rfl (lv_at hl 3 rfl) ?_
        refine lv_iload hx hb dX4_cost_50 (lv_at hl 0 rfl) ?_
        refine e_cV (As := [.int (nI d), .int (nI (a + i))]) (rest := [.int 5, .int ((mFlat (v 105 ((64 * d) + (a + i)))) + (mFlat (v 106 ((64 * d) + (a + i))))), .int x4]) hx hb hml hown hts 100 (c_X4_liftsOf (l := l) dn ln hm hv (nI d) (nI (a + i))) cw_RX4_98 (by decide) (by decide) hz hP hI hK (hm 100 (by decide) (by decide)) (by decide) rfl rfl rfl hl.1 rfl (Nat.le_of_ble_eq_true rfl) ⟨Nat.zero_le _, Nat.zero_le _⟩ dX4_cost_52 ?_
        refine lv_imul hx hb dX4_cost_55 ?_
        refine lv_iadd hx hb dX4_cost_56 ?_
        refine lv_iadd hx hb dX4_cost_57 ?_
        refine lv_istore (lv' := [(4, .int (x4 + (((mFlat (v 105 ((64 * d) + (a + i)))) + (mFlat (v 106 ((64 * d) + (a + i))))) + (5 * (mLiftsOf v (nI d) (nI (a + i)) ln))))), (5, .int (nI (a + i))), (0, .ref (ad 100)), (1, .int (nI d)), (2, .int (nI a)), (3, .int (nI b))]) hx hb dX4_cost_58 hl (by decide) rfl (fun ls hl => ?_)
        refine lv_iinc (v := (nI ((a + i) + 1))) (lv' := [(5, .int (nI ((a + i) + 1))), (4, .int (x4 + (((mFlat (v 105 ((64 * d) + (a + i)))) + (mFlat (v 106 ((64 * d) + (a + i))))) + (5 * (mLiftsOf v (nI d) (nI (a + i)) ln))))), (0, .ref (ad 100)), (1, .int (nI d)), (2, .int (nI a)), (3, .int (nI b))]) hx hb dX4_cost_60 hl (k := 1) rfl (nI_add (a + i) 1) (by decide) rfl (fun ls hl => ?_)
        refine lv_goto (tgt := 6) hx hb dX4_cost_63 (by decide) ?_
        exact ih6 (i + 1) (x4 + (((mFlat (v 105 ((64 * d) + (a + i)))) + (mFlat (v 106 ((64 * d) + (a + i))))) + (5 * (mLiftsOf v (nI d) (nI (a + i)) ln)))) (by omega) (by omega) (by rw [ex4]; rfl)  ls (lv_sub hl [0, 1, 2, 3, 4, 5] rfl)
  exact L6 _ 0 0 (Nat.lt_succ_self _) (Nat.zero_le _) (rfl)  ls (lv_sub hl [0, 1, 2, 3, 4, 5] rfl)

set_option maxRecDepth 100000 in
set_option maxHeartbeats 4000000 in
theorem c_X4_isBusy {l : Launch} {X : eD} {z0 : Nat} {ad kd sp : Nat → Nat} {v : eV} (hm : mK kd) (d h : Nat) (hd : d < 8) (hh : 8 ≤ h) (hh2 : h ≤ 20) : ePu l yX4_isBusy cX4_isBusy 6 (some .boolean) 0 [.ref (ad 100), .int (nI d), .int (nI h)] (e_W X z0 ad kd sp v) (some (.int (bI (mBusy v d h 3)))) := by
  refine e_pureI (by decide +kernel) (Nat.le_of_ble_eq_true rfl) (bI_nar _) ?_
  intro p e s m args below meth c hx hb hml hown hts hW Q hret ls hl
  obtain ⟨hz, hP, hI, hK⟩ := hW
  have hl : lv_has ls 6 [(0, .ref (ad 100)), (1, .int (nI d)), (2, .int (nI h))] := hl
  refine lv_iconst (v := 0) hx hb dX4_isBusy_0 (by decide) ?_
  refine lv_istore_n (lv' := [(3, .int 0), (0, .ref (ad 100)), (1, .int (nI d)), (2, .int (nI h))]) hx hb dX4_isBusy_1 rfl hl (by decide) rfl (fun ls hl => ?_)
  refine lv_iconst (v := 0) hx hb dX4_isBusy_2 (by decide) ?_
  refine lv_istore (lv' := [(4, .int 0), (3, .int 0), (0, .ref (ad 100)), (1, .int (nI d)), (2, .int (nI h))]) hx hb dX4_isBusy_3 hl (by decide) rfl (fun ls hl => ?_)
  have L5 : ∀ (k5 : Nat) (i : Nat) (b3 : Bool), 3 - i < k5 → (i ≤ 3) → (b3 = mBusy v d h i) →  ∀ ls : Array Slot, lv_has ls 6 [(4, .int (nI i)), (3, .int (bI b3)), (0, .ref (ad 100)), (1, .int (nI d)), (2, .int (nI h))] → W p l e (e_rm 0 0 0) s m args below meth c s.heap [] 0 0 Q (F0 m 5 ls []) := by
    intro k5
    induction k5 with
    | zero => intro i b3 hk; exact absurd hk (Nat.not_lt_zero _)
    | succ k5 ih5 =>
      intro i b3 hk5 hi eb3 ls hl
      refine lv_iload hx hb dX4_isBusy_5 (lv_at hl 0 rfl) ?_
      refine lv_iconst (v := 3) hx hb dX4_isBusy_7 (by decide) ?_
      refine lv_icmp_ge (tgt := 57) hx hb dX4_isBusy_8 (by decide) (fun c_1 => ?_) (fun c_1 => ?_)
      · have nc_1 : 3 ≤ i := (nI_leI (a := 3) (b := i) (by omega) (by omega)).mp c_1
        refine lv_iload_n hx hb dX4_isBusy_57 rfl (lv_at hl 1 rfl) ?_
        exact e_nrm (show (bI b3) = bI (mBusy v d h 3) from by rw [eb3, show i = 3 by omega]) (hret _ _ dX4_isBusy_58)
      · have nc_1 : ¬ 3 ≤ i := fun h => c_1 ((nI_leI (a := 3) (b := i) (by omega) (by omega)).mpr h)
        refine lv_aload_n hx hb dX4_isBusy_11 rfl (lv_at hl 2 rfl) ?_
        refine e_getf hx hb hts inX4 hown hK hP 100 12 (hm 100 (by decide) (by decide)) (by decide) rfl rfl 14 (by decide) aw_48 (fun _ h => h) rfl dX4_isBusy_12 ?_
        refine lv_bipush (v := 13) hx hb dX4_isBusy_15 (by decide) ?_
        refine lv_iload hx hb dX4_isBusy_17 (lv_at hl 0 rfl) ?_
        refine lv_imul hx hb dX4_isBusy_19 ?_
        refine e_nrm (y := (nI (13 * i))) (pk_mul 13 i) ?_
        refine lv_iload_n hx hb dX4_isBusy_20 rfl (lv_at hl 4 rfl) ?_
        refine lv_iadd hx hb dX4_isBusy_21 ?_
        refine e_nrm (y := (nI ((13 * i) + h))) (nI_add (13 * i) h) ?_
        refine lv_bipush (v := 8) hx hb dX4_isBusy_22 (by decide) ?_
        refine lv_isub hx hb dX4_isBusy_24 ?_
        refine e_nrm (y := (nI (((13 * i) + h) - 8))) (pk_sub (a := ((13 * i) + h)) (b := 8) (by omega)) ?_
        refine e_iald hx hb hK hP 113 39 (hm 113 (by decide) (by decide)) (((13 * i) + h) - 8) rfl (by omega) (by decide) dX4_isBusy_25 ?_
        refine lv_istore (lv' := [(5, .int (v 113 (((13 * i) + h) - 8))), (4, .int (nI i)), (3, .int (bI b3)), (0, .ref (ad 100)), (1, .int (nI d)), (2, .int (nI h))]) hx hb dX4_isBusy_26 hl (by decide) rfl (fun ls hl => ?_)
        refine lv_iload_n hx hb dX4_isBusy_28 rfl (lv_at hl 2 rfl) ?_
        have J29_49 : ∀ ls : Array Slot, lv_has ls 6 [(5, .int (v 113 (((13 * i) + h) - 8))), (4, .int (nI i)), (3, .int (bI b3)), (0, .ref (ad 100)), (1, .int (nI d)), (2, .int (nI h))] → W p l e (e_rm 0 0 0) s m args below meth c s.heap [] 0 0 Q (F0 m 49 ls [.int (bI (!decide (v 113 (13 * i + h - 8) < 0) && decide ((v 113 (13 * i + h - 8) >>> (nI d &&& 31)) &&& 1 = 1))), .int (bI b3)]) := by
          intro ls hl
          refine lv_ior hx hb dX4_isBusy_49 ?_
          refine e_nrm (y := bI (b3 || (!decide (v 113 (13 * i + h - 8) < 0) && decide ((v 113 (13 * i + h - 8) >>> (nI d &&& 31)) &&& 1 = 1)))) (bI_or _ _) ?_
          refine lv_istore_n (lv' := [(3, .int (bI (b3 || (!decide (v 113 (13 * i + h - 8) < 0) && decide ((v 113 (13 * i + h - 8) >>> (nI d &&& 31)) &&& 1 = 1))))), (5, .int (v 113 (((13 * i) + h) - 8))), (4, .int (nI i)), (0, .ref (ad 100)), (1, .int (nI d)), (2, .int (nI h))]) hx hb dX4_isBusy_50 rfl hl (by decide) rfl (fun ls hl => ?_)
          refine lv_iinc (v := (nI (i + 1))) (lv' := [(4, .int (nI (i + 1))), (3, .int (bI (b3 || (!decide (v 113 (13 * i + h - 8) < 0) && decide ((v 113 (13 * i + h - 8) >>> (nI d &&& 31)) &&& 1 = 1))))), (5, .int (v 113 (((13 * i) + h) - 8))), (0, .ref (ad 100)), (1, .int (nI d)), (2, .int (nI h))]) hx hb dX4_isBusy_51 hl (k := 2) rfl (nI_add i 1) (by decide) rfl (fun ls hl => ?_)
          refine lv_goto (tgt := 5) hx hb dX4_isBusy_54 (by decide) ?_
          exact ih5 (i + 1) (b3 || (!decide (v 113 (13 * i + h - 8) < 0) && decide ((v 113 (13 * i + h - 8) >>> (nI d &&& 31)) &&& 1 = 1))) (by omega) (by omega) (by rw [eb3]; rfl)  ls (lv_sub hl [0, 1, 3, 4, 5] rfl)
        refine lv_iload hx hb dX4_isBusy_29 (lv_at hl 0 rfl) ?_
        refine lv_if_lt (tgt := 48) hx hb dX4_isBusy_31 (by decide) (fun c_2 => ?_) (fun c_2 => ?_)
        · skip
          refine lv_iconst (v := 0) hx hb dX4_isBusy_48 (by decide) ?_
          exact e_nrm (show 0 = (bI (!decide (v 113 (13 * i + h - 8) < 0) && decide ((v 113 (13 * i + h - 8) >>> (nI d &&& 31)) &&& 1 = 1))) from (by first | (simp [bI, nc_1, c_2]; done) | (exfalso; simp_all; done))) (J29_49 ls (lv_sub hl [0, 1, 2, 3, 4, 5] rfl))
        · skip
          refine lv_iload hx hb dX4_isBusy_34 (lv_at hl 0 rfl) ?_
          refine lv_iload_n hx hb dX4_isBusy_36 rfl (lv_at hl 4 rfl) ?_
          refine lv_ishr hx hb dX4_isBusy_37 ?_
          refine lv_iconst (v := 1) hx hb dX4_isBusy_38 (by decide) ?_
          refine lv_iand hx hb dX4_isBusy_39 ?_
          refine lv_iconst (v := 1) hx hb dX4_isBusy_40 (by decide) ?_
          refine lv_icmp_ne (tgt := 48) hx hb dX4_isBusy_41 (by decide) (fun c_3 => ?_) (fun c_3 => ?_)
          · skip
            refine lv_iconst (v := 0) hx hb dX4_isBusy_48 (by decide) ?_
            exact e_nrm (show 0 = (bI (!decide (v 113 (13 * i + h - 8) < 0) && decide ((v 113 (13 * i + h - 8) >>> (nI d &&& 31)) &&& 1 = 1))) from (by first | (simp [bI, nc_1, c_2, eq_false c_3]; done) | (exfalso; simp_all; done))) (J29_49 ls (lv_sub hl [0, 1, 2, 3, 4, 5] rfl))
          · skip
            refine lv_iconst (v := 1) hx hb dX4_isBusy_44 (by decide) ?_
            refine lv_goto (tgt := 49) hx hb dX4_isBusy_45 (by decide) ?_
            exact e_nrm (show 1 = (bI (!decide (v 113 (13 * i + h - 8) < 0) && decide ((v 113 (13 * i + h - 8) >>> (nI d &&& 31)) &&& 1 = 1))) from (by first | (simp [bI, nc_1, c_2, eq_true c_3]; done) | (exfalso; simp_all; done))) (J29_49 ls (lv_sub hl [0, 1, 2, 3, 4, 5] rfl))
  exact L5 _ 0 false (Nat.lt_succ_self _) (Nat.zero_le _) (rfl)  ls (lv_sub hl [0, 1, 2, 3, 4] rfl)

set_option maxRecDepth 100000 in
set_option maxHeartbeats 4000000 in
theorem c_X4_stands {l : Launch} {X : eD} {z0 : Nat} {ad kd sp : Nat → Nat} {v : eV} (dn ln : Nat) (hm : mK kd) (hv : mI dn ln v) (i : Nat) (hi : i < ln) (c0 dl da db : Nat) (hc0 : c0 < 64) (hdl : dl < dn) (hda : da < dn) (hdb : db < dn) (ec : v 107 i = nI c0) (el : v 108 i = nI dl) (ea : v 109 i = nI da) (eb : v 110 i = nI db) : ePu l yX4_stands cX4_stands 5 (some .boolean) 3 [.ref (ad 100), .int (nI i)] (e_W X z0 ad kd sp v) (some (.int (bI (mStands v i c0 dl da db ln)))) := by
  refine e_pureI (by decide +kernel) (Nat.le_of_ble_eq_true rfl) (bI_nar _) ?_
  intro p e s m args below meth c hx hb hml hown hts hW Q hret ls hl
  obtain ⟨hz, hP, hI, hK⟩ := hW
  have hl : lv_has ls 5 [(0, .ref (ad 100)), (1, .int (nI i))] := hl
  have hd8 := hv.2.2.1
  have hl12 := hv.2.2.2.1
  refine lv_aload_n hx hb dX4_stands_0 rfl (lv_at hl 0 rfl) ?_
  refine e_getf hx hb hts inX4 hown hK hP 100 12 (hm 100 (by decide) (by decide)) (by decide) rfl rfl 7 (by decide) aw_26 (fun _ h => h) rfl dX4_stands_1 ?_
  refine lv_iload_n hx hb dX4_stands_4 rfl (lv_at hl 1 rfl) ?_
  refine e_iald hx hb hK hP 107 12 (hm 107 (by decide) (by decide)) i rfl (by omega) (by decide) dX4_stands_5 ?_
  refine e_nrm (y := nI c0) ec ?_
  refine lv_istore_n (lv' := [(2, .int (nI c0)), (0, .ref (ad 100)), (1, .int (nI i))]) hx hb dX4_stands_6 rfl hl (by decide) rfl (fun ls hl => ?_)
  have J7_52 : ∀ ls : Array Slot, lv_has ls 5 [(2, .int (nI c0)), (0, .ref (ad 100)), (1, .int (nI i))] → W p l e (e_rm 3 0 0) s m args below meth c s.heap [] 0 0 Q (F0 m 52 ls [.int (bI (mBeside v da dl c0 && mBeside v db dl c0))]) := by
    intro ls hl
    refine lv_istore_n (lv' := [(3, .int (bI (mBeside v da dl c0 && mBeside v db dl c0))), (2, .int (nI c0)), (0, .ref (ad 100)), (1, .int (nI i))]) hx hb dX4_stands_52 rfl hl (by decide) rfl (fun ls hl => ?_)
    have J53_103 : ∀ ls : Array Slot, lv_has ls 5 [(3, .int (bI (mBeside v da dl c0 && mBeside v db dl c0))), (2, .int (nI c0)), (0, .ref (ad 100)), (1, .int (nI i))] → W p l e (e_rm 3 0 0) s m args below meth c s.heap [] 0 0 Q (F0 m 103 ls [.int (bI (decide (mLiftsOf v (nI dl) (nI c0) ln = 1) && decide (mLiftsOf v (nI da) (nI c0) ln = 1) && decide (mLiftsOf v (nI db) (nI c0) ln = 1)))]) := by
      intro ls hl
      refine lv_istore (lv' := [(4, .int (bI (decide (mLiftsOf v (nI dl) (nI c0) ln = 1) && decide (mLiftsOf v (nI da) (nI c0) ln = 1) && decide (mLiftsOf v (nI db) (nI c0) ln = 1)))), (3, .int (bI (mBeside v da dl c0 && mBeside v db dl c0))), (2, .int (nI c0)), (0, .ref (ad 100)), (1, .int (nI i))]) hx hb dX4_stands_103 hl (by decide) rfl (fun ls hl => ?_)
      refine lv_iload_n hx hb dX4_stands_105 rfl (lv_at hl 1 rfl) ?_
      refine lv_if_eq (tgt := 156) hx hb dX4_stands_106 (by decide) (fun c_1 => ?_) (fun c_1 => ?_)
      · have nc_1 : (mBeside v da dl c0 && mBeside v db dl c0) = false := bI_0.mp c_1
        refine lv_iconst (v := 0) hx hb dX4_stands_156 (by decide) ?_
        exact e_nrm (show 0 = bI (mStands v i c0 dl da db ln) from (by first | (simp [mStands, bI, nc_1]; done) | (exfalso; simp_all; done))) (hret _ _ dX4_stands_157)
      · have nc_1 : (mBeside v da dl c0 && mBeside v db dl c0) = true := bI_n0.mp c_1
        refine lv_iload hx hb dX4_stands_109 (lv_at hl 0 rfl) ?_
        refine lv_if_eq (tgt := 156) hx hb dX4_stands_111 (by decide) (fun c_2 => ?_) (fun c_2 => ?_)
        · have nc_2 : (decide (mLiftsOf v (nI dl) (nI c0) ln = 1) && decide (mLiftsOf v (nI da) (nI c0) ln = 1) && decide (mLiftsOf v (nI db) (nI c0) ln = 1)) = false := bI_0.mp c_2
          refine lv_iconst (v := 0) hx hb dX4_stands_156 (by decide) ?_
          exact e_nrm (show 0 = bI (mStands v i c0 dl da db ln) from (by first | (simp [mStands, bI, nc_1, nc_2]; done) | (exfalso; simp_all; done))) (hret _ _ dX4_stands_157)
        · have nc_2 : (decide (mLiftsOf v (nI dl) (nI c0) ln = 1) && decide (mLiftsOf v (nI da) (nI c0) ln = 1) && decide (mLiftsOf v (nI db) (nI c0) ln = 1)) = true := bI_n0.mp c_2
          refine lv_aload_n hx hb dX4_stands_114 rfl (lv_at hl 3 rfl) ?_
          refine e_getf hx hb hts inX4 hown hK hP 100 12 (hm 100 (by decide) (by decide)) (by decide) rfl rfl 2 (by decide) aw_49 (fun _ h => h) rfl dX4_stands_115 ?_
          refine lv_aload_n hx hb dX4_stands_118 rfl (lv_at hl 3 rfl) ?_
          refine e_getf hx hb hts inX4 hown hK hP 100 12 (hm 100 (by decide) (by decide)) (by decide) rfl rfl 8 (by decide) aw_21 (fun _ h => h) rfl dX4_stands_119 ?_
          refine lv_iload_n hx hb dX4_stands_122 rfl (lv_at hl 4 rfl) ?_
          refine e_iald hx hb hK hP 108 12 (hm 108 (by decide) (by decide)) i rfl (by omega) (by decide) dX4_stands_123 ?_
          refine e_nrm (y := nI dl) el ?_
          refine e_iald hx hb hK hP 103 8 (hm 103 (by decide) (by decide)) dl rfl (by omega) (by decide) dX4_stands_124 ?_
          refine lv_aload_n hx hb dX4_stands_125 rfl (lv_at hl 3 rfl) ?_
          refine e_getf hx hb hts inX4 hown hK hP 100 12 (hm 100 (by decide) (by decide)) (by decide) rfl rfl 2 (by decide) aw_49 (fun _ h => h) rfl dX4_stands_126 ?_
          refine lv_aload_n hx hb dX4_stands_129 rfl (lv_at hl 3 rfl) ?_
          refine e_getf hx hb hts inX4 hown hK hP 100 12 (hm 100 (by decide) (by decide)) (by decide) rfl rfl 9 (by decide) aw_22 (fun _ h => h) rfl dX4_stands_130 ?_
          refine lv_iload_n hx hb dX4_stands_133 rfl (lv_at hl 4 rfl) ?_
          refine e_iald hx hb hK hP 109 12 (hm 109 (by decide) (by decide)) i rfl (by omega) (by decide) dX4_stands_134 ?_
          refine e_nrm (y := nI da) ea ?_
          refine e_iald hx hb hK hP 103 8 (hm 103 (by decide) (by decide)) da rfl (by omega) (by decide) dX4_stands_135 ?_
          refine lv_iadd hx hb dX4_stands_136 ?_
          refine lv_aload_n hx hb dX4_stands_137 rfl (lv_at hl 3 rfl) ?_
          refine e_getf hx hb hts inX4 hown hK hP 100 12 (hm 100 (by decide) (by decide)) (by decide) rfl rfl 2 (by decide) aw_49 (fun _ h => h) rfl dX4_stands_138 ?_
          refine lv_aload_n hx hb dX4_stands_141 rfl (lv_at hl 3 rfl) ?_
          refine e_getf hx hb hts inX4 hown hK hP 100 12 (hm 100 (by decide) (by decide)) (by decide) rfl rfl 10 (by decide) aw_23 (fun _ h => h) rfl dX4_stands_142 ?_
          refine lv_iload_n hx hb dX4_stands_145 rfl (lv_at hl 4 rfl) ?_
          refine e_iald hx hb hK hP 110 12 (hm 110 (by decide) (by decide)) i rfl (by omega) (by decide) dX4_stands_146 ?_
          refine e_nrm (y := nI db) eb ?_
          refine e_iald hx hb hK hP 103 8 (hm 103 (by decide) (by decide)) db rfl (by omega) (by decide) dX4_stands_147 ?_
          refine lv_iadd hx hb dX4_stands_148 ?_
          refine lv_if_ne (tgt := 156) hx hb dX4_stands_149 (by decide) (fun c_3 => ?_) (fun c_3 => ?_)
          · skip
            refine lv_iconst (v := 0) hx hb dX4_stands_156 (by decide) ?_
            exact e_nrm (show 0 = bI (mStands v i c0 dl da db ln) from (by first | (simp [mStands, bI, nc_1, nc_2, c_3]; done) | (exfalso; simp_all; done))) (hret _ _ dX4_stands_157)
          · skip
            refine lv_iconst (v := 1) hx hb dX4_stands_152 (by decide) ?_
            refine lv_goto (tgt := 157) hx hb dX4_stands_153 (by decide) ?_
            exact e_nrm (show 1 = bI (mStands v i c0 dl da db ln) from (by first | (simp [mStands, bI, nc_1, nc_2, c_3]; done) | (exfalso; simp_all; done))) (hret _ _ dX4_stands_157)
    refine lv_aload_n hx hb dX4_stands_53 rfl (lv_at hl 2 rfl) ?_
    refine lv_aload_n hx hb dX4_stands_54 rfl (lv_at hl 2 rfl) ?_
    refine e_getf hx hb hts inX4 hown hK hP 100 12 (hm 100 (by decide) (by decide)) (by decide) rfl rfl 8 (by decide) aw_21 (fun _ h => h) rfl dX4_stands_55 ?_
    refine lv_iload_n hx hb dX4_stands_58 rfl (lv_at hl 3 rfl) ?_
    refine e_iald hx hb hK hP 108 12 (hm 108 (by decide) (by decide)) i rfl (by omega) (by decide) dX4_stands_59 ?_
    refine e_nrm (y := nI dl) el ?_
    refine lv_iload_n hx hb dX4_stands_60 rfl (lv_at hl 1 rfl) ?_
    refine e_cV (As := [.int (nI dl), .int (nI c0)]) (rest := []) hx hb hml hown hts 100 (c_X4_liftsOf (l := l) dn ln hm hv (nI dl) (nI c0)) cw_RX4_98 (by decide) (by decide) hz hP hI hK (hm 100 (by decide) (by decide)) (by decide) rfl rfl rfl hl.1 rfl (Nat.le_of_ble_eq_true rfl) ⟨Nat.zero_le _, Nat.zero_le _⟩ dX4_stands_61 ?_
    refine lv_iconst (v := 1) hx hb dX4_stands_64 (by decide) ?_
    refine lv_icmp_ne (tgt := 102) hx hb dX4_stands_65 (by decide) (fun c_4 => ?_) (fun c_4 => ?_)
    · skip
      refine lv_iconst (v := 0) hx hb dX4_stands_102 (by decide) ?_
      exact e_nrm (show 0 = (bI (decide (mLiftsOf v (nI dl) (nI c0) ln = 1) && decide (mLiftsOf v (nI da) (nI c0) ln = 1) && decide (mLiftsOf v (nI db) (nI c0) ln = 1))) from (by first | (simp [mStands, bI, eq_false c_4]; done) | (exfalso; simp_all; done))) (J53_103 ls (lv_sub hl [0, 1, 2, 3] rfl))
    · skip
      refine lv_aload_n hx hb dX4_stands_68 rfl (lv_at hl 2 rfl) ?_
      refine lv_aload_n hx hb dX4_stands_69 rfl (lv_at hl 2 rfl) ?_
      refine e_getf hx hb hts inX4 hown hK hP 100 12 (hm 100 (by decide) (by decide)) (by decide) rfl rfl 9 (by decide) aw_22 (fun _ h => h) rfl dX4_stands_70 ?_
      refine lv_iload_n hx hb dX4_stands_73 rfl (lv_at hl 3 rfl) ?_
      refine e_iald hx hb hK hP 109 12 (hm 109 (by decide) (by decide)) i rfl (by omega) (by decide) dX4_stands_74 ?_
      refine e_nrm (y := nI da) ea ?_
      refine lv_iload_n hx hb dX4_stands_75 rfl (lv_at hl 1 rfl) ?_
      refine e_cV (As := [.int (nI da), .int (nI c0)]) (rest := []) hx hb hml hown hts 100 (c_X4_liftsOf (l := l) dn ln hm hv (nI da) (nI c0)) cw_RX4_98 (by decide) (by decide) hz hP hI hK (hm 100 (by decide) (by decide)) (by decide) rfl rfl rfl hl.1 rfl (Nat.le_of_ble_eq_true rfl) ⟨Nat.zero_le _, Nat.zero_le _⟩ dX4_stands_76 ?_
      refine lv_iconst (v := 1) hx hb dX4_stands_79 (by decide) ?_
      refine lv_icmp_ne (tgt := 102) hx hb dX4_stands_80 (by decide) (fun c_5 => ?_) (fun c_5 => ?_)
      · skip
        refine lv_iconst (v := 0) hx hb dX4_stands_102 (by decide) ?_
        exact e_nrm (show 0 = (bI (decide (mLiftsOf v (nI dl) (nI c0) ln = 1) && decide (mLiftsOf v (nI da) (nI c0) ln = 1) && decide (mLiftsOf v (nI db) (nI c0) ln = 1))) from (by first | (simp [mStands, bI, eq_true c_4, eq_false c_5]; done) | (exfalso; simp_all; done))) (J53_103 ls (lv_sub hl [0, 1, 2, 3] rfl))
      · skip
        refine lv_aload_n hx hb dX4_stands_83 rfl (lv_at hl 2 rfl) ?_
        refine lv_aload_n hx hb dX4_stands_84 rfl (lv_at hl 2 rfl) ?_
        refine e_getf hx hb hts inX4 hown hK hP 100 12 (hm 100 (by decide) (by decide)) (by decide) rfl rfl 10 (by decide) aw_23 (fun _ h => h) rfl dX4_stands_85 ?_
        refine lv_iload_n hx hb dX4_stands_88 rfl (lv_at hl 3 rfl) ?_
        refine e_iald hx hb hK hP 110 12 (hm 110 (by decide) (by decide)) i rfl (by omega) (by decide) dX4_stands_89 ?_
        refine e_nrm (y := nI db) eb ?_
        refine lv_iload_n hx hb dX4_stands_90 rfl (lv_at hl 1 rfl) ?_
        refine e_cV (As := [.int (nI db), .int (nI c0)]) (rest := []) hx hb hml hown hts 100 (c_X4_liftsOf (l := l) dn ln hm hv (nI db) (nI c0)) cw_RX4_98 (by decide) (by decide) hz hP hI hK (hm 100 (by decide) (by decide)) (by decide) rfl rfl rfl hl.1 rfl (Nat.le_of_ble_eq_true rfl) ⟨Nat.zero_le _, Nat.zero_le _⟩ dX4_stands_91 ?_
        refine lv_iconst (v := 1) hx hb dX4_stands_94 (by decide) ?_
        refine lv_icmp_ne (tgt := 102) hx hb dX4_stands_95 (by decide) (fun c_6 => ?_) (fun c_6 => ?_)
        · skip
          refine lv_iconst (v := 0) hx hb dX4_stands_102 (by decide) ?_
          exact e_nrm (show 0 = (bI (decide (mLiftsOf v (nI dl) (nI c0) ln = 1) && decide (mLiftsOf v (nI da) (nI c0) ln = 1) && decide (mLiftsOf v (nI db) (nI c0) ln = 1))) from (by first | (simp [mStands, bI, eq_true c_4, eq_true c_5, eq_false c_6]; done) | (exfalso; simp_all; done))) (J53_103 ls (lv_sub hl [0, 1, 2, 3] rfl))
        · skip
          refine lv_iconst (v := 1) hx hb dX4_stands_98 (by decide) ?_
          refine lv_goto (tgt := 103) hx hb dX4_stands_99 (by decide) ?_
          exact e_nrm (show 1 = (bI (decide (mLiftsOf v (nI dl) (nI c0) ln = 1) && decide (mLiftsOf v (nI da) (nI c0) ln = 1) && decide (mLiftsOf v (nI db) (nI c0) ln = 1))) from (by first | (simp [mStands, bI, eq_true c_4, eq_true c_5, eq_true c_6]; done) | (exfalso; simp_all; done))) (J53_103 ls (lv_sub hl [0, 1, 2, 3] rfl))
  refine lv_aload_n hx hb dX4_stands_7 rfl (lv_at hl 1 rfl) ?_
  refine lv_aload_n hx hb dX4_stands_8 rfl (lv_at hl 1 rfl) ?_
  refine e_getf hx hb hts inX4 hown hK hP 100 12 (hm 100 (by decide) (by decide)) (by decide) rfl rfl 9 (by decide) aw_22 (fun _ h => h) rfl dX4_stands_9 ?_
  refine lv_iload_n hx hb dX4_stands_12 rfl (lv_at hl 2 rfl) ?_
  refine e_iald hx hb hK hP 109 12 (hm 109 (by decide) (by decide)) i rfl (by omega) (by decide) dX4_stands_13 ?_
  refine e_nrm (y := nI da) ea ?_
  refine lv_aload_n hx hb dX4_stands_14 rfl (lv_at hl 1 rfl) ?_
  refine e_getf hx hb hts inX4 hown hK hP 100 12 (hm 100 (by decide) (by decide)) (by decide) rfl rfl 8 (by decide) aw_21 (fun _ h => h) rfl dX4_stands_15 ?_
  refine lv_iload_n hx hb dX4_stands_18 rfl (lv_at hl 2 rfl) ?_
  refine e_iald hx hb hK hP 108 12 (hm 108 (by decide) (by decide)) i rfl (by omega) (by decide) dX4_stands_19 ?_
  refine e_nrm (y := nI dl) el ?_
  refine lv_iload_n hx hb dX4_stands_20 rfl (lv_at hl 0 rfl) ?_
  refine e_cV (As := [.int (nI da), .int (nI dl), .int (nI c0)]) (rest := []) hx hb hml hown hts 100 (c_X4_isBeside (l := l) hm da dl c0 (by omega) (by omega) (by omega)) cw_RX4_95 (by decide) (by decide) hz hP hI hK (hm 100 (by decide) (by decide)) (by decide) rfl rfl rfl hl.1 rfl (Nat.le_of_ble_eq_true rfl) ⟨Nat.zero_le _, Nat.zero_le _⟩ dX4_stands_21 ?_
  refine lv_if_eq (tgt := 51) hx hb dX4_stands_24 (by decide) (fun c_7 => ?_) (fun c_7 => ?_)
  · have nc_7 : (mBeside v da dl c0) = false := bI_0.mp c_7
    refine lv_iconst (v := 0) hx hb dX4_stands_51 (by decide) ?_
    exact e_nrm (show 0 = (bI (mBeside v da dl c0 && mBeside v db dl c0)) from (by first | (simp [mStands, bI, nc_7]; done) | (exfalso; simp_all; done))) (J7_52 ls (lv_sub hl [0, 1, 2] rfl))
  · have nc_7 : (mBeside v da dl c0) = true := bI_n0.mp c_7
    refine lv_aload_n hx hb dX4_stands_27 rfl (lv_at hl 1 rfl) ?_
    refine lv_aload_n hx hb dX4_stands_28 rfl (lv_at hl 1 rfl) ?_
    refine e_getf hx hb hts inX4 hown hK hP 100 12 (hm 100 (by decide) (by decide)) (by decide) rfl rfl 10 (by decide) aw_23 (fun _ h => h) rfl dX4_stands_29 ?_
    refine lv_iload_n hx hb dX4_stands_32 rfl (lv_at hl 2 rfl) ?_
    refine e_iald hx hb hK hP 110 12 (hm 110 (by decide) (by decide)) i rfl (by omega) (by decide) dX4_stands_33 ?_
    refine e_nrm (y := nI db) eb ?_
    refine lv_aload_n hx hb dX4_stands_34 rfl (lv_at hl 1 rfl) ?_
    refine e_getf hx hb hts inX4 hown hK hP 100 12 (hm 100 (by decide) (by decide)) (by decide) rfl rfl 8 (by decide) aw_21 (fun _ h => h) rfl dX4_stands_35 ?_
    refine lv_iload_n hx hb dX4_stands_38 rfl (lv_at hl 2 rfl) ?_
    refine e_iald hx hb hK hP 108 12 (hm 108 (by decide) (by decide)) i rfl (by omega) (by decide) dX4_stands_39 ?_
    refine e_nrm (y := nI dl) el ?_
    refine lv_iload_n hx hb dX4_stands_40 rfl (lv_at hl 0 rfl) ?_
    refine e_cV (As := [.int (nI db), .int (nI dl), .int (nI c0)]) (rest := []) hx hb hml hown hts 100 (c_X4_isBeside (l := l) hm db dl c0 (by omega) (by omega) (by omega)) cw_RX4_95 (by decide) (by decide) hz hP hI hK (hm 100 (by decide) (by decide)) (by decide) rfl rfl rfl hl.1 rfl (Nat.le_of_ble_eq_true rfl) ⟨Nat.zero_le _, Nat.zero_le _⟩ dX4_stands_41 ?_
    refine lv_if_eq (tgt := 51) hx hb dX4_stands_44 (by decide) (fun c_8 => ?_) (fun c_8 => ?_)
    · have nc_8 : (mBeside v db dl c0) = false := bI_0.mp c_8
      refine lv_iconst (v := 0) hx hb dX4_stands_51 (by decide) ?_
      exact e_nrm (show 0 = (bI (mBeside v da dl c0 && mBeside v db dl c0)) from (by first | (simp [mStands, bI, nc_7, nc_8]; done) | (exfalso; simp_all; done))) (J7_52 ls (lv_sub hl [0, 1, 2] rfl))
    · have nc_8 : (mBeside v db dl c0) = true := bI_n0.mp c_8
      refine lv_iconst (v := 1) hx hb dX4_stands_47 (by decide) ?_
      refine lv_goto (tgt := 52) hx hb dX4_stands_48 (by decide) ?_
      exact e_nrm (show 1 = (bI (mBeside v da dl c0 && mBeside v db dl c0)) from (by first | (simp [mStands, bI, nc_7, nc_8]; done) | (exfalso; simp_all; done))) (J7_52 ls (lv_sub hl [0, 1, 2] rfl))

set_option maxRecDepth 100000 in
set_option maxHeartbeats 4000000 in
theorem c_X4_clash {l : Launch} {X : eD} {z0 : Nat} {ad kd sp : Nat → Nat} {v : eV} (dn ln : Nat) (hm : mK kd) (hv : mI dn ln v) (c0 : Nat) (hc0 : c0 < 64) : ePu l yX4_clash cX4_clash 5 (some .int) 2 [.ref (ad 100), .int (nI c0)] (e_W X z0 ad kd sp v) (some (.int (mClash v c0 dn))) := by
  refine e_pureI (by decide +kernel) (Nat.le_of_ble_eq_true rfl) rfl ?_
  intro p e s m args below meth c hx hb hml hown hts hW Q hret ls hl
  obtain ⟨hz, hP, hI, hK⟩ := hW
  have hl : lv_has ls 5 [(0, .ref (ad 100)), (1, .int (nI c0))] := hl
  have hd8 := hv.2.2.1
  have hl12 := hv.2.2.2.1
  refine lv_iconst (v := 0) hx hb dX4_clash_0 (by decide) ?_
  refine lv_istore_n (lv' := [(2, .int 0), (0, .ref (ad 100)), (1, .int (nI c0))]) hx hb dX4_clash_1 rfl hl (by decide) rfl (fun ls hl => ?_)
  refine lv_iconst (v := 0) hx hb dX4_clash_2 (by decide) ?_
  refine lv_istore_n (lv' := [(3, .int 0), (2, .int 0), (0, .ref (ad 100)), (1, .int (nI c0))]) hx hb dX4_clash_3 rfl hl (by decide) rfl (fun ls hl => ?_)
  have L4 : ∀ (k4 : Nat) (i : Nat) (x2 : Int32), dn - i < k4 → (i ≤ dn) → (x2 = mClash v c0 i) →  ∀ ls : Array Slot, lv_has ls 5 [(3, .int (nI i)), (2, .int x2), (0, .ref (ad 100)), (1, .int (nI c0))] → W p l e (e_rm 2 0 0) s m args below meth c s.heap [] 0 0 Q (F0 m 4 ls []) := by
    intro k4
    induction k4 with
    | zero => intro i x2 hk; exact absurd hk (Nat.not_lt_zero _)
    | succ k4 ih4 =>
      intro i x2 hk4 hi ex2 ls hl
      refine lv_iload_n hx hb dX4_clash_4 rfl (lv_at hl 0 rfl) ?_
      refine lv_aload_n hx hb dX4_clash_5 rfl (lv_at hl 2 rfl) ?_
      refine e_getf hx hb hts inX4 hown hK hP 100 12 (hm 100 (by decide) (by decide)) (by decide) rfl rfl 4 (by decide) aw_0 (fun _ h => h) rfl dX4_clash_6 ?_
      refine e_nrm (y := nI dn) (hv.1) ?_
      refine lv_icmp_ge (tgt := 121) hx hb dX4_clash_9 (by decide) (fun c_1 => ?_) (fun c_1 => ?_)
      · have nc_1 : dn ≤ i := (nI_leI (a := dn) (b := i) (by omega) (by omega)).mp c_1
        refine lv_iload_n hx hb dX4_clash_121 rfl (lv_at hl 1 rfl) ?_
        exact e_nrm (show x2 = mClash v c0 dn from by rw [ex2, show i = dn by omega]) (hret _ _ dX4_clash_122)
      · have nc_1 : ¬ dn ≤ i := fun h => c_1 ((nI_leI (a := dn) (b := i) (by omega) (by omega)).mpr h)
        refine lv_iload_n hx hb dX4_clash_12 rfl (lv_at hl 1 rfl) ?_
        have J13_50 : ∀ ls : Array Slot, lv_has ls 5 [(3, .int (nI i)), (2, .int x2), (0, .ref (ad 100)), (1, .int (nI c0))] → W p l e (e_rm 2 0 0) s m args below meth c s.heap [] 0 0 Q (F0 m 50 ls [.int (mOffI v i c0), .int x2]) := by
          intro ls hl
          refine lv_iadd hx hb dX4_clash_50 ?_
          refine lv_istore_n (lv' := [(2, .int (x2 + (mOffI v i c0))), (3, .int (nI i)), (0, .ref (ad 100)), (1, .int (nI c0))]) hx hb dX4_clash_51 rfl hl (by decide) rfl (fun ls hl => ?_)
          refine lv_iconst (v := 0) hx hb dX4_clash_52 (by decide) ?_
          refine lv_istore (lv' := [(4, .int 0), (2, .int (x2 + (mOffI v i c0))), (3, .int (nI i)), (0, .ref (ad 100)), (1, .int (nI c0))]) hx hb dX4_clash_53 hl (by decide) rfl (fun ls hl => ?_)
          have L55 : ∀ (k55 : Nat) (j : Nat) (x4 : Int32), i - j < k55 → (j ≤ i) → (x4 = x2 + mOffI v i c0 + mPairs v c0 i j) →  ∀ ls : Array Slot, lv_has ls 5 [(4, .int (nI j)), (2, .int x4), (3, .int (nI i)), (0, .ref (ad 100)), (1, .int (nI c0))] → W p l e (e_rm 2 0 0) s m args below meth c s.heap [] 0 0 Q (F0 m 55 ls []) := by
            intro k55
            induction k55 with
            | zero => intro j x4 hk; exact absurd hk (Nat.not_lt_zero _)
            | succ k55 ih55 =>
              intro j x4 hk55 hj ex4 ls hl
              refine lv_iload hx hb dX4_clash_55 (lv_at hl 0 rfl) ?_
              refine lv_iload_n hx hb dX4_clash_57 rfl (lv_at hl 2 rfl) ?_
              refine lv_icmp_ge (tgt := 115) hx hb dX4_clash_58 (by decide) (fun c_2 => ?_) (fun c_2 => ?_)
              · have nc_2 : i ≤ j := (nI_leI (a := i) (b := j) (by omega) (by omega)).mp c_2
                refine lv_iinc (v := (nI (i + 1))) (lv' := [(3, .int (nI (i + 1))), (4, .int (nI j)), (2, .int x4), (0, .ref (ad 100)), (1, .int (nI c0))]) hx hb dX4_clash_115 hl (k := 2) rfl (nI_add i 1) (by decide) rfl (fun ls hl => ?_)
                refine lv_goto (tgt := 4) hx hb dX4_clash_118 (by decide) ?_
                exact ih4 (i + 1) x4 (by omega) (by omega) (by rw [ex4, show j = i by omega, ex2]; rfl)  ls (lv_sub hl [0, 2, 3, 4] rfl)
              · have nc_2 : ¬ i ≤ j := fun h => c_2 ((nI_leI (a := i) (b := j) (by omega) (by omega)).mpr h)
                refine lv_iload_n hx hb dX4_clash_61 rfl (lv_at hl 1 rfl) ?_
                have J62_107 : ∀ ls : Array Slot, lv_has ls 5 [(4, .int (nI j)), (2, .int x4), (3, .int (nI i)), (0, .ref (ad 100)), (1, .int (nI c0))] → W p l e (e_rm 2 0 0) s m args below meth c s.heap [] 0 0 Q (F0 m 107 ls [.int (bI (mPair v i j c0)), .int x4]) := by
                  intro ls hl
                  refine lv_iadd hx hb dX4_clash_107 ?_
                  refine lv_istore_n (lv' := [(2, .int (x4 + (bI (mPair v i j c0)))), (4, .int (nI j)), (3, .int (nI i)), (0, .ref (ad 100)), (1, .int (nI c0))]) hx hb dX4_clash_108 rfl hl (by decide) rfl (fun ls hl => ?_)
                  refine lv_iinc (v := (nI (j + 1))) (lv' := [(4, .int (nI (j + 1))), (2, .int (x4 + (bI (mPair v i j c0)))), (3, .int (nI i)), (0, .ref (ad 100)), (1, .int (nI c0))]) hx hb dX4_clash_109 hl (k := 1) rfl (nI_add j 1) (by decide) rfl (fun ls hl => ?_)
                  refine lv_goto (tgt := 55) hx hb dX4_clash_112 (by decide) ?_
                  exact ih55 (j + 1) (x4 + (bI (mPair v i j c0))) (by omega) (by omega) (by rw [ex4, Int32.add_assoc]; rfl)  ls (lv_sub hl [0, 1, 2, 3, 4] rfl)
                refine lv_aload_n hx hb dX4_clash_62 rfl (lv_at hl 3 rfl) ?_
                refine lv_iload_n hx hb dX4_clash_63 rfl (lv_at hl 2 rfl) ?_
                refine lv_iload_n hx hb dX4_clash_64 rfl (lv_at hl 4 rfl) ?_
                refine lv_iload hx hb dX4_clash_65 (lv_at hl 0 rfl) ?_
                refine lv_iload_n hx hb dX4_clash_67 rfl (lv_at hl 4 rfl) ?_
                refine e_cV (As := [.int (nI i), .int (nI c0), .int (nI j), .int (nI c0)]) (rest := [.int x4]) hx hb hml hown hts 100 (c_X4_isAt (l := l) hm i (c0 + 1) j (c0 + 1) (nI c0) (nI c0) (by omega) (by omega) (nI_1 c0) (by omega) (by omega) (nI_1 c0)) cw_RX4_80 (by decide) (by decide) hz hP hI hK (hm 100 (by decide) (by decide)) (by decide) rfl rfl rfl hl.1 rfl (Nat.le_of_ble_eq_true rfl) ⟨Nat.zero_le _, Nat.zero_le _⟩ dX4_clash_68 ?_
                refine lv_if_ne (tgt := 102) hx hb dX4_clash_71 (by decide) (fun c_3 => ?_) (fun c_3 => ?_)
                · have nc_3 : (mAt v i (c0 + 1) j (c0 + 1)) = true := bI_n0.mp c_3
                  refine lv_iconst (v := 1) hx hb dX4_clash_102 (by decide) ?_
                  refine lv_goto (tgt := 107) hx hb dX4_clash_103 (by decide) ?_
                  exact e_nrm (show 1 = (bI (mPair v i j c0)) from (by first | (simp [mOffI, mPair, bI, nc_1, nc_2, nc_3]; done) | (exfalso; simp_all; done))) (J62_107 ls (lv_sub hl [0, 1, 2, 3, 4] rfl))
                · have nc_3 : (mAt v i (c0 + 1) j (c0 + 1)) = false := bI_0.mp c_3
                  refine lv_aload_n hx hb dX4_clash_74 rfl (lv_at hl 3 rfl) ?_
                  refine lv_iload_n hx hb dX4_clash_75 rfl (lv_at hl 2 rfl) ?_
                  refine lv_iload_n hx hb dX4_clash_76 rfl (lv_at hl 4 rfl) ?_
                  refine lv_iload hx hb dX4_clash_77 (lv_at hl 0 rfl) ?_
                  refine lv_iload_n hx hb dX4_clash_79 rfl (lv_at hl 4 rfl) ?_
                  refine lv_iconst (v := 1) hx hb dX4_clash_80 (by decide) ?_
                  refine lv_isub hx hb dX4_clash_81 ?_
                  refine e_cV (As := [.int (nI i), .int (nI c0), .int (nI j), .int ((nI c0) - 1)]) (rest := [.int x4]) hx hb hml hown hts 100 (c_X4_isAt (l := l) hm i (c0 + 1) j c0 (nI c0) ((nI c0) - 1) (by omega) (by omega) (nI_1 c0) (by omega) (by omega) (e_sub1)) cw_RX4_80 (by decide) (by decide) hz hP hI hK (hm 100 (by decide) (by decide)) (by decide) rfl rfl rfl hl.1 rfl (Nat.le_of_ble_eq_true rfl) ⟨Nat.zero_le _, Nat.zero_le _⟩ dX4_clash_82 ?_
                  refine lv_if_eq (tgt := 106) hx hb dX4_clash_85 (by decide) (fun c_4 => ?_) (fun c_4 => ?_)
                  · have nc_4 : (mAt v i (c0 + 1) j c0) = false := bI_0.mp c_4
                    refine lv_iconst (v := 0) hx hb dX4_clash_106 (by decide) ?_
                    exact e_nrm (show 0 = (bI (mPair v i j c0)) from (by first | (simp [mOffI, mPair, bI, nc_1, nc_2, nc_3, nc_4]; done) | (exfalso; simp_all; done))) (J62_107 ls (lv_sub hl [0, 1, 2, 3, 4] rfl))
                  · have nc_4 : (mAt v i (c0 + 1) j c0) = true := bI_n0.mp c_4
                    refine lv_aload_n hx hb dX4_clash_88 rfl (lv_at hl 3 rfl) ?_
                    refine lv_iload hx hb dX4_clash_89 (lv_at hl 0 rfl) ?_
                    refine lv_iload_n hx hb dX4_clash_91 rfl (lv_at hl 4 rfl) ?_
                    refine lv_iload_n hx hb dX4_clash_92 rfl (lv_at hl 2 rfl) ?_
                    refine lv_iload_n hx hb dX4_clash_93 rfl (lv_at hl 4 rfl) ?_
                    refine lv_iconst (v := 1) hx hb dX4_clash_94 (by decide) ?_
                    refine lv_isub hx hb dX4_clash_95 ?_
                    refine e_cV (As := [.int (nI j), .int (nI c0), .int (nI i), .int ((nI c0) - 1)]) (rest := [.int x4]) hx hb hml hown hts 100 (c_X4_isAt (l := l) hm j (c0 + 1) i c0 (nI c0) ((nI c0) - 1) (by omega) (by omega) (nI_1 c0) (by omega) (by omega) (e_sub1)) cw_RX4_80 (by decide) (by decide) hz hP hI hK (hm 100 (by decide) (by decide)) (by decide) rfl rfl rfl hl.1 rfl (Nat.le_of_ble_eq_true rfl) ⟨Nat.zero_le _, Nat.zero_le _⟩ dX4_clash_96 ?_
                    refine lv_if_eq (tgt := 106) hx hb dX4_clash_99 (by decide) (fun c_5 => ?_) (fun c_5 => ?_)
                    · have nc_5 : (mAt v j (c0 + 1) i c0) = false := bI_0.mp c_5
                      refine lv_iconst (v := 0) hx hb dX4_clash_106 (by decide) ?_
                      exact e_nrm (show 0 = (bI (mPair v i j c0)) from (by first | (simp [mOffI, mPair, bI, nc_1, nc_2, nc_3, nc_4, nc_5]; done) | (exfalso; simp_all; done))) (J62_107 ls (lv_sub hl [0, 1, 2, 3, 4] rfl))
                    · have nc_5 : (mAt v j (c0 + 1) i c0) = true := bI_n0.mp c_5
                      refine lv_iconst (v := 1) hx hb dX4_clash_102 (by decide) ?_
                      refine lv_goto (tgt := 107) hx hb dX4_clash_103 (by decide) ?_
                      exact e_nrm (show 1 = (bI (mPair v i j c0)) from (by first | (simp [mOffI, mPair, bI, nc_1, nc_2, nc_3, nc_4, nc_5]; done) | (exfalso; simp_all; done))) (J62_107 ls (lv_sub hl [0, 1, 2, 3, 4] rfl))
          exact L55 _ 0 (x2 + mOffI v i c0) (Nat.lt_succ_self _) (Nat.zero_le _) (by show _ = _ + 0; rw [Int32.add_zero])  ls (lv_sub hl [0, 1, 2, 3, 4] rfl)
        refine lv_aload_n hx hb dX4_clash_13 rfl (lv_at hl 2 rfl) ?_
        refine lv_aload_n hx hb dX4_clash_14 rfl (lv_at hl 2 rfl) ?_
        refine lv_iload_n hx hb dX4_clash_15 rfl (lv_at hl 0 rfl) ?_
        refine lv_iload_n hx hb dX4_clash_16 rfl (lv_at hl 3 rfl) ?_
        refine e_cV (As := [.int (nI i), .int (nI c0)]) (rest := [.ref (ad 100), .int x2]) hx hb hml hown hts 100 (c_X4_x (l := l) hm i (c0 + 1) (nI c0) (by omega) (by omega) (nI_1 c0)) cw_RX4_77 (by decide) (by decide) hz hP hI hK (hm 100 (by decide) (by decide)) (by decide) rfl rfl rfl hl.1 rfl (Nat.le_of_ble_eq_true rfl) ⟨Nat.zero_le _, Nat.zero_le _⟩ dX4_clash_17 ?_
        refine lv_iconst (v := 0) hx hb dX4_clash_20 (by decide) ?_
        refine lv_bipush (v := 7) hx hb dX4_clash_21 (by decide) ?_
        refine e_cV (As := [.int (mX v i (c0 + 1)), .int 0, .int 7]) (rest := [.int x2]) hx hb hml hown hts 100 (c_X4_in (l := l) hm (mX v i (c0 + 1)) 0 7) cw_RX4_59 (by decide) (by decide) hz hP hI hK (hm 100 (by decide) (by decide)) (by decide) rfl rfl rfl hl.1 rfl (Nat.le_of_ble_eq_true rfl) ⟨Nat.zero_le _, Nat.zero_le _⟩ dX4_clash_23 ?_
        refine lv_if_eq (tgt := 49) hx hb dX4_clash_26 (by decide) (fun c_6 => ?_) (fun c_6 => ?_)
        · have nc_6 : (mIn (mX v i (c0 + 1)) 0 7) = false := bI_0.mp c_6
          refine lv_iconst (v := 1) hx hb dX4_clash_49 (by decide) ?_
          exact e_nrm (show 1 = (mOffI v i c0) from (by first | (simp [mOffI, mPair, bI, nc_1, nc_6]; done) | (exfalso; simp_all; done))) (J13_50 ls (lv_sub hl [0, 1, 2, 3] rfl))
        · have nc_6 : (mIn (mX v i (c0 + 1)) 0 7) = true := bI_n0.mp c_6
          refine lv_aload_n hx hb dX4_clash_29 rfl (lv_at hl 2 rfl) ?_
          refine lv_aload_n hx hb dX4_clash_30 rfl (lv_at hl 2 rfl) ?_
          refine lv_iload_n hx hb dX4_clash_31 rfl (lv_at hl 0 rfl) ?_
          refine lv_iload_n hx hb dX4_clash_32 rfl (lv_at hl 3 rfl) ?_
          refine e_cV (As := [.int (nI i), .int (nI c0)]) (rest := [.ref (ad 100), .int x2]) hx hb hml hown hts 100 (c_X4_y (l := l) hm i (c0 + 1) (nI c0) (by omega) (by omega) (nI_1 c0)) cw_RX4_73 (by decide) (by decide) hz hP hI hK (hm 100 (by decide) (by decide)) (by decide) rfl rfl rfl hl.1 rfl (Nat.le_of_ble_eq_true rfl) ⟨Nat.zero_le _, Nat.zero_le _⟩ dX4_clash_33 ?_
          refine lv_iconst (v := 0) hx hb dX4_clash_36 (by decide) ?_
          refine lv_bipush (v := 7) hx hb dX4_clash_37 (by decide) ?_
          refine e_cV (As := [.int (mY v i (c0 + 1)), .int 0, .int 7]) (rest := [.int x2]) hx hb hml hown hts 100 (c_X4_in (l := l) hm (mY v i (c0 + 1)) 0 7) cw_RX4_59 (by decide) (by decide) hz hP hI hK (hm 100 (by decide) (by decide)) (by decide) rfl rfl rfl hl.1 rfl (Nat.le_of_ble_eq_true rfl) ⟨Nat.zero_le _, Nat.zero_le _⟩ dX4_clash_39 ?_
          refine lv_if_eq (tgt := 49) hx hb dX4_clash_42 (by decide) (fun c_7 => ?_) (fun c_7 => ?_)
          · have nc_7 : (mIn (mY v i (c0 + 1)) 0 7) = false := bI_0.mp c_7
            refine lv_iconst (v := 1) hx hb dX4_clash_49 (by decide) ?_
            exact e_nrm (show 1 = (mOffI v i c0) from (by first | (simp [mOffI, mPair, bI, nc_1, nc_6, nc_7]; done) | (exfalso; simp_all; done))) (J13_50 ls (lv_sub hl [0, 1, 2, 3] rfl))
          · have nc_7 : (mIn (mY v i (c0 + 1)) 0 7) = true := bI_n0.mp c_7
            refine lv_iconst (v := 0) hx hb dX4_clash_45 (by decide) ?_
            refine lv_goto (tgt := 50) hx hb dX4_clash_46 (by decide) ?_
            exact e_nrm (show 0 = (mOffI v i c0) from (by first | (simp [mOffI, mPair, bI, nc_1, nc_6, nc_7]; done) | (exfalso; simp_all; done))) (J13_50 ls (lv_sub hl [0, 1, 2, 3] rfl))
  exact L4 _ 0 0 (Nat.lt_succ_self _) (Nat.zero_le _) (rfl)  ls (lv_sub hl [0, 1, 2, 3] rfl)

set_option maxRecDepth 100000 in
set_option maxHeartbeats 4000000 in
theorem c_X4_canCome {l : Launch} {X : eD} {z0 : Nat} {ad kd sp : Nat → Nat} {v : eV} (hm : mK kd) (d h c0 : Nat) (hd : d < 8) (hh : h < 8) (hc0 : c0 < 64) : ePu l yX4_canCome cX4_canCome 7 (some .boolean) 1 [.ref (ad 100), .int (nI d), .int (nI h), .int (nI c0)] (e_W X z0 ad kd sp v) (some (.int (bI (mCanCome v d h c0)))) := by
  refine e_pureI (by decide +kernel) (Nat.le_of_ble_eq_true rfl) (bI_nar _) ?_
  intro p e s m args below meth c hx hb hml hown hts hW Q hret ls hl
  obtain ⟨hz, hP, hI, hK⟩ := hW
  have hl : lv_has ls 7 [(0, .ref (ad 100)), (1, .int (nI d)), (2, .int (nI h)), (3, .int (nI c0))] := hl
  refine lv_aload_n hx hb dX4_canCome_0 rfl (lv_at hl 0 rfl) ?_
  refine lv_iload_n hx hb dX4_canCome_1 rfl (lv_at hl 2 rfl) ?_
  refine lv_iload_n hx hb dX4_canCome_2 rfl (lv_at hl 3 rfl) ?_
  refine e_cV (As := [.int (nI h), .int (nI c0)]) (rest := []) hx hb hml hown hts 100 (c_X4_x (l := l) hm h (c0 + 1) (nI c0) (by omega) (by omega) (nI_1 c0)) cw_RX4_77 (by decide) (by decide) hz hP hI hK (hm 100 (by decide) (by decide)) (by decide) rfl rfl rfl hl.1 rfl (Nat.le_of_ble_eq_true rfl) ⟨Nat.zero_le _, Nat.zero_le _⟩ dX4_canCome_3 ?_
  refine lv_aload_n hx hb dX4_canCome_6 rfl (lv_at hl 0 rfl) ?_
  refine lv_iload_n hx hb dX4_canCome_7 rfl (lv_at hl 1 rfl) ?_
  refine lv_iload_n hx hb dX4_canCome_8 rfl (lv_at hl 3 rfl) ?_
  refine e_cV (As := [.int (nI d), .int (nI c0)]) (rest := [.int (mX v h (c0 + 1))]) hx hb hml hown hts 100 (c_X4_x (l := l) hm d (c0 + 1) (nI c0) (by omega) (by omega) (nI_1 c0)) cw_RX4_77 (by decide) (by decide) hz hP hI hK (hm 100 (by decide) (by decide)) (by decide) rfl rfl rfl hl.1 rfl (Nat.le_of_ble_eq_true rfl) ⟨Nat.zero_le _, Nat.zero_le _⟩ dX4_canCome_9 ?_
  refine lv_isub hx hb dX4_canCome_12 ?_
  refine lv_istore (lv' := [(4, .int ((mX v h (c0 + 1)) - (mX v d (c0 + 1)))), (0, .ref (ad 100)), (1, .int (nI d)), (2, .int (nI h)), (3, .int (nI c0))]) hx hb dX4_canCome_13 hl (by decide) rfl (fun ls hl => ?_)
  refine lv_aload_n hx hb dX4_canCome_15 rfl (lv_at hl 1 rfl) ?_
  refine lv_iload_n hx hb dX4_canCome_16 rfl (lv_at hl 3 rfl) ?_
  refine lv_iload_n hx hb dX4_canCome_17 rfl (lv_at hl 4 rfl) ?_
  refine e_cV (As := [.int (nI h), .int (nI c0)]) (rest := []) hx hb hml hown hts 100 (c_X4_y (l := l) hm h (c0 + 1) (nI c0) (by omega) (by omega) (nI_1 c0)) cw_RX4_73 (by decide) (by decide) hz hP hI hK (hm 100 (by decide) (by decide)) (by decide) rfl rfl rfl hl.1 rfl (Nat.le_of_ble_eq_true rfl) ⟨Nat.zero_le _, Nat.zero_le _⟩ dX4_canCome_18 ?_
  refine lv_aload_n hx hb dX4_canCome_21 rfl (lv_at hl 1 rfl) ?_
  refine lv_iload_n hx hb dX4_canCome_22 rfl (lv_at hl 2 rfl) ?_
  refine lv_iload_n hx hb dX4_canCome_23 rfl (lv_at hl 4 rfl) ?_
  refine e_cV (As := [.int (nI d), .int (nI c0)]) (rest := [.int (mY v h (c0 + 1))]) hx hb hml hown hts 100 (c_X4_y (l := l) hm d (c0 + 1) (nI c0) (by omega) (by omega) (nI_1 c0)) cw_RX4_73 (by decide) (by decide) hz hP hI hK (hm 100 (by decide) (by decide)) (by decide) rfl rfl rfl hl.1 rfl (Nat.le_of_ble_eq_true rfl) ⟨Nat.zero_le _, Nat.zero_le _⟩ dX4_canCome_24 ?_
  refine lv_isub hx hb dX4_canCome_27 ?_
  refine lv_istore (lv' := [(5, .int ((mY v h (c0 + 1)) - (mY v d (c0 + 1)))), (4, .int ((mX v h (c0 + 1)) - (mX v d (c0 + 1)))), (0, .ref (ad 100)), (1, .int (nI d)), (2, .int (nI h)), (3, .int (nI c0))]) hx hb dX4_canCome_28 hl (by decide) rfl (fun ls hl => ?_)
  refine lv_iload_n hx hb dX4_canCome_30 rfl (lv_at hl 5 rfl) ?_
  refine lv_bipush (v := 63) hx hb dX4_canCome_31 (by decide) ?_
  refine lv_icmp_eq (tgt := 60) hx hb dX4_canCome_33 (by decide) (fun c_1 => ?_) (fun c_1 => ?_)
  · have nc_1 : c0 = 63 := (nI_eq (a := c0) (b := 63) (by omega) (by omega)).mp c_1
    refine lv_iconst (v := 0) hx hb dX4_canCome_60 (by decide) ?_
    exact e_nrm (show 0 = bI (mCanCome v d h c0) from (by first | (simp [mCanCome, mWX, mWY, bI, nc_1]; done) | (exfalso; simp_all; done))) (hret _ _ dX4_canCome_61)
  · have nc_1 : ¬ c0 = 63 := fun h => c_1 ((nI_eq (a := c0) (b := 63) (by omega) (by omega)).mpr h)
    refine lv_aload_n hx hb dX4_canCome_36 rfl (lv_at hl 2 rfl) ?_
    refine lv_iload hx hb dX4_canCome_37 (lv_at hl 1 rfl) ?_
    refine lv_bipush (v := (-2)) hx hb dX4_canCome_39 (by decide) ?_
    refine lv_iconst (v := 2) hx hb dX4_canCome_41 (by decide) ?_
    refine e_cV (As := [.int ((mX v h (c0 + 1)) - (mX v d (c0 + 1))), .int (-2), .int 2]) (rest := []) hx hb hml hown hts 100 (c_X4_in (l := l) hm ((mX v h (c0 + 1)) - (mX v d (c0 + 1))) (-2) 2) cw_RX4_59 (by decide) (by decide) hz hP hI hK (hm 100 (by decide) (by decide)) (by decide) rfl rfl rfl hl.1 rfl (Nat.le_of_ble_eq_true rfl) ⟨Nat.zero_le _, Nat.zero_le _⟩ dX4_canCome_42 ?_
    refine lv_if_eq (tgt := 60) hx hb dX4_canCome_45 (by decide) (fun c_2 => ?_) (fun c_2 => ?_)
    · have nc_2 : (mIn ((mX v h (c0 + 1)) - (mX v d (c0 + 1))) (-2) 2) = false := bI_0.mp c_2
      refine lv_iconst (v := 0) hx hb dX4_canCome_60 (by decide) ?_
      exact e_nrm (show 0 = bI (mCanCome v d h c0) from (by first | (simp [mCanCome, mWX, mWY, bI, nc_1, nc_2]; done) | (exfalso; simp_all; done))) (hret _ _ dX4_canCome_61)
    · have nc_2 : (mIn ((mX v h (c0 + 1)) - (mX v d (c0 + 1))) (-2) 2) = true := bI_n0.mp c_2
      refine lv_aload_n hx hb dX4_canCome_48 rfl (lv_at hl 2 rfl) ?_
      refine lv_iload hx hb dX4_canCome_49 (lv_at hl 0 rfl) ?_
      refine lv_bipush (v := (-2)) hx hb dX4_canCome_51 (by decide) ?_
      refine lv_iconst (v := 2) hx hb dX4_canCome_53 (by decide) ?_
      refine e_cV (As := [.int ((mY v h (c0 + 1)) - (mY v d (c0 + 1))), .int (-2), .int 2]) (rest := []) hx hb hml hown hts 100 (c_X4_in (l := l) hm ((mY v h (c0 + 1)) - (mY v d (c0 + 1))) (-2) 2) cw_RX4_59 (by decide) (by decide) hz hP hI hK (hm 100 (by decide) (by decide)) (by decide) rfl rfl rfl hl.1 rfl (Nat.le_of_ble_eq_true rfl) ⟨Nat.zero_le _, Nat.zero_le _⟩ dX4_canCome_54 ?_
      refine lv_if_ne (tgt := 62) hx hb dX4_canCome_57 (by decide) (fun c_3 => ?_) (fun c_3 => ?_)
      · have nc_3 : (mIn ((mY v h (c0 + 1)) - (mY v d (c0 + 1))) (-2) 2) = true := bI_n0.mp c_3
        refine lv_bipush (v := 64) hx hb dX4_canCome_62 (by decide) ?_
        refine lv_iload_n hx hb dX4_canCome_64 rfl (lv_at hl 3 rfl) ?_
        refine lv_imul hx hb dX4_canCome_65 ?_
        refine e_nrm (y := (nI (64 * d))) (pk_mul 64 d) ?_
        refine lv_iload_n hx hb dX4_canCome_66 rfl (lv_at hl 5 rfl) ?_
        refine lv_iadd hx hb dX4_canCome_67 ?_
        refine e_nrm (y := (nI ((64 * d) + c0))) (nI_add (64 * d) c0) ?_
        refine lv_istore (lv' := [(6, .int (nI ((64 * d) + c0))), (5, .int ((mY v h (c0 + 1)) - (mY v d (c0 + 1)))), (4, .int ((mX v h (c0 + 1)) - (mX v d (c0 + 1)))), (0, .ref (ad 100)), (1, .int (nI d)), (2, .int (nI h)), (3, .int (nI c0))]) hx hb dX4_canCome_68 hl (by decide) rfl (fun ls hl => ?_)
        refine lv_aload_n hx hb dX4_canCome_70 rfl (lv_at hl 3 rfl) ?_
        refine lv_aload_n hx hb dX4_canCome_71 rfl (lv_at hl 3 rfl) ?_
        refine e_getf hx hb hts inX4 hown hK hP 100 12 (hm 100 (by decide) (by decide)) (by decide) rfl rfl 5 (by decide) aw_8 (fun _ h => h) rfl dX4_canCome_72 ?_
        refine lv_iload hx hb dX4_canCome_75 (lv_at hl 0 rfl) ?_
        refine e_iald hx hb hK hP 105 512 (hm 105 (by decide) (by decide)) ((64 * d) + c0) rfl (by omega) (by decide) dX4_canCome_77 ?_
        refine lv_iload hx hb dX4_canCome_78 (lv_at hl 2 rfl) ?_
        refine lv_iadd hx hb dX4_canCome_80 ?_
        refine lv_bipush (v := (-2)) hx hb dX4_canCome_81 (by decide) ?_
        refine lv_iconst (v := 2) hx hb dX4_canCome_83 (by decide) ?_
        refine e_cV (As := [.int ((v 105 ((64 * d) + c0)) + ((mX v h (c0 + 1)) - (mX v d (c0 + 1)))), .int (-2), .int 2]) (rest := []) hx hb hml hown hts 100 (c_X4_in (l := l) hm ((v 105 ((64 * d) + c0)) + ((mX v h (c0 + 1)) - (mX v d (c0 + 1)))) (-2) 2) cw_RX4_59 (by decide) (by decide) hz hP hI hK (hm 100 (by decide) (by decide)) (by decide) rfl rfl rfl hl.1 rfl (Nat.le_of_ble_eq_true rfl) ⟨Nat.zero_le _, Nat.zero_le _⟩ dX4_canCome_84 ?_
        refine lv_if_eq (tgt := 158) hx hb dX4_canCome_87 (by decide) (fun c_4 => ?_) (fun c_4 => ?_)
        · have nc_4 : (mIn ((v 105 ((64 * d) + c0)) + ((mX v h (c0 + 1)) - (mX v d (c0 + 1)))) (-2) 2) = false := bI_0.mp c_4
          refine lv_iconst (v := 0) hx hb dX4_canCome_158 (by decide) ?_
          exact e_nrm (show 0 = bI (mCanCome v d h c0) from (by first | (simp [mCanCome, mWX, mWY, bI, nc_1, nc_2, nc_3, nc_4]; done) | (exfalso; simp_all; done))) (hret _ _ dX4_canCome_159)
        · have nc_4 : (mIn ((v 105 ((64 * d) + c0)) + ((mX v h (c0 + 1)) - (mX v d (c0 + 1)))) (-2) 2) = true := bI_n0.mp c_4
          refine lv_aload_n hx hb dX4_canCome_90 rfl (lv_at hl 3 rfl) ?_
          refine lv_aload_n hx hb dX4_canCome_91 rfl (lv_at hl 3 rfl) ?_
          refine e_getf hx hb hts inX4 hown hK hP 100 12 (hm 100 (by decide) (by decide)) (by decide) rfl rfl 6 (by decide) aw_10 (fun _ h => h) rfl dX4_canCome_92 ?_
          refine lv_iload hx hb dX4_canCome_95 (lv_at hl 0 rfl) ?_
          refine e_iald hx hb hK hP 106 512 (hm 106 (by decide) (by decide)) ((64 * d) + c0) rfl (by omega) (by decide) dX4_canCome_97 ?_
          refine lv_iload hx hb dX4_canCome_98 (lv_at hl 1 rfl) ?_
          refine lv_iadd hx hb dX4_canCome_100 ?_
          refine lv_bipush (v := (-2)) hx hb dX4_canCome_101 (by decide) ?_
          refine lv_iconst (v := 2) hx hb dX4_canCome_103 (by decide) ?_
          refine e_cV (As := [.int ((v 106 ((64 * d) + c0)) + ((mY v h (c0 + 1)) - (mY v d (c0 + 1)))), .int (-2), .int 2]) (rest := []) hx hb hml hown hts 100 (c_X4_in (l := l) hm ((v 106 ((64 * d) + c0)) + ((mY v h (c0 + 1)) - (mY v d (c0 + 1)))) (-2) 2) cw_RX4_59 (by decide) (by decide) hz hP hI hK (hm 100 (by decide) (by decide)) (by decide) rfl rfl rfl hl.1 rfl (Nat.le_of_ble_eq_true rfl) ⟨Nat.zero_le _, Nat.zero_le _⟩ dX4_canCome_104 ?_
          refine lv_if_eq (tgt := 158) hx hb dX4_canCome_107 (by decide) (fun c_5 => ?_) (fun c_5 => ?_)
          · have nc_5 : (mIn ((v 106 ((64 * d) + c0)) + ((mY v h (c0 + 1)) - (mY v d (c0 + 1)))) (-2) 2) = false := bI_0.mp c_5
            refine lv_iconst (v := 0) hx hb dX4_canCome_158 (by decide) ?_
            exact e_nrm (show 0 = bI (mCanCome v d h c0) from (by first | (simp [mCanCome, mWX, mWY, bI, nc_1, nc_2, nc_3, nc_4, nc_5]; done) | (exfalso; simp_all; done))) (hret _ _ dX4_canCome_159)
          · have nc_5 : (mIn ((v 106 ((64 * d) + c0)) + ((mY v h (c0 + 1)) - (mY v d (c0 + 1)))) (-2) 2) = true := bI_n0.mp c_5
            refine lv_aload_n hx hb dX4_canCome_110 rfl (lv_at hl 3 rfl) ?_
            refine lv_aload_n hx hb dX4_canCome_111 rfl (lv_at hl 3 rfl) ?_
            refine e_getf hx hb hts inX4 hown hK hP 100 12 (hm 100 (by decide) (by decide)) (by decide) rfl rfl 5 (by decide) aw_8 (fun _ h => h) rfl dX4_canCome_112 ?_
            refine lv_iload hx hb dX4_canCome_115 (lv_at hl 0 rfl) ?_
            refine lv_iconst (v := 1) hx hb dX4_canCome_117 (by decide) ?_
            refine lv_iadd hx hb dX4_canCome_118 ?_
            refine e_nrm (y := (nI (((64 * d) + c0) + 1))) (nI_add ((64 * d) + c0) 1) ?_
            refine e_iald hx hb hK hP 105 512 (hm 105 (by decide) (by decide)) (((64 * d) + c0) + 1) rfl (by omega) (by decide) dX4_canCome_119 ?_
            refine lv_iload hx hb dX4_canCome_120 (lv_at hl 2 rfl) ?_
            refine lv_isub hx hb dX4_canCome_122 ?_
            refine lv_bipush (v := (-2)) hx hb dX4_canCome_123 (by decide) ?_
            refine lv_iconst (v := 2) hx hb dX4_canCome_125 (by decide) ?_
            refine e_cV (As := [.int ((v 105 (((64 * d) + c0) + 1)) - ((mX v h (c0 + 1)) - (mX v d (c0 + 1)))), .int (-2), .int 2]) (rest := []) hx hb hml hown hts 100 (c_X4_in (l := l) hm ((v 105 (((64 * d) + c0) + 1)) - ((mX v h (c0 + 1)) - (mX v d (c0 + 1)))) (-2) 2) cw_RX4_59 (by decide) (by decide) hz hP hI hK (hm 100 (by decide) (by decide)) (by decide) rfl rfl rfl hl.1 rfl (Nat.le_of_ble_eq_true rfl) ⟨Nat.zero_le _, Nat.zero_le _⟩ dX4_canCome_126 ?_
            refine lv_if_eq (tgt := 158) hx hb dX4_canCome_129 (by decide) (fun c_6 => ?_) (fun c_6 => ?_)
            · have nc_6 : (mIn ((v 105 (((64 * d) + c0) + 1)) - ((mX v h (c0 + 1)) - (mX v d (c0 + 1)))) (-2) 2) = false := bI_0.mp c_6
              refine lv_iconst (v := 0) hx hb dX4_canCome_158 (by decide) ?_
              exact e_nrm (show 0 = bI (mCanCome v d h c0) from (by first | (simp [mCanCome, mWX, mWY, bI, nc_1, nc_2, nc_3, nc_4, nc_5, nc_6]; done) | (exfalso; simp_all; done))) (hret _ _ dX4_canCome_159)
            · have nc_6 : (mIn ((v 105 (((64 * d) + c0) + 1)) - ((mX v h (c0 + 1)) - (mX v d (c0 + 1)))) (-2) 2) = true := bI_n0.mp c_6
              refine lv_aload_n hx hb dX4_canCome_132 rfl (lv_at hl 3 rfl) ?_
              refine lv_aload_n hx hb dX4_canCome_133 rfl (lv_at hl 3 rfl) ?_
              refine e_getf hx hb hts inX4 hown hK hP 100 12 (hm 100 (by decide) (by decide)) (by decide) rfl rfl 6 (by decide) aw_10 (fun _ h => h) rfl dX4_canCome_134 ?_
              refine lv_iload hx hb dX4_canCome_137 (lv_at hl 0 rfl) ?_
              refine lv_iconst (v := 1) hx hb dX4_canCome_139 (by decide) ?_
              refine lv_iadd hx hb dX4_canCome_140 ?_
              refine e_nrm (y := (nI (((64 * d) + c0) + 1))) (nI_add ((64 * d) + c0) 1) ?_
              refine e_iald hx hb hK hP 106 512 (hm 106 (by decide) (by decide)) (((64 * d) + c0) + 1) rfl (by omega) (by decide) dX4_canCome_141 ?_
              refine lv_iload hx hb dX4_canCome_142 (lv_at hl 1 rfl) ?_
              refine lv_isub hx hb dX4_canCome_144 ?_
              refine lv_bipush (v := (-2)) hx hb dX4_canCome_145 (by decide) ?_
              refine lv_iconst (v := 2) hx hb dX4_canCome_147 (by decide) ?_
              refine e_cV (As := [.int ((v 106 (((64 * d) + c0) + 1)) - ((mY v h (c0 + 1)) - (mY v d (c0 + 1)))), .int (-2), .int 2]) (rest := []) hx hb hml hown hts 100 (c_X4_in (l := l) hm ((v 106 (((64 * d) + c0) + 1)) - ((mY v h (c0 + 1)) - (mY v d (c0 + 1)))) (-2) 2) cw_RX4_59 (by decide) (by decide) hz hP hI hK (hm 100 (by decide) (by decide)) (by decide) rfl rfl rfl hl.1 rfl (Nat.le_of_ble_eq_true rfl) ⟨Nat.zero_le _, Nat.zero_le _⟩ dX4_canCome_148 ?_
              refine lv_if_eq (tgt := 158) hx hb dX4_canCome_151 (by decide) (fun c_7 => ?_) (fun c_7 => ?_)
              · have nc_7 : (mIn ((v 106 (((64 * d) + c0) + 1)) - ((mY v h (c0 + 1)) - (mY v d (c0 + 1)))) (-2) 2) = false := bI_0.mp c_7
                refine lv_iconst (v := 0) hx hb dX4_canCome_158 (by decide) ?_
                exact e_nrm (show 0 = bI (mCanCome v d h c0) from (by first | (simp [mCanCome, mWX, mWY, bI, nc_1, nc_2, nc_3, nc_4, nc_5, nc_6, nc_7]; done) | (exfalso; simp_all; done))) (hret _ _ dX4_canCome_159)
              · have nc_7 : (mIn ((v 106 (((64 * d) + c0) + 1)) - ((mY v h (c0 + 1)) - (mY v d (c0 + 1)))) (-2) 2) = true := bI_n0.mp c_7
                refine lv_iconst (v := 1) hx hb dX4_canCome_154 (by decide) ?_
                refine lv_goto (tgt := 159) hx hb dX4_canCome_155 (by decide) ?_
                exact e_nrm (show 1 = bI (mCanCome v d h c0) from (by first | (simp [mCanCome, mWX, mWY, bI, nc_1, nc_2, nc_3, nc_4, nc_5, nc_6, nc_7]; done) | (exfalso; simp_all; done))) (hret _ _ dX4_canCome_159)
      · have nc_3 : (mIn ((mY v h (c0 + 1)) - (mY v d (c0 + 1))) (-2) 2) = false := bI_0.mp c_3
        refine lv_iconst (v := 0) hx hb dX4_canCome_60 (by decide) ?_
        exact e_nrm (show 0 = bI (mCanCome v d h c0) from (by first | (simp [mCanCome, mWX, mWY, bI, nc_1, nc_2, nc_3]; done) | (exfalso; simp_all; done))) (hret _ _ dX4_canCome_61)

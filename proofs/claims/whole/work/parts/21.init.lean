theorem aw_490 : Cond.methodLink RX4 1 Lib.objectInit ∈ AW := aw_of (List.mem_of_getElem? (i := 714) (by decide +kernel)) (by decide +kernel)
theorem aw_491 : Cond.methodLink RX3 1 Lib.objectInit ∈ AW := aw_of (List.mem_of_getElem? (i := 72) (by decide +kernel)) (by decide +kernel)
theorem aw_492 : Cond.classLink RX3 7 RJx4a65c ∈ AW := aw_of (List.mem_of_getElem? (i := 75) (by decide +kernel)) (by decide +kernel)
theorem aw_493 : Cond.instantiable RJx4a65c 3 ∈ AW := aw_of (List.mem_of_getElem? (i := 76) (by decide +kernel)) (by decide +kernel)
theorem aw_494 : Cond.methodLink RX3 9 yJx4a65c_init_da8c8 ∈ AW := aw_of (List.mem_of_getElem? (i := 77) (by decide +kernel)) (by decide +kernel)
theorem aw_495 : Cond.instanceMethod yJx4a65c_init_da8c8 ∈ AW := aw_of (List.mem_of_getElem? (i := 78) (by decide +kernel)) (by decide +kernel)
set_option maxRecDepth 100000 in
theorem aw_496 : Cond.code yJx4a65c_init_da8c8 cJx4a65c_init_da8c8 1 none ∈ AW := aw_of (List.mem_of_getElem? (i := 79) rfl) (by decide +kernel)
theorem cwi_RX3_9 : e_cwI RX3 9 yJx4a65c_init_da8c8 cJx4a65c_init_da8c8 1 0 := ⟨aw_494, aw_495, aw_135, aw_496, rfl, by decide +kernel, by decide +kernel, by decide +kernel⟩
theorem aw_498 : Cond.classLink RX3 23 "[[I" ∈ AW := aw_of (List.mem_of_getElem? (i := 101) (by decide +kernel)) (by decide +kernel)
set_option maxRecDepth 100000 in
set_option maxHeartbeats 4000000 in
theorem c_size1 {l : Launch} {X : eD} {z0 : Nat} {ad kd sp : Nat → Nat} {v : eV} (hk : kd 1 = 6) : ePu l yJx4a65c_size_8abf5 cJx4a65c_size_8abf5 1 (some .int) 0 [.ref (ad 1)] (e_W X z0 ad kd sp v) (some (.int (nI (sp 0)))) := by
  refine e_pureI (by decide +kernel) (Nat.le_of_ble_eq_true rfl) rfl ?_
  intro p e s m args below meth c hx hb hml hown hts hW Q hret ls hl
  obtain ⟨hz, hP, hI, hK⟩ := hW
  have hl : lv_has ls 1 [(0, .ref (ad 1))] := hl
  refine lv_aload_n hx hb dJx4a65c_size_8abf5_0 rfl (lv_at hl 0 rfl) ?_
  refine e_getf hx hb hts inJx4a65c hown hK hP 1 6 hk (by decide) rfl rfl 2 (by decide) aw_120 (fun _ h => h) rfl dJx4a65c_size_8abf5_1 ?_
  exact e_nrm (show (nI (sp 0)) = nI (sp 0) from (by first | (simp [bI]; done) | (exfalso; simp_all; done))) (hret _ _ dJx4a65c_size_8abf5_4)

set_option maxRecDepth 100000 in
set_option maxHeartbeats 4000000 in
theorem c_size2 {l : Launch} {X : eD} {z0 : Nat} {ad kd sp : Nat → Nat} {v : eV} (hk : kd 2 = 8) : ePu l yJx4a65c_size_8abf5 cJx4a65c_size_8abf5 1 (some .int) 0 [.ref (ad 2)] (e_W X z0 ad kd sp v) (some (.int (nI (sp 1)))) := by
  refine e_pureI (by decide +kernel) (Nat.le_of_ble_eq_true rfl) rfl ?_
  intro p e s m args below meth c hx hb hml hown hts hW Q hret ls hl
  obtain ⟨hz, hP, hI, hK⟩ := hW
  have hl : lv_has ls 1 [(0, .ref (ad 2))] := hl
  refine lv_aload_n hx hb dJx4a65c_size_8abf5_0 rfl (lv_at hl 0 rfl) ?_
  refine e_getf hx hb hts inJx4a65c hown hK hP 2 8 hk (by decide) rfl rfl 2 (by decide) aw_120 (fun _ h => h) rfl dJx4a65c_size_8abf5_1 ?_
  exact e_nrm (show (nI (sp 1)) = nI (sp 1) from (by first | (simp [bI]; done) | (exfalso; simp_all; done))) (hret _ _ dJx4a65c_size_8abf5_4)

set_option maxRecDepth 100000 in
set_option maxHeartbeats 4000000 in
theorem c_needD_ok {l : Launch} {X : eD} {z0 : Nat} {ad kd sp : Nat → Nat} {v : eV} (hc : cK kd sp) (x : Int32) (hg9 : cOkN (sp 0) x = true) : ePu l yX3_needDancer cX3_needDancer 2 none 6 [.ref (ad 0), .int x] (e_W X z0 ad kd sp v) none := by
  refine e_pureV (by decide +kernel) (Nat.le_of_ble_eq_true rfl) ?_
  intro p e s m args below meth c hx hb hml hown hts hW Q hret ls hl
  obtain ⟨hz, hP, hI, hK⟩ := hW
  have hl : lv_has ls 2 [(0, .ref (ad 0)), (1, .int x)] := hl
  refine lv_iload_n hx hb dX3_needDancer_0 rfl (lv_at hl 1 rfl) ?_
  refine lv_if_lt (tgt := 15) hx hb dX3_needDancer_1 (by decide) (fun c_1 => ?_) (fun c_1 => ?_)
  · skip
    exact absurd hg9 (by simp [cOkN, c_1])
  · skip
    refine lv_iload_n hx hb dX3_needDancer_4 rfl (lv_at hl 1 rfl) ?_
    refine lv_aload_n hx hb dX3_needDancer_5 rfl (lv_at hl 0 rfl) ?_
    refine e_getf hx hb hts inX3 hown hK hP 0 5 hc.1.1 (by decide) rfl rfl 0 (by decide) aw_194 (fun _ h => h) rfl dX3_needDancer_6 ?_
    refine e_cV (As := []) (rest := [.int x]) hx hb hml hown hts 1 (c_Jx4a65c_size_8abf5_1 (l := l) hc) cw_RX3_46 (by decide) (by decide) hz hP hI hK hc.1.2.1 (by decide) rfl rfl rfl hl.1 rfl (Nat.le_of_ble_eq_true rfl) ⟨Nat.zero_le _, Nat.zero_le _⟩ dX3_needDancer_9 ?_
    refine lv_icmp_lt (tgt := 25) hx hb dX3_needDancer_12 (by decide) (fun c_2 => ?_) (fun c_2 => ?_)
    · skip
      exact hret _ _ dX3_needDancer_25
    · skip
      exact absurd hg9 (by simp [cOkN, c_1, c_2])

set_option maxRecDepth 100000 in
set_option maxHeartbeats 4000000 in
theorem c_needC_ok {l : Launch} {X : eD} {z0 : Nat} {ad kd sp : Nat → Nat} {v : eV} (x : Int32) (hg9 : cOkC x = true) : ePu l yX3_needCount cX3_needCount 1 none 6 [.int x] (e_W X z0 ad kd sp v) none := by
  refine e_pureV (by decide +kernel) (Nat.le_of_ble_eq_true rfl) ?_
  intro p e s m args below meth c hx hb hml hown hts hW Q hret ls hl
  obtain ⟨hz, hP, hI, hK⟩ := hW
  have hl : lv_has ls 1 [(0, .int x)] := hl
  refine lv_iload_n hx hb dX3_needCount_0 rfl (lv_at hl 0 rfl) ?_
  refine lv_if_lt (tgt := 10) hx hb dX3_needCount_1 (by decide) (fun c_1 => ?_) (fun c_1 => ?_)
  · skip
    exact absurd hg9 (by simp [cOkC, c_1])
  · skip
    refine lv_iload_n hx hb dX3_needCount_4 rfl (lv_at hl 0 rfl) ?_
    refine lv_bipush (v := 64) hx hb dX3_needCount_5 (by decide) ?_
    refine lv_icmp_lt (tgt := 20) hx hb dX3_needCount_7 (by decide) (fun c_2 => ?_) (fun c_2 => ?_)
    · skip
      exact hret _ _ dX3_needCount_20
    · skip
      exact absurd hg9 (by simp [cOkC, c_1, c_2])

set_option maxRecDepth 100000 in
set_option maxHeartbeats 4000000 in
theorem c_X4_init {l : Launch} {X : eD} {z0 t0 mi : Nat} {ad kd sp : Nat → Nat} {v : eV} {a0 : Nat} (hk : kd 100 = 19) (h0 : ∀ j, j < 13 → kd (101 + j) = 0) (ha : ∀ j, j < 13 → ad (101 + j) = a0 + j) : eAl l yX4_init cX4_init 1 none 2 13 1219 [.ref (ad 100)] X z0 t0 mi ad kd sp v a0 none (kup (kup (kup (kup (kup (kup (kup (kup (kup (kup (kup (kup (kup (kup kd 101 28) 102 28) 103 28) 104 28) 105 532) 106 532) 107 32) 108 32) 109 32) 110 32) 111 32) 112 84) 113 59) 100 12) sp (mFrees (e_set (e_z (e_set (e_z (e_set (e_z (e_set (e_z (e_set (e_z (e_set (e_z (e_set (e_z (e_set (e_z (e_set (e_z (e_set (e_z (e_set (e_z (e_set (e_z (e_set (e_z v 101) 100 20 1) 102) 100 21 1) 103) 100 22 1) 104) 100 23 1) 105) 100 24 1) 106) 100 25 1) 107) 100 26 1) 108) 100 27 1) 109) 100 28 1) 110) 100 29 1) 111) 100 30 1) 112) 100 31 1) 113) 100 32 1) 39) (a0 + 13) := by
  refine e_alcV (by decide +kernel) (Nat.le_of_ble_eq_true rfl) ?_
  intro p e s m args below meth c hx hb hml hown hts hW hnm9 Q hret ls hl
  obtain ⟨⟨hz, hP, hI, hK⟩, hsz, hL⟩ := hW
  have hl : lv_has ls 1 [(0, .ref (ad 100))] := hl
  have hS : va_S (e_A z0) s.heap s.heap [] := va_S.rf
  refine lv_aload_n hx hb dX4_init_0 rfl (lv_at hl 0 rfl) ?_
  refine W.objInit hx hb hown (hts _ aw_490) (hts _ aw_413) (hts _ aw_414) rfl (hl.1.trans hml.symm) rfl dX4_init_1 (by decide) (Nat.le_of_ble_eq_true rfl) ?_
  refine lv_aload_n hx hb dX4_init_4 rfl (lv_at hl 0 rfl) ?_
  refine lv_bipush (v := 8) hx hb dX4_init_5 (by decide) ?_
  refine e_newa hx hb hts aw_431 hK hP hI hz hS 101 8 (h0 0 (by decide)) ((ha 0 (by decide) : ad 101 = _).trans (by omega)) rfl (by decide) (by decide) (by decide) dX4_init_7 (fun H hz1 hP hI hS => ?_)
  have hsz : H.size = a0 + 1 := by omega
  have hz : z0 ≤ H.size := by omega
  refine e_putr hx hb hts inX4 tyX4 tyX4_ok nmX4 hown hK hP hI hS 100 19 (kup_n (by omega) hk) (by decide) rfl rfl 0 (by decide) aw_7 (fun _ h => h) (Or.inr ⟨rfl, hnm9, rfl⟩) (ty := .array .int) (w := .ref (ad 101)) (by decide +kernel) rfl rfl (Nat.le_of_ble_eq_true rfl) sp (e_set (e_z v 101) 100 20 1) (by simp (disch := omega) [e_sh, e_set_s, e_set_n, e_z_s, e_z_n, cFill_ne, upd, e_rr]) (fun _ _ h => e_sh_ne h) dX4_init_9 (fun H locs hz1 hP hS => ?_)
  have hsz : H.size = a0 + 1 := by omega
  have hz : z0 ≤ H.size := by omega
  refine lv_aload_n hx hb dX4_init_12 rfl (lv_at hl 0 rfl) ?_
  refine lv_bipush (v := 8) hx hb dX4_init_13 (by decide) ?_
  refine e_newa hx hb hts aw_431 hK hP hI hz hS 102 8 (kup_n (by omega) (h0 1 (by decide))) ((ha 1 (by decide) : ad 102 = _).trans (by omega)) rfl (by decide) (by decide) (by decide) dX4_init_15 (fun H hz1 hP hI hS => ?_)
  have hsz : H.size = a0 + 2 := by omega
  have hz : z0 ≤ H.size := by omega
  refine e_putr hx hb hts inX4 tyX4 tyX4_ok nmX4 hown hK hP hI hS 100 19 (kup_n (by omega) (kup_n (by omega) hk)) (by decide) rfl rfl 1 (by decide) aw_9 (fun _ h => h) (Or.inr ⟨rfl, hnm9, rfl⟩) (ty := .array .int) (w := .ref (ad 102)) (by decide +kernel) rfl rfl (Nat.le_of_ble_eq_true rfl) sp (e_set (e_z (e_set (e_z v 101) 100 20 1) 102) 100 21 1) (by simp (disch := omega) [e_sh, e_set_s, e_set_n, e_z_s, e_z_n, cFill_ne, upd, e_rr]) (fun _ _ h => e_sh_ne h) dX4_init_17 (fun H locs hz1 hP hS => ?_)
  have hsz : H.size = a0 + 2 := by omega
  have hz : z0 ≤ H.size := by omega
  refine lv_aload_n hx hb dX4_init_20 rfl (lv_at hl 0 rfl) ?_
  refine lv_bipush (v := 8) hx hb dX4_init_21 (by decide) ?_
  refine e_newa hx hb hts aw_431 hK hP hI hz hS 103 8 (kup_n (by omega) (kup_n (by omega) (h0 2 (by decide)))) ((ha 2 (by decide) : ad 103 = _).trans (by omega)) rfl (by decide) (by decide) (by decide) dX4_init_23 (fun H hz1 hP hI hS => ?_)
  have hsz : H.size = a0 + 3 := by omega
  have hz : z0 ≤ H.size := by omega
  refine e_putr hx hb hts inX4 tyX4 tyX4_ok nmX4 hown hK hP hI hS 100 19 (kup_n (by omega) (kup_n (by omega) (kup_n (by omega) hk))) (by decide) rfl rfl 2 (by decide) aw_49 (fun _ h => h) (Or.inr ⟨rfl, hnm9, rfl⟩) (ty := .array .int) (w := .ref (ad 103)) (by decide +kernel) rfl rfl (Nat.le_of_ble_eq_true rfl) sp (e_set (e_z (e_set (e_z (e_set (e_z v 101) 100 20 1) 102) 100 21 1) 103) 100 22 1) (by simp (disch := omega) [e_sh, e_set_s, e_set_n, e_z_s, e_z_n, cFill_ne, upd, e_rr]) (fun _ _ h => e_sh_ne h) dX4_init_25 (fun H locs hz1 hP hS => ?_)
  have hsz : H.size = a0 + 3 := by omega
  have hz : z0 ≤ H.size := by omega
  refine lv_aload_n hx hb dX4_init_28 rfl (lv_at hl 0 rfl) ?_
  refine lv_bipush (v := 8) hx hb dX4_init_29 (by decide) ?_
  refine e_newa hx hb hts aw_431 hK hP hI hz hS 104 8 (kup_n (by omega) (kup_n (by omega) (kup_n (by omega) (h0 3 (by decide))))) ((ha 3 (by decide) : ad 104 = _).trans (by omega)) rfl (by decide) (by decide) (by decide) dX4_init_31 (fun H hz1 hP hI hS => ?_)
  have hsz : H.size = a0 + 4 := by omega
  have hz : z0 ≤ H.size := by omega
  refine e_putr hx hb hts inX4 tyX4 tyX4_ok nmX4 hown hK hP hI hS 100 19 (kup_n (by omega) (kup_n (by omega) (kup_n (by omega) (kup_n (by omega) hk)))) (by decide) rfl rfl 3 (by decide) aw_76 (fun _ h => h) (Or.inr ⟨rfl, hnm9, rfl⟩) (ty := .array .int) (w := .ref (ad 104)) (by decide +kernel) rfl rfl (Nat.le_of_ble_eq_true rfl) sp (e_set (e_z (e_set (e_z (e_set (e_z (e_set (e_z v 101) 100 20 1) 102) 100 21 1) 103) 100 22 1) 104) 100 23 1) (by simp (disch := omega) [e_sh, e_set_s, e_set_n, e_z_s, e_z_n, cFill_ne, upd, e_rr]) (fun _ _ h => e_sh_ne h) dX4_init_33 (fun H locs hz1 hP hS => ?_)
  have hsz : H.size = a0 + 4 := by omega
  have hz : z0 ≤ H.size := by omega
  refine lv_aload_n hx hb dX4_init_36 rfl (lv_at hl 0 rfl) ?_
  refine lv_sipush (v := 512) hx hb dX4_init_37 (by decide) ?_
  refine e_newa hx hb hts aw_431 hK hP hI hz hS 105 512 (kup_n (by omega) (kup_n (by omega) (kup_n (by omega) (kup_n (by omega) (h0 4 (by decide)))))) ((ha 4 (by decide) : ad 105 = _).trans (by omega)) rfl (by decide) (by decide) (by decide) dX4_init_40 (fun H hz1 hP hI hS => ?_)
  have hsz : H.size = a0 + 5 := by omega
  have hz : z0 ≤ H.size := by omega
  refine e_putr hx hb hts inX4 tyX4 tyX4_ok nmX4 hown hK hP hI hS 100 19 (kup_n (by omega) (kup_n (by omega) (kup_n (by omega) (kup_n (by omega) (kup_n (by omega) hk))))) (by decide) rfl rfl 5 (by decide) aw_8 (fun _ h => h) (Or.inr ⟨rfl, hnm9, rfl⟩) (ty := .array .int) (w := .ref (ad 105)) (by decide +kernel) rfl rfl (Nat.le_of_ble_eq_true rfl) sp (e_set (e_z (e_set (e_z (e_set (e_z (e_set (e_z (e_set (e_z v 101) 100 20 1) 102) 100 21 1) 103) 100 22 1) 104) 100 23 1) 105) 100 24 1) (by simp (disch := omega) [e_sh, e_set_s, e_set_n, e_z_s, e_z_n, cFill_ne, upd, e_rr]) (fun _ _ h => e_sh_ne h) dX4_init_42 (fun H locs hz1 hP hS => ?_)
  have hsz : H.size = a0 + 5 := by omega
  have hz : z0 ≤ H.size := by omega
  refine lv_aload_n hx hb dX4_init_45 rfl (lv_at hl 0 rfl) ?_
  refine lv_sipush (v := 512) hx hb dX4_init_46 (by decide) ?_
  refine e_newa hx hb hts aw_431 hK hP hI hz hS 106 512 (kup_n (by omega) (kup_n (by omega) (kup_n (by omega) (kup_n (by omega) (kup_n (by omega) (h0 5 (by decide))))))) ((ha 5 (by decide) : ad 106 = _).trans (by omega)) rfl (by decide) (by decide) (by decide) dX4_init_49 (fun H hz1 hP hI hS => ?_)
  have hsz : H.size = a0 + 6 := by omega
  have hz : z0 ≤ H.size := by omega
  refine e_putr hx hb hts inX4 tyX4 tyX4_ok nmX4 hown hK hP hI hS 100 19 (kup_n (by omega) (kup_n (by omega) (kup_n (by omega) (kup_n (by omega) (kup_n (by omega) (kup_n (by omega) hk)))))) (by decide) rfl rfl 6 (by decide) aw_10 (fun _ h => h) (Or.inr ⟨rfl, hnm9, rfl⟩) (ty := .array .int) (w := .ref (ad 106)) (by decide +kernel) rfl rfl (Nat.le_of_ble_eq_true rfl) sp (e_set (e_z (e_set (e_z (e_set (e_z (e_set (e_z (e_set (e_z (e_set (e_z v 101) 100 20 1) 102) 100 21 1) 103) 100 22 1) 104) 100 23 1) 105) 100 24 1) 106) 100 25 1) (by simp (disch := omega) [e_sh, e_set_s, e_set_n, e_z_s, e_z_n, cFill_ne, upd, e_rr]) (fun _ _ h => e_sh_ne h) dX4_init_51 (fun H locs hz1 hP hS => ?_)
  have hsz : H.size = a0 + 6 := by omega
  have hz : z0 ≤ H.size := by omega
  refine lv_aload_n hx hb dX4_init_54 rfl (lv_at hl 0 rfl) ?_
  refine lv_bipush (v := 12) hx hb dX4_init_55 (by decide) ?_
  refine e_newa hx hb hts aw_431 hK hP hI hz hS 107 12 (kup_n (by omega) (kup_n (by omega) (kup_n (by omega) (kup_n (by omega) (kup_n (by omega) (kup_n (by omega) (h0 6 (by decide)))))))) ((ha 6 (by decide) : ad 107 = _).trans (by omega)) rfl (by decide) (by decide) (by decide) dX4_init_57 (fun H hz1 hP hI hS => ?_)
  have hsz : H.size = a0 + 7 := by omega
  have hz : z0 ≤ H.size := by omega
  refine e_putr hx hb hts inX4 tyX4 tyX4_ok nmX4 hown hK hP hI hS 100 19 (kup_n (by omega) (kup_n (by omega) (kup_n (by omega) (kup_n (by omega) (kup_n (by omega) (kup_n (by omega) (kup_n (by omega) hk))))))) (by decide) rfl rfl 7 (by decide) aw_26 (fun _ h => h) (Or.inr ⟨rfl, hnm9, rfl⟩) (ty := .array .int) (w := .ref (ad 107)) (by decide +kernel) rfl rfl (Nat.le_of_ble_eq_true rfl) sp (e_set (e_z (e_set (e_z (e_set (e_z (e_set (e_z (e_set (e_z (e_set (e_z (e_set (e_z v 101) 100 20 1) 102) 100 21 1) 103) 100 22 1) 104) 100 23 1) 105) 100 24 1) 106) 100 25 1) 107) 100 26 1) (by simp (disch := omega) [e_sh, e_set_s, e_set_n, e_z_s, e_z_n, cFill_ne, upd, e_rr]) (fun _ _ h => e_sh_ne h) dX4_init_59 (fun H locs hz1 hP hS => ?_)
  have hsz : H.size = a0 + 7 := by omega
  have hz : z0 ≤ H.size := by omega
  refine lv_aload_n hx hb dX4_init_62 rfl (lv_at hl 0 rfl) ?_
  refine lv_bipush (v := 12) hx hb dX4_init_63 (by decide) ?_
  refine e_newa hx hb hts aw_431 hK hP hI hz hS 108 12 (kup_n (by omega) (kup_n (by omega) (kup_n (by omega) (kup_n (by omega) (kup_n (by omega) (kup_n (by omega) (kup_n (by omega) (h0 7 (by decide))))))))) ((ha 7 (by decide) : ad 108 = _).trans (by omega)) rfl (by decide) (by decide) (by decide) dX4_init_65 (fun H hz1 hP hI hS => ?_)
  have hsz : H.size = a0 + 8 := by omega
  have hz : z0 ≤ H.size := by omega
  refine e_putr hx hb hts inX4 tyX4 tyX4_ok nmX4 hown hK hP hI hS 100 19 (kup_n (by omega) (kup_n (by omega) (kup_n (by omega) (kup_n (by omega) (kup_n (by omega) (kup_n (by omega) (kup_n (by omega) (kup_n (by omega) hk)))))))) (by decide) rfl rfl 8 (by decide) aw_21 (fun _ h => h) (Or.inr ⟨rfl, hnm9, rfl⟩) (ty := .array .int) (w := .ref (ad 108)) (by decide +kernel) rfl rfl (Nat.le_of_ble_eq_true rfl) sp (e_set (e_z (e_set (e_z (e_set (e_z (e_set (e_z (e_set (e_z (e_set (e_z (e_set (e_z (e_set (e_z v 101) 100 20 1) 102) 100 21 1) 103) 100 22 1) 104) 100 23 1) 105) 100 24 1) 106) 100 25 1) 107) 100 26 1) 108) 100 27 1) (by simp (disch := omega) [e_sh, e_set_s, e_set_n, e_z_s, e_z_n, cFill_ne, upd, e_rr]) (fun _ _ h => e_sh_ne h) dX4_init_67 (fun H locs hz1 hP hS => ?_)
  have hsz : H.size = a0 + 8 := by omega
  have hz : z0 ≤ H.size := by omega
  refine lv_aload_n hx hb dX4_init_70 rfl (lv_at hl 0 rfl) ?_
  refine lv_bipush (v := 12) hx hb dX4_init_71 (by decide) ?_
  refine e_newa hx hb hts aw_431 hK hP hI hz hS 109 12 (kup_n (by omega) (kup_n (by omega) (kup_n (by omega) (kup_n (by omega) (kup_n (by omega) (kup_n (by omega) (kup_n (by omega) (kup_n (by omega) (h0 8 (by decide)))))))))) ((ha 8 (by decide) : ad 109 = _).trans (by omega)) rfl (by decide) (by decide) (by decide) dX4_init_73 (fun H hz1 hP hI hS => ?_)
  have hsz : H.size = a0 + 9 := by omega
  have hz : z0 ≤ H.size := by omega
  refine e_putr hx hb hts inX4 tyX4 tyX4_ok nmX4 hown hK hP hI hS 100 19 (kup_n (by omega) (kup_n (by omega) (kup_n (by omega) (kup_n (by omega) (kup_n (by omega) (kup_n (by omega) (kup_n (by omega) (kup_n (by omega) (kup_n (by omega) hk))))))))) (by decide) rfl rfl 9 (by decide) aw_22 (fun _ h => h) (Or.inr ⟨rfl, hnm9, rfl⟩) (ty := .array .int) (w := .ref (ad 109)) (by decide +kernel) rfl rfl (Nat.le_of_ble_eq_true rfl) sp (e_set (e_z (e_set (e_z (e_set (e_z (e_set (e_z (e_set (e_z (e_set (e_z (e_set (e_z (e_set (e_z (e_set (e_z v 101) 100 20 1) 102) 100 21 1) 103) 100 22 1) 104) 100 23 1) 105) 100 24 1) 106) 100 25 1) 107) 100 26 1) 108) 100 27 1) 109) 100 28 1) (by simp (disch := omega) [e_sh, e_set_s, e_set_n, e_z_s, e_z_n, cFill_ne, upd, e_rr]) (fun _ _ h => e_sh_ne h) dX4_init_75 (fun H locs hz1 hP hS => ?_)
  have hsz : H.size = a0 + 9 := by omega
  have hz : z0 ≤ H.size := by omega
  refine lv_aload_n hx hb dX4_init_78 rfl (lv_at hl 0 rfl) ?_
  refine lv_bipush (v := 12) hx hb dX4_init_79 (by decide) ?_
  refine e_newa hx hb hts aw_431 hK hP hI hz hS 110 12 (kup_n (by omega) (kup_n (by omega) (kup_n (by omega) (kup_n (by omega) (kup_n (by omega) (kup_n (by omega) (kup_n (by omega) (kup_n (by omega) (kup_n (by omega) (h0 9 (by decide))))))))))) ((ha 9 (by decide) : ad 110 = _).trans (by omega)) rfl (by decide) (by decide) (by decide) dX4_init_81 (fun H hz1 hP hI hS => ?_)
  have hsz : H.size = a0 + 10 := by omega
  have hz : z0 ≤ H.size := by omega
  refine e_putr hx hb hts inX4 tyX4 tyX4_ok nmX4 hown hK hP hI hS 100 19 (kup_n (by omega) (kup_n (by omega) (kup_n (by omega) (kup_n (by omega) (kup_n (by omega) (kup_n (by omega) (kup_n (by omega) (kup_n (by omega) (kup_n (by omega) (kup_n (by omega) hk)))))))))) (by decide) rfl rfl 10 (by decide) aw_23 (fun _ h => h) (Or.inr ⟨rfl, hnm9, rfl⟩) (ty := .array .int) (w := .ref (ad 110)) (by decide +kernel) rfl rfl (Nat.le_of_ble_eq_true rfl) sp (e_set (e_z (e_set (e_z (e_set (e_z (e_set (e_z (e_set (e_z (e_set (e_z (e_set (e_z (e_set (e_z (e_set (e_z (e_set (e_z v 101) 100 20 1) 102) 100 21 1) 103) 100 22 1) 104) 100 23 1) 105) 100 24 1) 106) 100 25 1) 107) 100 26 1) 108) 100 27 1) 109) 100 28 1) 110) 100 29 1) (by simp (disch := omega) [e_sh, e_set_s, e_set_n, e_z_s, e_z_n, cFill_ne, upd, e_rr]) (fun _ _ h => e_sh_ne h) dX4_init_83 (fun H locs hz1 hP hS => ?_)
  have hsz : H.size = a0 + 10 := by omega
  have hz : z0 ≤ H.size := by omega
  refine lv_aload_n hx hb dX4_init_86 rfl (lv_at hl 0 rfl) ?_
  refine lv_bipush (v := 12) hx hb dX4_init_87 (by decide) ?_
  refine e_newa hx hb hts aw_431 hK hP hI hz hS 111 12 (kup_n (by omega) (kup_n (by omega) (kup_n (by omega) (kup_n (by omega) (kup_n (by omega) (kup_n (by omega) (kup_n (by omega) (kup_n (by omega) (kup_n (by omega) (kup_n (by omega) (h0 10 (by decide)))))))))))) ((ha 10 (by decide) : ad 111 = _).trans (by omega)) rfl (by decide) (by decide) (by decide) dX4_init_89 (fun H hz1 hP hI hS => ?_)
  have hsz : H.size = a0 + 11 := by omega
  have hz : z0 ≤ H.size := by omega
  refine e_putr hx hb hts inX4 tyX4 tyX4_ok nmX4 hown hK hP hI hS 100 19 (kup_n (by omega) (kup_n (by omega) (kup_n (by omega) (kup_n (by omega) (kup_n (by omega) (kup_n (by omega) (kup_n (by omega) (kup_n (by omega) (kup_n (by omega) (kup_n (by omega) (kup_n (by omega) hk))))))))))) (by decide) rfl rfl 11 (by decide) aw_25 (fun _ h => h) (Or.inr ⟨rfl, hnm9, rfl⟩) (ty := .array .int) (w := .ref (ad 111)) (by decide +kernel) rfl rfl (Nat.le_of_ble_eq_true rfl) sp (e_set (e_z (e_set (e_z (e_set (e_z (e_set (e_z (e_set (e_z (e_set (e_z (e_set (e_z (e_set (e_z (e_set (e_z (e_set (e_z (e_set (e_z v 101) 100 20 1) 102) 100 21 1) 103) 100 22 1) 104) 100 23 1) 105) 100 24 1) 106) 100 25 1) 107) 100 26 1) 108) 100 27 1) 109) 100 28 1) 110) 100 29 1) 111) 100 30 1) (by simp (disch := omega) [e_sh, e_set_s, e_set_n, e_z_s, e_z_n, cFill_ne, upd, e_rr]) (fun _ _ h => e_sh_ne h) dX4_init_91 (fun H locs hz1 hP hS => ?_)
  have hsz : H.size = a0 + 11 := by omega
  have hz : z0 ≤ H.size := by omega
  refine lv_aload_n hx hb dX4_init_94 rfl (lv_at hl 0 rfl) ?_
  refine lv_bipush (v := 64) hx hb dX4_init_95 (by decide) ?_
  refine e_newa hx hb hts aw_431 hK hP hI hz hS 112 64 (kup_n (by omega) (kup_n (by omega) (kup_n (by omega) (kup_n (by omega) (kup_n (by omega) (kup_n (by omega) (kup_n (by omega) (kup_n (by omega) (kup_n (by omega) (kup_n (by omega) (kup_n (by omega) (h0 11 (by decide))))))))))))) ((ha 11 (by decide) : ad 112 = _).trans (by omega)) rfl (by decide) (by decide) (by decide) dX4_init_97 (fun H hz1 hP hI hS => ?_)
  have hsz : H.size = a0 + 12 := by omega
  have hz : z0 ≤ H.size := by omega
  refine e_putr hx hb hts inX4 tyX4 tyX4_ok nmX4 hown hK hP hI hS 100 19 (kup_n (by omega) (kup_n (by omega) (kup_n (by omega) (kup_n (by omega) (kup_n (by omega) (kup_n (by omega) (kup_n (by omega) (kup_n (by omega) (kup_n (by omega) (kup_n (by omega) (kup_n (by omega) (kup_n (by omega) hk)))))))))))) (by decide) rfl rfl 13 (by decide) aw_37 (fun _ h => h) (Or.inr ⟨rfl, hnm9, rfl⟩) (ty := .array .int) (w := .ref (ad 112)) (by decide +kernel) rfl rfl (Nat.le_of_ble_eq_true rfl) sp (e_set (e_z (e_set (e_z (e_set (e_z (e_set (e_z (e_set (e_z (e_set (e_z (e_set (e_z (e_set (e_z (e_set (e_z (e_set (e_z (e_set (e_z (e_set (e_z v 101) 100 20 1) 102) 100 21 1) 103) 100 22 1) 104) 100 23 1) 105) 100 24 1) 106) 100 25 1) 107) 100 26 1) 108) 100 27 1) 109) 100 28 1) 110) 100 29 1) 111) 100 30 1) 112) 100 31 1) (by simp (disch := omega) [e_sh, e_set_s, e_set_n, e_z_s, e_z_n, cFill_ne, upd, e_rr]) (fun _ _ h => e_sh_ne h) dX4_init_99 (fun H locs hz1 hP hS => ?_)
  have hsz : H.size = a0 + 12 := by omega
  have hz : z0 ≤ H.size := by omega
  refine lv_aload_n hx hb dX4_init_102 rfl (lv_at hl 0 rfl) ?_
  refine lv_bipush (v := 39) hx hb dX4_init_103 (by decide) ?_
  refine e_newa hx hb hts aw_431 hK hP hI hz hS 113 39 (kup_n (by omega) (kup_n (by omega) (kup_n (by omega) (kup_n (by omega) (kup_n (by omega) (kup_n (by omega) (kup_n (by omega) (kup_n (by omega) (kup_n (by omega) (kup_n (by omega) (kup_n (by omega) (kup_n (by omega) (h0 12 (by decide)))))))))))))) ((ha 12 (by decide) : ad 113 = _).trans (by omega)) rfl (by decide) (by decide) (by decide) dX4_init_105 (fun H hz1 hP hI hS => ?_)
  have hsz : H.size = a0 + 13 := by omega
  have hz : z0 ≤ H.size := by omega
  refine e_putr hx hb hts inX4 tyX4 tyX4_ok nmX4 hown hK hP hI hS 100 19 (kup_n (by omega) (kup_n (by omega) (kup_n (by omega) (kup_n (by omega) (kup_n (by omega) (kup_n (by omega) (kup_n (by omega) (kup_n (by omega) (kup_n (by omega) (kup_n (by omega) (kup_n (by omega) (kup_n (by omega) (kup_n (by omega) hk))))))))))))) (by decide) rfl rfl 14 (by decide) aw_48 (fun _ h => h) (Or.inr ⟨rfl, hnm9, rfl⟩) (ty := .array .int) (w := .ref (ad 113)) (by decide +kernel) rfl rfl (Nat.le_of_ble_eq_true rfl) sp (e_set (e_z (e_set (e_z (e_set (e_z (e_set (e_z (e_set (e_z (e_set (e_z (e_set (e_z (e_set (e_z (e_set (e_z (e_set (e_z (e_set (e_z (e_set (e_z (e_set (e_z v 101) 100 20 1) 102) 100 21 1) 103) 100 22 1) 104) 100 23 1) 105) 100 24 1) 106) 100 25 1) 107) 100 26 1) 108) 100 27 1) 109) 100 28 1) 110) 100 29 1) 111) 100 30 1) 112) 100 31 1) 113) 100 32 1) (by simp (disch := omega) [e_sh, e_set_s, e_set_n, e_z_s, e_z_n, cFill_ne, upd, e_rr]) (fun _ _ h => e_sh_ne h) dX4_init_107 (fun H locs hz1 hP hS => ?_)
  have hsz : H.size = a0 + 13 := by omega
  have hz : z0 ≤ H.size := by omega
  have hk9 : (kup (kup (kup (kup (kup (kup (kup (kup (kup (kup (kup (kup (kup kd 101 28) 102 28) 103 28) 104 28) 105 532) 106 532) 107 32) 108 32) 109 32) 110 32) 111 32) 112 84) 113 59) 100 = _ := (kup_n (by omega) (kup_n (by omega) (kup_n (by omega) (kup_n (by omega) (kup_n (by omega) (kup_n (by omega) (kup_n (by omega) (kup_n (by omega) (kup_n (by omega) (kup_n (by omega) (kup_n (by omega) (kup_n (by omega) (kup_n (by omega) hk)))))))))))))
  have hP := hP.kind (K' := 12) hk9 (by decide) (by simp (disch := omega) [e_sh, e_set_s, e_set_n, e_z_s, e_z_n, cFill_ne, upd, e_rr])
  have hI := hI.kind (K' := 12) hk9 (by decide)
  have hm9 : mK (kup (kup (kup (kup (kup (kup (kup (kup (kup (kup (kup (kup (kup (kup kd 101 28) 102 28) 103 28) 104 28) 105 532) 106 532) 107 32) 108 32) 109 32) 110 32) 111 32) 112 84) 113 59) 100 12) := fun n h1 h2 => by rcases (show n = 100 ∨ n = 101 ∨ n = 102 ∨ n = 103 ∨ n = 104 ∨ n = 105 ∨ n = 106 ∨ n = 107 ∨ n = 108 ∨ n = 109 ∨ n = 110 ∨ n = 111 ∨ n = 112 ∨ n = 113 by omega) with rfl | rfl | rfl | rfl | rfl | rfl | rfl | rfl | rfl | rfl | rfl | rfl | rfl | rfl <;> rfl
  refine lv_aload_n hx hb dX4_init_110 rfl (lv_at hl 0 rfl) ?_
  refine e_cVMz (As := []) (rest := []) hx hb hml hown hts 100 (c_X4_frees (l := l) (v := (e_set (e_z (e_set (e_z (e_set (e_z (e_set (e_z (e_set (e_z (e_set (e_z (e_set (e_z (e_set (e_z (e_set (e_z (e_set (e_z (e_set (e_z (e_set (e_z (e_set (e_z v 101) 100 20 1) 102) 100 21 1) 103) 100 22 1) 104) 100 23 1) 105) 100 24 1) 106) 100 25 1) 107) 100 26 1) 108) 100 27 1) 109) 100 28 1) 110) 100 29 1) 111) 100 30 1) 112) 100 31 1) 113) 100 32 1)) hm9) cw_RX4_49 (by decide) (by decide) hz (by omega) hP hI hK hS (hm9 100 (by decide) (by decide)) (by decide) rfl rfl rfl hl.1 rfl (Nat.le_of_ble_eq_true rfl) ⟨by decide, by decide⟩ dX4_init_111 (fun H locs hz1 hP hS => ?_)
  have hsz : H.size = a0 + 13 := by omega
  have hz : z0 ≤ H.size := by omega
  exact hret _ _ _ _ _ _ _ _ _ (show (kup (kup (kup (kup (kup (kup (kup (kup (kup (kup (kup (kup (kup (kup kd 101 28) 102 28) 103 28) 104 28) 105 532) 106 532) 107 32) 108 32) 109 32) 110 32) 111 32) 112 84) 113 59) 100 12) = (kup (kup (kup (kup (kup (kup (kup (kup (kup (kup (kup (kup (kup (kup kd 101 28) 102 28) 103 28) 104 28) 105 532) 106 532) 107 32) 108 32) 109 32) 110 32) 111 32) 112 84) 113 59) 100 12) from rfl) (show sp = sp from rfl) (show (mFrees (e_set (e_z (e_set (e_z (e_set (e_z (e_set (e_z (e_set (e_z (e_set (e_z (e_set (e_z (e_set (e_z (e_set (e_z (e_set (e_z (e_set (e_z (e_set (e_z (e_set (e_z v 101) 100 20 1) 102) 100 21 1) 103) 100 22 1) 104) 100 23 1) 105) 100 24 1) 106) 100 25 1) 107) 100 26 1) 108) 100 27 1) 109) 100 28 1) 110) 100 29 1) 111) 100 30 1) 112) 100 31 1) 113) 100 32 1) 39) = mFrees (e_set (e_z (e_set (e_z (e_set (e_z (e_set (e_z (e_set (e_z (e_set (e_z (e_set (e_z (e_set (e_z (e_set (e_z (e_set (e_z (e_set (e_z (e_set (e_z (e_set (e_z v 101) 100 20 1) 102) 100 21 1) 103) 100 22 1) 104) 100 23 1) 105) 100 24 1) 106) 100 25 1) 107) 100 26 1) 108) 100 27 1) 109) 100 28 1) 110) 100 29 1) 111) 100 30 1) 112) 100 31 1) 113) 100 32 1) 39 from rfl) (by decide) (by decide) hP hI (by omega) hS dX4_init_114

set_option maxRecDepth 100000 in
set_option maxHeartbeats 4000000 in
theorem c_X3_init {l : Launch} {X : eD} {z0 t0 mi : Nat} {ad kd sp : Nat → Nat} {v : eV} {a0 : Nat} (hk : kd 0 = 18) (hkd : ∀ n, n ≠ 0 → kd n = 0) (h11 : ad 11 = t0) (ha : ∀ j, j < 3 → ad (1 + j) = a0 + j) (hv24 : v 0 24 = 0) (hs0 : sp 0 = 0) (hs1 : sp 1 = 0) (hs2 : sp 2 = 10) (hs3 : sp 3 = 10) (hs5 : sp 5 = 11) (hs6 : sp 6 = 11) (hs7 : sp 7 = 0) (hs8 : sp 8 = 0) : eSy l yX3_init cX3_init 1 5 7 112 [.ref (ad 0)] X z0 t0 mi ad kd sp v a0 (kup (kup (kup (kup (kup (kup (kup (kup (kup (kup kd 1 15) 2 15) 3 84) 4 10) 5 33) 6 33) 7 33) 1 6) 2 8) 0 5) sp (cFreeR (e_set (e_set (e_set (e_z (e_z (e_z (e_set (e_z (e_set (e_set (e_set (e_z (e_set (e_set (e_set (e_z v 1) 1 0 0) 1 21 1) 0 21 1) 2) 2 0 0) 2 21 1) 0 22 1) 3) 0 23 1) 5) 6) 7) 0 24 1) 0 4 0) 3 0 500) 3) := by
  refine e_alcS (by decide +kernel) (Nat.le_of_ble_eq_true rfl) ?_
  intro p e s m args below meth c hx hb hml hown hts hW hnm9 Q hret ls hl
  obtain ⟨⟨hz, hP, hI, hK⟩, hsz, hL⟩ := hW
  have hl : lv_has ls 1 [(0, .ref (ad 0))] := hl
  have hS : va_S (e_A z0) s.heap s.heap [] := va_S.rf
  refine lv_aload_n hx hb dX3_init_0 rfl (lv_at hl 0 rfl) ?_
  refine W.objInit hx hb hown (hts _ aw_491) (hts _ aw_413) (hts _ aw_414) rfl (hl.1.trans hml.symm) rfl dX3_init_1 (by decide) (Nat.le_of_ble_eq_true rfl) ?_
  refine lv_aload_n hx hb dX3_init_4 rfl (lv_at hl 0 rfl) ?_
  refine e_new hx hb hts inJx4a65c tyJx4a65c tyJx4a65c_ok hown aw_492 aw_493 aw_135 hK hP hI hz hS 1 15 (hkd 1 (by decide)) ((ha 0 (by decide) : ad 1 = _).trans (by omega)) (ci := 2) rfl rfl (fun j hj => by rcases (show j = 0 ∨ j = 1 ∨ j = 2 by omega) with rfl | rfl | rfl <;> (simp only [e_z_s, e_rr0]; rfl)) (by decide) (by decide) dX3_init_5 (fun H hz1 hP hI hS => ?_)
  have hsz : H.size = a0 + 1 := by omega
  have hz : z0 ≤ H.size := by omega
  refine lv_dup hx hb dX3_init_8 rfl ?_
  refine e_cIA (As := []) (rest := [.ref (ad 1), .ref (ad 0)]) hx hb hml hown hts hL 1 (c_Jx4a65c_init_da8c8 (l := l) (v := (e_z v 1)) 1 kup_s h11) cwi_RX3_9 (by decide) (by decide) hz hsz hP hI hK hS rfl hl.1 rfl (Nat.le_of_ble_eq_true rfl) ⟨by decide, by decide⟩ dX3_init_9 (fun H locs hz hz1 hP hI hS => ?_)
  have hsz : H.size = a0 + 1 := by omega
  have hz : z0 ≤ H.size := by omega
  refine e_putr hx hb hts inX3 tyX3 tyX3_ok nmX3 hown hK hP hI hS 0 18 (kup_n (by omega) hk) (by decide) rfl rfl 0 (by decide) aw_194 (fun _ h => h) (Or.inr ⟨rfl, hnm9, rfl⟩) (ty := .object "java/util/ArrayList") (w := .ref (ad 1)) (by decide +kernel) rfl rfl (Nat.le_of_ble_eq_true rfl) sp (e_set (e_set (e_set (e_z v 1) 1 0 0) 1 21 1) 0 21 1) (by simp (disch := omega) [e_sh, e_set_s, e_set_n, e_z_s, e_z_n, cFill_ne, upd, e_rr, hs5, hs6, hs0, hs1, nI_0]) (fun _ _ h => e_sh_ne h) dX3_init_12 (fun H locs hz1 hP hS => ?_)
  have hsz : H.size = a0 + 1 := by omega
  have hz : z0 ≤ H.size := by omega
  refine lv_aload_n hx hb dX3_init_15 rfl (lv_at hl 0 rfl) ?_
  refine e_new hx hb hts inJx4a65c tyJx4a65c tyJx4a65c_ok hown aw_492 aw_493 aw_135 hK hP hI hz hS 2 15 (kup_n (by omega) (hkd 2 (by decide))) ((ha 1 (by decide) : ad 2 = _).trans (by omega)) (ci := 2) rfl rfl (fun j hj => by rcases (show j = 0 ∨ j = 1 ∨ j = 2 by omega) with rfl | rfl | rfl <;> (simp only [e_z_s, e_rr0]; rfl)) (by decide) (by decide) dX3_init_16 (fun H hz1 hP hI hS => ?_)
  have hsz : H.size = a0 + 2 := by omega
  have hz : z0 ≤ H.size := by omega
  refine lv_dup hx hb dX3_init_19 rfl ?_
  refine e_cIA (As := []) (rest := [.ref (ad 2), .ref (ad 0)]) hx hb hml hown hts hL 2 (c_Jx4a65c_init_da8c8 (l := l) (v := (e_z (e_set (e_set (e_set (e_z v 1) 1 0 0) 1 21 1) 0 21 1) 2)) 2 kup_s h11) cwi_RX3_9 (by decide) (by decide) hz hsz hP hI hK hS rfl hl.1 rfl (Nat.le_of_ble_eq_true rfl) ⟨by decide, by decide⟩ dX3_init_20 (fun H locs hz hz1 hP hI hS => ?_)
  have hsz : H.size = a0 + 2 := by omega
  have hz : z0 ≤ H.size := by omega
  refine e_putr hx hb hts inX3 tyX3 tyX3_ok nmX3 hown hK hP hI hS 0 18 (kup_n (by omega) (kup_n (by omega) hk)) (by decide) rfl rfl 1 (by decide) aw_222 (fun _ h => h) (Or.inr ⟨rfl, hnm9, rfl⟩) (ty := .object "java/util/ArrayList") (w := .ref (ad 2)) (by decide +kernel) rfl rfl (Nat.le_of_ble_eq_true rfl) sp (e_set (e_set (e_set (e_z (e_set (e_set (e_set (e_z v 1) 1 0 0) 1 21 1) 0 21 1) 2) 2 0 0) 2 21 1) 0 22 1) (by simp (disch := omega) [e_sh, e_set_s, e_set_n, e_z_s, e_z_n, cFill_ne, upd, e_rr, hs5, hs6, hs0, hs1, nI_0]) (fun _ _ h => e_sh_ne h) dX3_init_23 (fun H locs hz1 hP hS => ?_)
  have hsz : H.size = a0 + 2 := by omega
  have hz : z0 ≤ H.size := by omega
  refine lv_aload_n hx hb dX3_init_26 rfl (lv_at hl 0 rfl) ?_
  refine lv_bipush (v := 64) hx hb dX3_init_27 (by decide) ?_
  refine e_newa hx hb hts aw_431 hK hP hI hz hS 3 64 (kup_n (by omega) (kup_n (by omega) (hkd 3 (by decide)))) ((ha 2 (by decide) : ad 3 = _).trans (by omega)) rfl (by decide) (by decide) (by decide) dX3_init_29 (fun H hz1 hP hI hS => ?_)
  have hsz : H.size = a0 + 3 := by omega
  have hz : z0 ≤ H.size := by omega
  refine e_putr hx hb hts inX3 tyX3 tyX3_ok nmX3 hown hK hP hI hS 0 18 (kup_n (by omega) (kup_n (by omega) (kup_n (by omega) hk))) (by decide) rfl rfl 2 (by decide) aw_259 (fun _ h => h) (Or.inr ⟨rfl, hnm9, rfl⟩) (ty := .array .int) (w := .ref (ad 3)) (by decide +kernel) rfl rfl (Nat.le_of_ble_eq_true rfl) sp (e_set (e_z (e_set (e_set (e_set (e_z (e_set (e_set (e_set (e_z v 1) 1 0 0) 1 21 1) 0 21 1) 2) 2 0 0) 2 21 1) 0 22 1) 3) 0 23 1) (by simp (disch := omega) [e_sh, e_set_s, e_set_n, e_z_s, e_z_n, cFill_ne, upd, e_rr, hs5, hs6, hs0, hs1, nI_0]) (fun _ _ h => e_sh_ne h) dX3_init_31 (fun H locs hz1 hP hS => ?_)
  have hsz : H.size = a0 + 3 := by omega
  have hz : z0 ≤ H.size := by omega
  refine lv_aload_n hx hb dX3_init_34 rfl (lv_at hl 0 rfl) ?_
  refine lv_iconst (v := 3) hx hb dX3_init_35 (by decide) ?_
  refine lv_bipush (v := 13) hx hb dX3_init_36 (by decide) ?_
  have hdom : ∀ n, (kup (kup (kup kd 1 15) 2 15) 3 84) n ≠ 0 → n < 4 := by
    intro n hn
    by_cases h : n < 4
    · exact h
    · exact absurd (by unfold kup; rw [if_neg (by omega), if_neg (by omega), if_neg (by omega)]; exact hkd n (by omega)) hn
  refine e_mna hx hb hts hown aw_498 hL.2.2.2.2.2.2.2 aw_431 hK hP hI hS (by omega) hdom (kup_n (by omega) (kup_n (by omega) (kup_n (by omega) hk))) (kup_n (by omega) (kup_n (by omega) kup_s)) (kup_n (by omega) kup_s) kup_s (by simp (disch := omega) [e_sh, e_set_s, e_set_n, e_z_s, e_z_n, cFill_ne, upd, e_rr, hv24]) (by decide) (by decide) dX3_init_38 (fun a1 H ha9 hz hP hI hS => ?_)
  rw [← ha9 0 (Or.inl (by decide))]
  rw [← ha9 0 (Or.inl (by decide))] at hl
  have h11 : a1 11 = t0 := (ha9 11 (Or.inr (by decide))).trans h11
  refine e_putr hx hb hts inX3 tyX3 tyX3_ok nmX3 hown hK hP hI hS 0 18 (kup_n (by omega) (kup_n (by omega) (kup_n (by omega) (kup_n (by omega) (kup_n (by omega) (kup_n (by omega) (kup_n (by omega) hk))))))) (by decide) rfl rfl 3 (by decide) aw_270 (fun _ h => h) (Or.inr ⟨rfl, hnm9, rfl⟩) (ty := .array (.array .int)) (w := .ref (a1 4)) (by decide +kernel) rfl rfl (Nat.le_of_ble_eq_true rfl) sp (e_set (e_z (e_z (e_z (e_set (e_z (e_set (e_set (e_set (e_z (e_set (e_set (e_set (e_z v 1) 1 0 0) 1 21 1) 0 21 1) 2) 2 0 0) 2 21 1) 0 22 1) 3) 0 23 1) 5) 6) 7) 0 24 1) (by simp (disch := omega) [e_sh, e_set_s, e_set_n, e_z_s, e_z_n, cFill_ne, upd, e_rr, hs5, hs6, hs0, hs1, nI_0]) (fun _ _ h => e_sh_ne h) dX3_init_42 (fun H locs hz1 hP hS => ?_)
  have hz : z0 ≤ H.size := by omega
  refine lv_aload_n hx hb dX3_init_45 rfl (lv_at hl 0 rfl) ?_
  refine lv_iconst (v := 0) hx hb dX3_init_46 (by decide) ?_
  refine e_putr hx hb hts inX3 tyX3 tyX3_ok nmX3 hown hK hP hI hS 0 18 (kup_n (by omega) (kup_n (by omega) (kup_n (by omega) (kup_n (by omega) (kup_n (by omega) (kup_n (by omega) (kup_n (by omega) hk))))))) (by decide) rfl rfl 4 (by decide) aw_316 (fun _ h => h) (Or.inl rfl) (ty := .int) (w := .int 0) (by decide +kernel) rfl rfl (Nat.le_of_ble_eq_true rfl) sp (e_set (e_set (e_z (e_z (e_z (e_set (e_z (e_set (e_set (e_set (e_z (e_set (e_set (e_set (e_z v 1) 1 0 0) 1 21 1) 0 21 1) 2) 2 0 0) 2 21 1) 0 22 1) 3) 0 23 1) 5) 6) 7) 0 24 1) 0 4 0) (by simp (disch := omega) [e_sh, e_set_s, e_set_n, e_z_s, e_z_n, cFill_ne, upd, e_rr, hs5, hs6, hs0, hs1, nI_0]) (fun _ _ h => e_sh_ne h) dX3_init_47 (fun H locs hz1 hP hS => ?_)
  have hz : z0 ≤ H.size := by omega
  refine lv_aload_n hx hb dX3_init_50 rfl (lv_at hl 0 rfl) ?_
  refine e_getf hx hb hts inX3 hown hK hP 0 18 (kup_n (by omega) (kup_n (by omega) (kup_n (by omega) (kup_n (by omega) (kup_n (by omega) (kup_n (by omega) (kup_n (by omega) hk))))))) (by decide) rfl rfl 2 (by decide) aw_259 (fun _ h => h) (show _ = some (Value.ref (a1 3)) by first | (simp (disch := omega) [e_sh, e_set_s, e_set_n, e_z_s, e_z_n, cFill_ne, upd, e_rr, hs5, hs6, hs0, hs1, nI_0]; done) | (simp (disch := omega) [e_sh, e_set_s, e_set_n, e_z_s, e_z_n, cFill_ne, upd, e_rr, hs5, hs6, hs0, hs1, nI_0]; rfl)) dX3_init_51 ?_
  refine lv_iconst (v := 0) hx hb dX3_init_54 (by decide) ?_
  refine lv_sipush (v := 500) hx hb dX3_init_55 (by decide) ?_
  refine e_iast hx hb hK hP hI hS 3 64 (kup_n (by omega) (kup_n (by omega) (kup_n (by omega) (kup_n (by omega) kup_s)))) 0 rfl (by omega) (by omega) dX3_init_58 (fun H locs hz1 hP hS => ?_)
  have hz : z0 ≤ H.size := by omega
  have hk9 : (kup (kup (kup (kup (kup (kup (kup kd 1 15) 2 15) 3 84) 4 10) 5 33) 6 33) 7 33) 1 = _ := (kup_n (by omega) (kup_n (by omega) (kup_n (by omega) (kup_n (by omega) (kup_n (by omega) (kup_n (by omega) kup_s))))))
  have hP := hP.kind (K' := 6) hk9 (by decide) (by simp (disch := omega) [e_sh, e_set_s, e_set_n, e_z_s, e_z_n, cFill_ne, upd, e_rr, hs5, hs6, hs0, hs1, nI_0])
  have hI := hI.kind (K' := 6) hk9 (by decide)
  have hk9 : (kup (kup (kup (kup (kup (kup (kup (kup kd 1 15) 2 15) 3 84) 4 10) 5 33) 6 33) 7 33) 1 6) 2 = _ := (kup_n (by omega) (kup_n (by omega) (kup_n (by omega) (kup_n (by omega) (kup_n (by omega) (kup_n (by omega) kup_s))))))
  have hP := hP.kind (K' := 8) hk9 (by decide) (by simp (disch := omega) [e_sh, e_set_s, e_set_n, e_z_s, e_z_n, cFill_ne, upd, e_rr, hs5, hs6, hs0, hs1, nI_0])
  have hI := hI.kind (K' := 8) hk9 (by decide)
  have hk9 : (kup (kup (kup (kup (kup (kup (kup (kup (kup kd 1 15) 2 15) 3 84) 4 10) 5 33) 6 33) 7 33) 1 6) 2 8) 0 = _ := (kup_n (by omega) (kup_n (by omega) (kup_n (by omega) (kup_n (by omega) (kup_n (by omega) (kup_n (by omega) (kup_n (by omega) (kup_n (by omega) (kup_n (by omega) hk)))))))))
  have hP := hP.kind (K' := 5) hk9 (by decide) (by simp (disch := omega) [e_sh, e_set_s, e_set_n, e_z_s, e_z_n, cFill_ne, upd, e_rr, hs5, hs6, hs0, hs1, nI_0])
  have hI := hI.kind (K' := 5) hk9 (by decide)
  have hc9 : cK (kup (kup (kup (kup (kup (kup (kup (kup (kup (kup kd 1 15) 2 15) 3 84) 4 10) 5 33) 6 33) 7 33) 1 6) 2 8) 0 5) sp := ⟨⟨rfl, rfl, rfl, rfl, rfl, fun r hr => by rcases (show r = 0 ∨ r = 1 ∨ r = 2 by omega) with rfl | rfl | rfl <;> rfl⟩, fun h => absurd h (by omega), fun h => absurd h (by omega), fun i hi => absurd hi (by omega), fun i hi => absurd hi (by omega), by omega, by omega, by omega, by omega, by omega, by omega, by omega, by omega⟩
  refine lv_aload_n hx hb dX3_init_59 rfl (lv_at hl 0 rfl) ?_
  refine e_cVM (As := []) (rest := []) hx hb hml hown hts 0 (c_X3_freeRooms (l := l) (v := (e_set (e_set (e_set (e_z (e_z (e_z (e_set (e_z (e_set (e_set (e_set (e_z (e_set (e_set (e_set (e_z v 1) 1 0 0) 1 21 1) 0 21 1) 2) 2 0 0) 2 21 1) 0 22 1) 3) 0 23 1) 5) 6) 7) 0 24 1) 0 4 0) 3 0 500)) hc9) cw_RX3_32 (by decide) (by decide) hz hP hI hK hS hc9.1.1 (by decide) rfl rfl rfl hl.1 rfl (Nat.le_of_ble_eq_true rfl) ⟨by decide, by decide⟩ dX3_init_60 (fun H locs hz hP hS => ?_)
  exact hret _ _ _ _ a1 _ _ _ _ _ rfl rfl rfl (by decide) (by decide) ha9 hP hI hS dX3_init_63

theorem aw_461 : Cond.methodLink RJ8 194 yJ9_max_7cf53 ∈ AW := aw_of (List.mem_of_getElem? (i := 371) (by decide +kernel)) (by decide +kernel)
theorem aw_462 : Cond.constant RJ8 200 2147483639 ∈ AW := aw_of (List.mem_of_getElem? (i := 372) (by decide +kernel)) (by decide +kernel)
theorem aw_463 : Cond.classLink RJ7 110 e_AO ∈ AW := aw_of (List.mem_of_getElem? (i := 397) (by decide +kernel)) (by decide +kernel)
theorem aw_464 : Cond.classLink RJ7 2 e_O ∈ AW := aw_of (List.mem_of_getElem? (i := 399) (by decide +kernel)) (by decide +kernel)
theorem aw_465 : Cond.methodLink RJ7 304 yJ9_min_7cf53 ∈ AW := aw_of (List.mem_of_getElem? (i := 400) (by decide +kernel)) (by decide +kernel)
set_option maxRecDepth 100000 in
theorem aw_466 : Cond.code yJ9_min_7cf53 cJ9_min_7cf53 2 (some .int) ∈ AW := aw_of (List.mem_of_getElem? (i := 402) rfl) (by decide +kernel)
theorem em_code_min : Cond.code Lib.Math.min.name Lib.Math.min.code 2 (some .int) ∈ AW := aw_466
theorem aw_468 : Cond.static yJ9_min_7cf53 ∈ AW := aw_of (List.mem_of_getElem? (i := 401) (by decide +kernel)) (by decide +kernel)
theorem aw_469 : Cond.methodLink RJ7 150 arraycopyName ∈ AW := aw_of (List.mem_of_getElem? (i := 403) (by decide +kernel)) (by decide +kernel)
theorem aw_470 : Cond.native arraycopyName ∈ AW := aw_of (List.mem_of_getElem? (i := 405) (by decide +kernel)) (by decide +kernel)
theorem aw_471 : Cond.static arraycopyName ∈ AW := aw_of (List.mem_of_getElem? (i := 404) (by decide +kernel)) (by decide +kernel)
theorem aw_472 : Cond.initialized "java/lang/System" ∈ AW := aw_of (List.mem_of_getElem? (i := 63) (by decide +kernel)) (by decide +kernel)
theorem aw_473 : Cond.methodLink RJ7 86 e_gC ∈ AW := aw_of (List.mem_of_getElem? (i := 379) (by decide +kernel)) (by decide +kernel)
theorem aw_474 : Cond.selects e_AO e_gC e_gC ∈ AW := aw_of (List.mem_of_getElem? (i := 930) (by decide +kernel)) (by decide +kernel)
theorem aw_475 : Cond.instanceMethod e_gC ∈ AW := aw_of (List.mem_of_getElem? (i := 380) (by decide +kernel)) (by decide +kernel)
theorem aw_476 : Cond.native e_gC ∈ AW := aw_of (List.mem_of_getElem? (i := 393) (by decide +kernel)) (by decide +kernel)
theorem aw_477 : Cond.methodLink RJ7 300 yJ7_copyOf_6403c ∈ AW := aw_of (List.mem_of_getElem? (i := 394) (by decide +kernel)) (by decide +kernel)
theorem aw_478 : Cond.static yJ7_copyOf_6403c ∈ AW := aw_of (List.mem_of_getElem? (i := 395) (by decide +kernel)) (by decide +kernel)
set_option maxRecDepth 100000 in
theorem aw_479 : Cond.code yJ7_copyOf_6403c cJ7_copyOf_6403c 4 (some (.array (.object "java/lang/Object"))) ∈ AW := aw_of (List.mem_of_getElem? (i := 396) rfl) (by decide +kernel)
theorem cw_RJ7_300 : e_cwS RJ7 300 yJ7_copyOf_6403c cJ7_copyOf_6403c 4 (some (.array (.object "java/lang/Object"))) 3 := ⟨aw_477, aw_478, aw_293, aw_479, by decide +kernel, by decide +kernel, by decide +kernel⟩
theorem aw_481 : Cond.methodLink RJx4a65c 73 yJ8_newLength_cabcc ∈ AW := aw_of (List.mem_of_getElem? (i := 368) (by decide +kernel)) (by decide +kernel)
theorem aw_482 : Cond.static yJ8_newLength_cabcc ∈ AW := aw_of (List.mem_of_getElem? (i := 369) (by decide +kernel)) (by decide +kernel)
theorem aw_483 : Cond.initialized RJ8 ∈ AW := aw_of (List.mem_of_getElem? (i := 61) (by decide +kernel)) (by decide +kernel)
set_option maxRecDepth 100000 in
theorem aw_484 : Cond.code yJ8_newLength_cabcc cJ8_newLength_cabcc 4 (some .int) ∈ AW := aw_of (List.mem_of_getElem? (i := 370) rfl) (by decide +kernel)
theorem cw_RJx4a65c_73 : e_cwS RJx4a65c 73 yJ8_newLength_cabcc cJ8_newLength_cabcc 4 (some .int) 3 := ⟨aw_481, aw_482, aw_483, aw_484, by decide +kernel, by decide +kernel, by decide +kernel⟩
theorem aw_486 : Cond.methodLink RJx4a65c 66 yJ7_copyOf_1904c ∈ AW := aw_of (List.mem_of_getElem? (i := 376) (by decide +kernel)) (by decide +kernel)
theorem aw_487 : Cond.static yJ7_copyOf_1904c ∈ AW := aw_of (List.mem_of_getElem? (i := 377) (by decide +kernel)) (by decide +kernel)
set_option maxRecDepth 100000 in
theorem aw_488 : Cond.code yJ7_copyOf_1904c cJ7_copyOf_1904c 2 (some (.array (.object "java/lang/Object"))) ∈ AW := aw_of (List.mem_of_getElem? (i := 378) rfl) (by decide +kernel)
theorem cw_RJx4a65c_66 : e_cwS RJx4a65c 66 yJ7_copyOf_1904c cJ7_copyOf_1904c 2 (some (.array (.object "java/lang/Object"))) 2 := ⟨aw_486, aw_487, aw_293, aw_488, by decide +kernel, by decide +kernel, by decide +kernel⟩
theorem e_recvA {s : State} {X : eD} {ad kd sp : Nat → Nat} {v : eV} {H : Heap} (hK : e_S X s) (hP : e_P X ad kd sp v H) {n K N : Nat} {f : Nat → Option Nat} (hk : kd n = K) (h0 : K ≠ 0) (he : e_sh X ad sp v K n = .inl (X.2 1, N, .inr (.inr (.inr (.inr f))))) : ∃ cell : Cell, H[ad n]? = some cell ∧ cell.vm.isStatics = false ∧ s.vm.findClass e_AO = some cell.cls := by
  have h := hP n (by rw [hk]; exact h0)
  rw [hk, he] at h
  obtain ⟨kA, comp, g1, g2, g3, g4⟩ := (hK.1.2 1 _ rfl).2
  exact ⟨_, h, rfl, g4⟩
theorem e_lift10 {X : eD} {z0 : Nat} {ad kd sp : Nat → Nat} {v : eV} {H : Heap} (hP : e_P X ad (kup kd 10 16) (upN (upN sp 9 10) 6 10) v H) (hI : e_I z0 ad (kup kd 10 16)) (u9 : ∀ m, kd m = 9 → m = 9) (h8 : sp 8 = 10) (h4 : sp 4 = 15) : e_P X ad (kup (kup (kup kd 10 16) 9 0) 10 9) (upN (upN (upN sp 9 10) 6 10) 3 15) v H ∧ e_I z0 ad (kup (kup (kup kd 10 16) 9 0) 10 9) := by
  have key : ∀ m, kup (kup (kup kd 10 16) 9 0) 10 9 m ≠ 0 → kup kd 10 16 m ≠ 0 ∧ ad m = ad m ∧ e_sh X ad (upN (upN (upN sp 9 10) 6 10) 3 15) v (kup (kup (kup kd 10 16) 9 0) 10 9 m) m = e_sh X ad (upN (upN sp 9 10) 6 10) v (kup kd 10 16 m) m := by
    intro m hm
    by_cases h : m = 10
    · subst h
      refine ⟨by simp [kup], rfl, ?_⟩
      simp [kup, e_sh, upN, h8, h4]
    · by_cases h' : m = 9
      · subst h'
        exact absurd rfl hm
      · have e1 : kup (kup (kup kd 10 16) 9 0) 10 9 m = kd m := by simp [kup, h, h']
        have e2 : kup kd 10 16 m = kd m := by simp [kup, h]
        rw [e1] at hm
        rw [e1, e2]
        exact ⟨hm, rfl, e_u3 (fun q => h' (u9 m q))⟩
  exact ⟨hP.re key, hI.re fun m hm => ⟨(key m hm).1, rfl⟩⟩
theorem e_u9no {kd : Nat → Nat} {m : Nat} (h : kup (kup (kup kd 10 16) 9 0) 10 9 m = 9) (u9 : ∀ m, kd m = 9 → m = 9) : m = 10 := by
  by_cases e : m = 10
  · exact e
  · by_cases e' : m = 9
    · subst e'
      simp [kup] at h
    · have : kup (kup (kup kd 10 16) 9 0) 10 9 m = kd m := by simp [kup, e, e']
      rw [this] at h
      exact absurd (u9 m h) e'
set_option maxRecDepth 100000 in
set_option maxHeartbeats 4000000 in
theorem c_J8_newLength_cabcc {l : Launch} {X : eD} {z0 : Nat} {ad kd sp : Nat → Nat} {v : eV} (x y : Int32) (hx2 : x = 1) (hy2 : y = 5) : ePu l yJ8_newLength_cabcc cJ8_newLength_cabcc 4 (some .int) 4 [.int 10, .int x, .int y] (e_W X z0 ad kd sp v) (some (.int 15)) := by
  refine e_pureI (by decide +kernel) (Nat.le_of_ble_eq_true rfl) rfl ?_
  intro p e s m args below meth c hx hb hml hown hts hW Q hret ls hl
  obtain ⟨hz, hP, hI, hK⟩ := hW
  have hl : lv_has ls 4 [(0, .int 10), (1, .int x), (2, .int y)] := hl
  refine lv_iload_n hx hb dJ8_newLength_cabcc_0 rfl (lv_at hl 0 rfl) ?_
  refine lv_iload_n hx hb dJ8_newLength_cabcc_1 rfl (lv_at hl 1 rfl) ?_
  refine lv_iload_n hx hb dJ8_newLength_cabcc_2 rfl (lv_at hl 2 rfl) ?_
  refine va_mmax hx hb (hml.trans hl.1.symm) hown (hts _ aw_461) (hts _ aw_320) (hts _ aw_154) (hts _ em_code_max) (by decide) (Nat.le_of_ble_eq_true rfl) (Nat.zero_le _) (Nat.zero_le _) dJ8_newLength_cabcc_3 ?_
  refine e_nrm (y := cMax x y) rfl ?_
  refine lv_iadd hx hb dJ8_newLength_cabcc_6 ?_
  refine lv_istore_n (lv' := [(3, .int (10 + (cMax x y))), (0, .int 10), (1, .int x), (2, .int y)]) hx hb dJ8_newLength_cabcc_7 rfl hl (by decide) rfl (fun ls hl => ?_)
  refine lv_iconst (v := 0) hx hb dJ8_newLength_cabcc_8 (by decide) ?_
  refine lv_iload_n hx hb dJ8_newLength_cabcc_9 rfl (lv_at hl 0 rfl) ?_
  refine lv_icmp_ge (tgt := 21) hx hb dJ8_newLength_cabcc_10 (by decide) (fun c_1 => ?_) (fun c_1 => ?_)
  · skip
    exact absurd c_1 (by rw [hx2, hy2]; decide)
  · skip
    refine lv_iload_n hx hb dJ8_newLength_cabcc_13 rfl (lv_at hl 0 rfl) ?_
    refine lv_ldc hx hb hown (hts _ aw_462) dJ8_newLength_cabcc_14 ?_
    refine lv_icmp_gt (tgt := 21) hx hb dJ8_newLength_cabcc_16 (by decide) (fun c_2 => ?_) (fun c_2 => ?_)
    · skip
      exact absurd c_2 (by rw [hx2, hy2]; decide)
    · skip
      refine lv_iload_n hx hb dJ8_newLength_cabcc_19 rfl (lv_at hl 0 rfl) ?_
      exact e_nrm (show (10 + (cMax x y)) = 15 from by rw [hx2, hy2]; decide) (hret _ _ dJ8_newLength_cabcc_20)

set_option maxRecDepth 100000 in
set_option maxHeartbeats 4000000 in
theorem c_cp3 {l : Launch} {X : eD} {z0 t0 mi : Nat} {ad kd sp : Nat → Nat} {v : eV} {a0 : Nat} (h9 : kd 9 = 9) (h10 : kd 10 = 0) (u9 : ∀ m, kd m = 9 → m = 9) (u16 : ∀ m, kd m ≠ 16) (hcap : sp 3 = 10) (hcnt10 : sp 8 = 10) (hs4 : sp 4 = 15) (hs9 : sp 9 = 0) (hel : ∀ i, i < 10 → kd (80 + i) = 4) (ha : ad 10 = a0) : eAl l yJ7_copyOf_6403c cJ7_copyOf_6403c 4 (some (.array (.object "java/lang/Object"))) 3 1 15 [.ref (ad 9), .int 15, .ref mi] X z0 t0 mi ad kd sp v a0 (some (.ref (ad 10))) (kup kd 10 16) (upN sp 9 10) (e_z v 10) (a0 + 1) := by
  refine e_alcR (by decide +kernel) (Nat.le_of_ble_eq_true rfl) (Or.inr ⟨_, rfl⟩) ?_
  intro p e s m args below meth c hx hb hml hown hts hW hnm9 Q hret ls hl
  obtain ⟨⟨hz, hP, hI, hK⟩, hsz, hL⟩ := hW
  have hl : lv_has ls 4 [(0, .ref (ad 9)), (1, .int 15), (2, .ref mi)] := hl
  have hS : va_S (e_A z0) s.heap s.heap [] := va_S.rf
  refine lv_aload_n hx hb dJ7_copyOf_6403c_0 rfl (lv_at hl 2 rfl) ?_
  refine va_ldcM hx hb hown (hts _ aw_463) hL.2.2.2.1 dJ7_copyOf_6403c_1 ?_
  refine lv_acmp_ne (rx := some mi) (ry := some mi) (tgt := 13) hx hb dJ7_copyOf_6403c_3 (by decide) (fun c9 => absurd rfl c9) (fun _ => ?_)
  refine lv_iload_n hx hb dJ7_copyOf_6403c_6 rfl (lv_at hl 1 rfl) ?_
  refine e_newo hx hb hts hown aw_464 hL.2.2.1 hK hP hI hz hS 10 16 15 h10 ((ha : ad 10 = _).trans (by omega)) (by show Sum.inl (_, _, _) = _; rw [hs4]) (e_none hs9) rfl (by decide) (by decide) (by decide) dJ7_copyOf_6403c_7 (fun H hz1 hP hI hS => ?_)
  have hsz : H.size = a0 + 1 := by omega
  have hz : z0 ≤ H.size := by omega
  refine lv_goto (tgt := 24) hx hb dJ7_copyOf_6403c_10 (by decide) ?_
  refine lv_astore_n (lv' := [(3, .ref (ad 10)), (0, .ref (ad 9)), (1, .int 15), (2, .ref mi)]) hx hb dJ7_copyOf_6403c_24 rfl hl (by decide) rfl (fun ls hl => ?_)
  refine lv_aload_n hx hb dJ7_copyOf_6403c_25 rfl (lv_at hl 1 rfl) ?_
  refine lv_iconst (v := 0) hx hb dJ7_copyOf_6403c_26 (by decide) ?_
  refine lv_aload_n hx hb dJ7_copyOf_6403c_27 rfl (lv_at hl 0 rfl) ?_
  refine lv_iconst (v := 0) hx hb dJ7_copyOf_6403c_28 (by decide) ?_
  refine lv_aload_n hx hb dJ7_copyOf_6403c_29 rfl (lv_at hl 1 rfl) ?_
  refine e_oalen hx hb hK hP 9 9 (sp 3) (kup_n (by omega) h9) (by decide) rfl dJ7_copyOf_6403c_30 ?_
  refine e_nrm (y := 10) (by show nI (sp 3) = 10; rw [hcap]; rfl) ?_
  refine lv_iload_n hx hb dJ7_copyOf_6403c_31 rfl (lv_at hl 2 rfl) ?_
  refine va_mmin hx hb (hml.trans hl.1.symm) hown (hts _ aw_465) (hts _ aw_468) (hts _ aw_154) (hts _ em_code_min) (by decide) (Nat.le_of_ble_eq_true rfl) (by decide) (by decide) dJ7_copyOf_6403c_32 ?_
  refine e_nrm (y := 10) (by decide) ?_
  refine e_copy hx hb (hml.trans hl.1.symm) hown (hts _ aw_469) (hts _ aw_470) (hts _ aw_471) (hts _ aw_472) hK hP hI hS hL.2.2.2.2.2.1 9 10 (kup_n (by omega) h9) kup_s (fun m h => kup_u0 h u16) hcap hcnt10 hs4 hs9 (fun i hi => kup_n (by omega) (hel i hi)) (by decide) (Nat.le_of_ble_eq_true rfl) dJ7_copyOf_6403c_35 (fun H locs hz1 hP hS => ?_)
  have hsz : H.size = a0 + 1 := by omega
  have hz : z0 ≤ H.size := by omega
  refine lv_aload_n hx hb dJ7_copyOf_6403c_38 rfl (lv_at hl 0 rfl) ?_
  exact hret _ _ _ _ _ _ _ _ _ (show (kup kd 10 16) = kup kd 10 16 from rfl) (show (upN sp 9 10) = upN sp 9 10 from rfl) (show (e_z v 10) = e_z v 10 from rfl) (by decide) (by decide) hP hI (by omega) hS dJ7_copyOf_6403c_39

set_option maxRecDepth 100000 in
set_option maxHeartbeats 4000000 in
theorem c_cp2 {l : Launch} {X : eD} {z0 t0 mi : Nat} {ad kd sp : Nat → Nat} {v : eV} {a0 : Nat} (h9 : kd 9 = 9) (h10 : kd 10 = 0) (u9 : ∀ m, kd m = 9 → m = 9) (u16 : ∀ m, kd m ≠ 16) (hcap : sp 3 = 10) (hcnt10 : sp 8 = 10) (hs4 : sp 4 = 15) (hs9 : sp 9 = 0) (hel : ∀ i, i < 10 → kd (80 + i) = 4) (ha : ad 10 = a0) : eAl l yJ7_copyOf_1904c cJ7_copyOf_1904c 2 (some (.array (.object "java/lang/Object"))) 4 1 15 [.ref (ad 9), .int 15] X z0 t0 mi ad kd sp v a0 (some (.ref (ad 10))) (kup kd 10 16) (upN sp 9 10) (e_z v 10) (a0 + 1) := by
  refine e_alcR (by decide +kernel) (Nat.le_of_ble_eq_true rfl) (Or.inr ⟨_, rfl⟩) ?_
  intro p e s m args below meth c hx hb hml hown hts hW hnm9 Q hret ls hl
  obtain ⟨⟨hz, hP, hI, hK⟩, hsz, hL⟩ := hW
  have hl : lv_has ls 2 [(0, .ref (ad 9)), (1, .int 15)] := hl
  have hS : va_S (e_A z0) s.heap s.heap [] := va_S.rf
  refine lv_aload_n hx hb dJ7_copyOf_1904c_0 rfl (lv_at hl 0 rfl) ?_
  refine lv_iload_n hx hb dJ7_copyOf_1904c_1 rfl (lv_at hl 1 rfl) ?_
  refine lv_aload_n hx hb dJ7_copyOf_1904c_2 rfl (lv_at hl 0 rfl) ?_
  refine va_getC (C := e_AO) hx hb (hml.trans hl.1.symm) hown (hts _ aw_473) (va_Nw.use rfl hL.2.2.2.2.2.2.1) (hts _ aw_474) (hts _ aw_475) (hts _ aw_476) hL.2.2.2.1 (e_recvA hK hP h9 (by decide) rfl) (by decide) (Nat.le_of_ble_eq_true rfl) dJ7_copyOf_1904c_3 ?_
  refine e_cSA (As := [.ref (ad 9), .int 15, .ref mi]) (rest := []) hx hb hml hown hts hL  (c_cp3 (l := l) (v := v) h9 h10 u9 u16 hcap hcnt10 hs4 hs9 hel ha) cw_RJ7_300 (by decide) (by decide) hz hsz hP hI hK hS rfl hl.1 rfl (Nat.le_of_ble_eq_true rfl) ⟨by decide, by decide⟩ dJ7_copyOf_1904c_6 (fun H locs hz hz1 hP hI hS => ?_)
  have hsz : H.size = a0 + 1 := by omega
  have hz : z0 ≤ H.size := by omega
  exact hret _ _ _ _ _ _ _ _ _ (show (kup kd 10 16) = kup kd 10 16 from rfl) (show (upN sp 9 10) = upN sp 9 10 from rfl) (show (e_z v 10) = e_z v 10 from rfl) (by decide) (by decide) hP hI (by omega) hS dJ7_copyOf_1904c_9

set_option maxRecDepth 100000 in
set_option maxHeartbeats 4000000 in
theorem c_gI_L2 {l : Launch} {X : eD} {z0 t0 mi : Nat} {ad kd sp : Nat → Nat} {v : eV} {a0 : Nat} (hk : kd 2 = 8) (u6 : ∀ m, kd m = 8 → m = 2) (h0 : sp 1 = 10) (hp : sp 6 = 9) (hcnt : sp 8 = sp 1) (h9 : kd 9 = 9) (h10 : kd 10 = 0) (u9 : ∀ m, kd m = 9 → m = 9) (u16 : ∀ m, kd m ≠ 16) (hcap : sp 3 = 10) (hcnt10 : sp 8 = 10) (hs4 : sp 4 = 15) (hs9 : sp 9 = 0) (hel : ∀ i, i < 10 → kd (80 + i) = 4) (ha : ad 10 = a0) (x : Int32) (hx1 : x = 11) : eAl l yJx4a65c_grow_92f84 cJx4a65c_grow_92f84 4 (some (.array (.object "java/lang/Object"))) 5 1 15 [.ref (ad 2), .int x] X z0 t0 mi ad kd sp v a0 (some (.ref (ad 10))) (kup (kup (kup kd 10 16) 9 0) 10 9) (upN (upN (upN sp 9 10) 6 10) 3 15) (e_z v 10) (a0 + 1) := by
  refine e_alcR (by decide +kernel) (Nat.le_of_ble_eq_true rfl) (Or.inr ⟨_, rfl⟩) ?_
  intro p e s m args below meth c hx hb hml hown hts hW hnm9 Q hret ls hl
  obtain ⟨⟨hz, hP, hI, hK⟩, hsz, hL⟩ := hW
  have hl : lv_has ls 4 [(0, .ref (ad 2)), (1, .int x)] := hl
  have hS : va_S (e_A z0) s.heap s.heap [] := va_S.rf
  refine lv_aload_n hx hb dJx4a65c_grow_92f84_0 rfl (lv_at hl 0 rfl) ?_
  refine e_getf hx hb hts inJx4a65c hown hK hP 2 8 hk (by decide) rfl rfl 1 (by decide) aw_126 (fun _ h => h) (show _ = some (Value.ref (ad 9)) by first | (simp (disch := omega) [e_sh, e_set_s, e_set_n, e_z_s, e_z_n, cFill_ne, upd, e_rr, hp]; done) | (simp (disch := omega) [e_sh, e_set_s, e_set_n, e_z_s, e_z_n, cFill_ne, upd, e_rr, hp]; rfl)) dJx4a65c_grow_92f84_1 ?_
  refine e_oalen hx hb hK hP 9 9 (sp 3) h9 (by decide) rfl dJx4a65c_grow_92f84_4 ?_
  refine e_nrm (y := 10) (by show nI (sp 3) = 10; rw [hcap]; rfl) ?_
  refine lv_istore_n (lv' := [(2, .int 10), (0, .ref (ad 2)), (1, .int x)]) hx hb dJx4a65c_grow_92f84_5 rfl hl (by decide) rfl (fun ls hl => ?_)
  refine lv_iload_n hx hb dJx4a65c_grow_92f84_6 rfl (lv_at hl 0 rfl) ?_
  refine lv_if_gt (tgt := 20) hx hb dJx4a65c_grow_92f84_7 (by decide) (fun c_1 => ?_) (fun c_1 => absurd (by decide) c_1)
  refine lv_iload_n hx hb dJx4a65c_grow_92f84_20 rfl (lv_at hl 0 rfl) ?_
  refine lv_iload_n hx hb dJx4a65c_grow_92f84_21 rfl (lv_at hl 2 rfl) ?_
  refine lv_iload_n hx hb dJx4a65c_grow_92f84_22 rfl (lv_at hl 0 rfl) ?_
  refine lv_isub hx hb dJx4a65c_grow_92f84_23 ?_
  refine lv_iload_n hx hb dJx4a65c_grow_92f84_24 rfl (lv_at hl 0 rfl) ?_
  refine lv_iconst (v := 1) hx hb dJx4a65c_grow_92f84_25 (by decide) ?_
  refine lv_ishr hx hb dJx4a65c_grow_92f84_26 ?_
  refine e_cS (As := [.int 10, .int (x - 10), .int ((10 : Int32) >>> ((1 : Int32) &&& 31))]) (rest := []) hx hb hml hown hts (c_J8_newLength_cabcc (l := l) (v := v) (x - 10) ((10 : Int32) >>> ((1 : Int32) &&& 31)) (by rw [hx1]; decide) (by decide)) cw_RJx4a65c_73 (by decide) (by decide) hz hP hI hK rfl hl.1 rfl (Nat.le_of_ble_eq_true rfl) ⟨by decide, by decide⟩ dJx4a65c_grow_92f84_27 ?_
  refine lv_istore_n (lv' := [(3, .int 15), (2, .int 10), (0, .ref (ad 2)), (1, .int x)]) hx hb dJx4a65c_grow_92f84_30 rfl hl (by decide) rfl (fun ls hl => ?_)
  refine lv_aload_n hx hb dJx4a65c_grow_92f84_31 rfl (lv_at hl 2 rfl) ?_
  refine lv_aload_n hx hb dJx4a65c_grow_92f84_32 rfl (lv_at hl 2 rfl) ?_
  refine e_getf hx hb hts inJx4a65c hown hK hP 2 8 hk (by decide) rfl rfl 1 (by decide) aw_126 (fun _ h => h) (show _ = some (Value.ref (ad 9)) by first | (simp (disch := omega) [e_sh, e_set_s, e_set_n, e_z_s, e_z_n, cFill_ne, upd, e_rr, hp]; done) | (simp (disch := omega) [e_sh, e_set_s, e_set_n, e_z_s, e_z_n, cFill_ne, upd, e_rr, hp]; rfl)) dJx4a65c_grow_92f84_33 ?_
  refine lv_iload_n hx hb dJx4a65c_grow_92f84_36 rfl (lv_at hl 0 rfl) ?_
  refine e_cSA (As := [.ref (ad 9), .int 15]) (rest := [.ref (ad 2)]) hx hb hml hown hts hL  (c_cp2 (l := l) (v := v) h9 h10 u9 u16 hcap hcnt10 hs4 hs9 hel ha) cw_RJx4a65c_66 (by decide) (by decide) hz hsz hP hI hK hS rfl hl.1 rfl (Nat.le_of_ble_eq_true rfl) ⟨by decide, by decide⟩ dJx4a65c_grow_92f84_37 (fun H locs hz hz1 hP hI hS => ?_)
  have hsz : H.size = a0 + 1 := by omega
  have hz : z0 ≤ H.size := by omega
  refine lv_dup_x1 hx hb dJx4a65c_grow_92f84_40 rfl rfl ?_
  refine e_putr hx hb hts inJx4a65c tyJx4a65c tyJx4a65c_ok nmJx4a65c hown hK hP hI hS 2 8 (kup_n (by omega) hk) (by decide) rfl rfl 1 (by decide) aw_126 (fun _ h => h) (Or.inl rfl) (ty := .array (.object "java/lang/Object")) (w := .ref (ad 10)) (by decide +kernel) rfl rfl (Nat.le_of_ble_eq_true rfl) (upN (upN sp 9 10) 6 10) (e_z v 10) (by simp [e_sh, upN]) (fun m _ hm => e_u6 (fun h => hm (kup_u h (by decide) u6))) dJx4a65c_grow_92f84_41 (fun H locs hz1 hP hS => ?_)
  have hsz : H.size = a0 + 1 := by omega
  have hz : z0 ≤ H.size := by omega
  have hPI := e_lift10 hP hI u9 hcnt10 hs4
  have hP := hPI.1
  have hI := hPI.2
  exact hret _ _ _ _ _ _ _ _ _ (show (kup (kup (kup kd 10 16) 9 0) 10 9) = kup (kup (kup kd 10 16) 9 0) 10 9 from rfl) (show (upN (upN (upN sp 9 10) 6 10) 3 15) = upN (upN (upN sp 9 10) 6 10) 3 15 from rfl) (show (e_z v 10) = e_z v 10 from rfl) (by decide) (by decide) hP hI (by omega) hS dJx4a65c_grow_92f84_44

set_option maxRecDepth 100000 in
set_option maxHeartbeats 4000000 in
theorem c_g_L2 {l : Launch} {X : eD} {z0 t0 mi : Nat} {ad kd sp : Nat → Nat} {v : eV} {a0 : Nat} (hk : kd 2 = 8) (u6 : ∀ m, kd m = 8 → m = 2) (h0 : sp 1 = 10) (hp : sp 6 = 9) (hcnt : sp 8 = sp 1) (h9 : kd 9 = 9) (h10 : kd 10 = 0) (u9 : ∀ m, kd m = 9 → m = 9) (u16 : ∀ m, kd m ≠ 16) (hcap : sp 3 = 10) (hcnt10 : sp 8 = 10) (hs4 : sp 4 = 15) (hs9 : sp 9 = 0) (hel : ∀ i, i < 10 → kd (80 + i) = 4) (ha : ad 10 = a0) : eAl l yJx4a65c_grow_d5877 cJx4a65c_grow_d5877 1 (some (.array (.object "java/lang/Object"))) 6 1 15 [.ref (ad 2)] X z0 t0 mi ad kd sp v a0 (some (.ref (ad 10))) (kup (kup (kup kd 10 16) 9 0) 10 9) (upN (upN (upN sp 9 10) 6 10) 3 15) (e_z v 10) (a0 + 1) := by
  refine e_alcR (by decide +kernel) (Nat.le_of_ble_eq_true rfl) (Or.inr ⟨_, rfl⟩) ?_
  intro p e s m args below meth c hx hb hml hown hts hW hnm9 Q hret ls hl
  obtain ⟨⟨hz, hP, hI, hK⟩, hsz, hL⟩ := hW
  have hl : lv_has ls 1 [(0, .ref (ad 2))] := hl
  have hS : va_S (e_A z0) s.heap s.heap [] := va_S.rf
  refine lv_aload_n hx hb dJx4a65c_grow_d5877_0 rfl (lv_at hl 0 rfl) ?_
  refine lv_aload_n hx hb dJx4a65c_grow_d5877_1 rfl (lv_at hl 0 rfl) ?_
  refine e_getf hx hb hts inJx4a65c hown hK hP 2 8 hk (by decide) rfl rfl 2 (by decide) aw_120 (fun _ h => h) rfl dJx4a65c_grow_d5877_2 ?_
  refine lv_iconst (v := 1) hx hb dJx4a65c_grow_d5877_5 (by decide) ?_
  refine lv_iadd hx hb dJx4a65c_grow_d5877_6 ?_
  refine e_nrm (y := (nI ((sp 1) + 1))) (nI_add (sp 1) 1) ?_
  refine e_cVA (As := [.int (nI ((sp 1) + 1))]) (rest := []) hx hb hml hown hts hL 2 (c_gI_L2 (l := l) (v := v) hk u6 h0 hp hcnt h9 h10 u9 u16 hcap hcnt10 hs4 hs9 hel ha (nI ((sp 1) + 1)) (by rw [h0]; rfl)) cw_RJx4a65c_69 (by decide) (by decide) hz hsz hP hI hK hS hk (by decide) rfl rfl rfl hl.1 rfl (Nat.le_of_ble_eq_true rfl) ⟨by decide, by decide⟩ dJx4a65c_grow_d5877_7 (fun H locs hz hz1 hP hI hS => ?_)
  have hsz : H.size = a0 + 1 := by omega
  have hz : z0 ≤ H.size := by omega
  exact hret _ _ _ _ _ _ _ _ _ (show (kup (kup (kup kd 10 16) 9 0) 10 9) = kup (kup (kup kd 10 16) 9 0) 10 9 from rfl) (show (upN (upN (upN sp 9 10) 6 10) 3 15) = upN (upN (upN sp 9 10) 6 10) 3 15 from rfl) (show (e_z v 10) = e_z v 10 from rfl) (by decide) (by decide) hP hI (by omega) hS dJx4a65c_grow_d5877_10

set_option maxRecDepth 100000 in
set_option maxHeartbeats 4000000 in
theorem c_a3_L2 {l : Launch} {X : eD} {z0 t0 mi : Nat} {ad kd sp : Nat → Nat} {v : eV} {a0 : Nat} (hk : kd 2 = 8) (u6 : ∀ m, kd m = 8 → m = 2) (h0 : sp 1 = 10) (hp : sp 6 = 9) (hcnt : sp 8 = sp 1) (h9 : kd 9 = 9) (h10 : kd 10 = 0) (u9 : ∀ m, kd m = 9 → m = 9) (u16 : ∀ m, kd m ≠ 16) (hcap : sp 3 = 10) (hcnt10 : sp 8 = 10) (hs4 : sp 4 = 15) (hs9 : sp 9 = 0) (hel : ∀ i, i < 10 → kd (80 + i) = 4) (ha : ad 10 = a0) (he : kd (80 + sp 1) = 4) : eAl l yJx4a65c_add_72be8 cJx4a65c_add_72be8 4 none 7 1 15 [.ref (ad 2), .ref (ad (80 + sp 1)), .ref (ad 9), .int (nI (sp 1))] X z0 t0 mi ad kd sp v a0 none (kup (kup (kup kd 10 16) 9 0) 10 9) (upN (upN (upN (upN (upN sp 9 10) 6 10) 3 15) 8 (sp 1 + 1)) 1 (sp 1 + 1)) (e_z v 10) (a0 + 1) := by
  refine e_alcV (by decide +kernel) (Nat.le_of_ble_eq_true rfl) ?_
  intro p e s m args below meth c hx hb hml hown hts hW hnm9 Q hret ls hl
  obtain ⟨⟨hz, hP, hI, hK⟩, hsz, hL⟩ := hW
  have hl : lv_has ls 4 [(0, .ref (ad 2)), (1, .ref (ad (80 + sp 1))), (2, .ref (ad 9)), (3, .int (nI (sp 1)))] := hl
  have hS : va_S (e_A z0) s.heap s.heap [] := va_S.rf
  refine lv_iload_n hx hb dJx4a65c_add_72be8_0 rfl (lv_at hl 3 rfl) ?_
  refine lv_aload_n hx hb dJx4a65c_add_72be8_1 rfl (lv_at hl 2 rfl) ?_
  refine e_oalen hx hb hK hP 9 9 (sp 3) h9 (by decide) rfl dJx4a65c_add_72be8_2 ?_
  refine e_nrm (y := 10) (by show nI (sp 3) = 10; rw [hcap]; rfl) ?_
  refine lv_icmp_ne (tgt := 11) hx hb dJx4a65c_add_72be8_3 (by decide) (fun c_1 => ?_) (fun c_1 => ?_)
  · skip
    exact absurd (show nI (sp 1) = 10 by rw [h0]; rfl) c_1
  · skip
    refine lv_aload_n hx hb dJx4a65c_add_72be8_6 rfl (lv_at hl 0 rfl) ?_
    refine e_cVA (As := []) (rest := []) hx hb hml hown hts hL 2 (c_g_L2 (l := l) (v := v) hk u6 h0 hp hcnt h9 h10 u9 u16 hcap hcnt10 hs4 hs9 hel ha) cw_RJx4a65c_129 (by decide) (by decide) hz hsz hP hI hK hS hk (by decide) rfl rfl rfl hl.1 rfl (Nat.le_of_ble_eq_true rfl) ⟨by decide, by decide⟩ dJx4a65c_add_72be8_7 (fun H locs hz hz1 hP hI hS => ?_)
    have hsz : H.size = a0 + 1 := by omega
    have hz : z0 ≤ H.size := by omega
    refine lv_astore_n (lv' := [(2, .ref (ad 10)), (0, .ref (ad 2)), (1, .ref (ad (80 + sp 1))), (3, .int (nI (sp 1)))]) hx hb dJx4a65c_add_72be8_10 rfl hl (by decide) rfl (fun ls hl => ?_)
    refine lv_aload_n hx hb dJx4a65c_add_72be8_11 rfl (lv_at hl 0 rfl) ?_
    refine lv_iload_n hx hb dJx4a65c_add_72be8_12 rfl (lv_at hl 3 rfl) ?_
    refine lv_aload_n hx hb dJx4a65c_add_72be8_13 rfl (lv_at hl 2 rfl) ?_
    refine e_aast hx hb hK hP hI hS 10 9 ((upN (upN (upN sp 9 10) 6 10) 3 15) 3) kup_s (by decide) rfl (sp 1) rfl (by show sp 1 < 15; omega) (by show 15 < 2 ^ 31; omega) (80 + sp 1) 4 (kup_n (by omega) (kup_n (by omega) (kup_n (by omega) he))) (by decide) rfl rfl hL.2.2.2.2.2.1 (upN (upN (upN (upN sp 9 10) 6 10) 3 15) 8 (sp 1 + 1)) rfl (e_push_up hcnt rfl) (fun m _ hm => e_u8 (fun h => hm (e_u9no h u9))) dJx4a65c_add_72be8_14 (fun H locs hz1 hP hS => ?_)
    have hsz : H.size = a0 + 1 := by omega
    have hz : z0 ≤ H.size := by omega
    refine lv_aload_n hx hb dJx4a65c_add_72be8_15 rfl (lv_at hl 1 rfl) ?_
    refine lv_iload_n hx hb dJx4a65c_add_72be8_16 rfl (lv_at hl 3 rfl) ?_
    refine lv_iconst (v := 1) hx hb dJx4a65c_add_72be8_17 (by decide) ?_
    refine lv_iadd hx hb dJx4a65c_add_72be8_18 ?_
    refine e_nrm (y := (nI ((sp 1) + 1))) (nI_add (sp 1) 1) ?_
    refine e_putr hx hb hts inJx4a65c tyJx4a65c tyJx4a65c_ok nmJx4a65c hown hK hP hI hS 2 8 (kup_n (by omega) (kup_n (by omega) (kup_n (by omega) hk))) (by decide) rfl rfl 2 (by decide) aw_120 (fun _ h => h) (Or.inl rfl) (ty := .int) (w := .int (nI ((sp 1) + 1))) (by decide +kernel) rfl rfl (Nat.le_of_ble_eq_true rfl) (upN (upN (upN (upN (upN sp 9 10) 6 10) 3 15) 8 (sp 1 + 1)) 1 (sp 1 + 1)) (e_z v 10) (by simp [e_sh, upN]) (fun m _ hm => e_u1 (fun h => hm (kup_u h (by decide) (fun m h => kup_u h (by decide) (fun m h => kup_u h (by decide) u6))))) dJx4a65c_add_72be8_19 (fun H locs hz1 hP hS => ?_)
    have hsz : H.size = a0 + 1 := by omega
    have hz : z0 ≤ H.size := by omega
    exact hret _ _ _ _ _ _ _ _ _ (show (kup (kup (kup kd 10 16) 9 0) 10 9) = kup (kup (kup kd 10 16) 9 0) 10 9 from rfl) (show (upN (upN (upN (upN (upN sp 9 10) 6 10) 3 15) 8 (sp 1 + 1)) 1 (sp 1 + 1)) = upN (upN (upN (upN (upN sp 9 10) 6 10) 3 15) 8 (sp 1 + 1)) 1 (sp 1 + 1) from rfl) (show (e_z v 10) = e_z v 10 from rfl) (by decide) (by decide) hP hI (by omega) hS dJx4a65c_add_72be8_22

set_option maxRecDepth 100000 in
set_option maxHeartbeats 4000000 in
theorem c_add_L2 {l : Launch} {X : eD} {z0 t0 mi : Nat} {ad kd sp : Nat → Nat} {v : eV} {a0 : Nat} (hk : kd 2 = 8) (u6 : ∀ m, kd m = 8 → m = 2) (h0 : sp 1 = 10) (hp : sp 6 = 9) (hcnt : sp 8 = sp 1) (h9 : kd 9 = 9) (h10 : kd 10 = 0) (u9 : ∀ m, kd m = 9 → m = 9) (u16 : ∀ m, kd m ≠ 16) (hcap : sp 3 = 10) (hcnt10 : sp 8 = 10) (hs4 : sp 4 = 15) (hs9 : sp 9 = 0) (hel : ∀ i, i < 10 → kd (80 + i) = 4) (ha : ad 10 = a0) (he : kd (80 + sp 1) = 4) : eAl l yJx4a65c_add_9ea2d cJx4a65c_add_9ea2d 2 (some .boolean) 8 1 15 [.ref (ad 2), .ref (ad (80 + sp 1))] X z0 t0 mi ad kd sp v a0 (some (.int 1)) (kup (kup (kup kd 10 16) 9 0) 10 9) (upN (upN (upN (upN (upN sp 9 10) 6 10) 3 15) 8 (sp 1 + 1)) 1 (sp 1 + 1)) (e_z (e_set v 2 0 (v 2 0 + 1)) 10) (a0 + 1) := by
  refine e_alcI (by decide +kernel) (Nat.le_of_ble_eq_true rfl) rfl ?_
  intro p e s m args below meth c hx hb hml hown hts hW hnm9 Q hret ls hl
  obtain ⟨⟨hz, hP, hI, hK⟩, hsz, hL⟩ := hW
  have hl : lv_has ls 2 [(0, .ref (ad 2)), (1, .ref (ad (80 + sp 1)))] := hl
  have hS : va_S (e_A z0) s.heap s.heap [] := va_S.rf
  refine lv_aload_n hx hb dJx4a65c_add_9ea2d_0 rfl (lv_at hl 0 rfl) ?_
  refine lv_dup hx hb dJx4a65c_add_9ea2d_1 rfl ?_
  refine e_getf hx hb hts inJx4a65c hown hK hP 2 8 hk (by decide) rfl rfl 0 (by decide) aw_455 (fun x9 h9 => u_same (hts _ aw_same) x9 h9) rfl dJx4a65c_add_9ea2d_2 ?_
  refine lv_iconst (v := 1) hx hb dJx4a65c_add_9ea2d_5 (by decide) ?_
  refine lv_iadd hx hb dJx4a65c_add_9ea2d_6 ?_
  refine e_putr hx hb hts inJx4a65c tyJx4a65c tyJx4a65c_ok nmJx4a65c hown hK hP hI hS 2 8 hk (by decide) rfl rfl 0 (by decide) aw_455 (fun x9 h9 => u_same (hts _ aw_same) x9 h9) (Or.inl rfl) (ty := .int) (w := .int ((v 2 0) + 1)) (by decide +kernel) rfl rfl (Nat.le_of_ble_eq_true rfl) sp (e_set v 2 0 ((v 2 0) + 1)) (by simp (disch := omega) [e_sh, e_set_s, e_set_n, e_z_s, e_z_n, cFill_ne, upd, e_rr, hp]) (fun _ _ h => e_sh_ne h) dJx4a65c_add_9ea2d_7 (fun H locs hz1 hP hS => ?_)
  have hsz : H.size = a0 + 0 := by omega
  have hz : z0 ≤ H.size := by omega
  refine lv_aload_n hx hb dJx4a65c_add_9ea2d_10 rfl (lv_at hl 0 rfl) ?_
  refine lv_aload_n hx hb dJx4a65c_add_9ea2d_11 rfl (lv_at hl 1 rfl) ?_
  refine lv_aload_n hx hb dJx4a65c_add_9ea2d_12 rfl (lv_at hl 0 rfl) ?_
  refine e_getf hx hb hts inJx4a65c hown hK hP 2 8 hk (by decide) rfl rfl 1 (by decide) aw_126 (fun _ h => h) (show _ = some (Value.ref (ad 9)) by first | (simp (disch := omega) [e_sh, e_set_s, e_set_n, e_z_s, e_z_n, cFill_ne, upd, e_rr, hp]; done) | (simp (disch := omega) [e_sh, e_set_s, e_set_n, e_z_s, e_z_n, cFill_ne, upd, e_rr, hp]; rfl)) dJx4a65c_add_9ea2d_13 ?_
  refine lv_aload_n hx hb dJx4a65c_add_9ea2d_16 rfl (lv_at hl 0 rfl) ?_
  refine e_getf hx hb hts inJx4a65c hown hK hP 2 8 hk (by decide) rfl rfl 2 (by decide) aw_120 (fun _ h => h) rfl dJx4a65c_add_9ea2d_17 ?_
  refine e_cVA (As := [.ref (ad (80 + sp 1)), .ref (ad 9), .int (nI (sp 1))]) (rest := []) hx hb hml hown hts hL 2 (c_a3_L2 (l := l) (v := (e_set v 2 0 ((v 2 0) + 1))) hk u6 h0 hp hcnt h9 h10 u9 u16 hcap hcnt10 hs4 hs9 hel ha he) cw_RJx4a65c_131 (by decide) (by decide) hz hsz hP hI hK hS hk (by decide) rfl rfl rfl hl.1 rfl (Nat.le_of_ble_eq_true rfl) ⟨by decide, by decide⟩ dJx4a65c_add_9ea2d_20 (fun H locs hz hz1 hP hI hS => ?_)
  have hsz : H.size = a0 + 1 := by omega
  have hz : z0 ≤ H.size := by omega
  refine lv_iconst (v := 1) hx hb dJx4a65c_add_9ea2d_23 (by decide) ?_
  exact hret _ _ _ _ _ _ _ _ _ (show (kup (kup (kup kd 10 16) 9 0) 10 9) = kup (kup (kup kd 10 16) 9 0) 10 9 from rfl) (show (upN (upN (upN (upN (upN sp 9 10) 6 10) 3 15) 8 (sp 1 + 1)) 1 (sp 1 + 1)) = upN (upN (upN (upN (upN sp 9 10) 6 10) 3 15) 8 (sp 1 + 1)) 1 (sp 1 + 1) from rfl) (show (e_z (e_set v 2 0 ((v 2 0) + 1)) 10) = e_z (e_set v 2 0 (v 2 0 + 1)) 10 from rfl) (by decide) (by decide) hP hI (by omega) hS dJx4a65c_add_9ea2d_24

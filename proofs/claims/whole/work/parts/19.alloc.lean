theorem aw_412 : Cond.methodLink RJxa1e45 1 Lib.objectInit ∈ AW := aw_of (List.mem_of_getElem? (i := 86) (by decide +kernel)) (by decide +kernel)
theorem aw_413 : Cond.instanceMethod Lib.objectInit ∈ AW := aw_of (List.mem_of_getElem? (i := 73) (by decide +kernel)) (by decide +kernel)
set_option maxRecDepth 100000 in
theorem aw_414 : Cond.code Lib.objectInit ⟨#[0xb1]⟩ 1 none ∈ AW := aw_of (List.mem_of_getElem? (i := 74) rfl) (by decide +kernel)
theorem aw_415 : Cond.methodLink RJxc12de 1 yJxa1e45_init_da8c8 ∈ AW := aw_of (List.mem_of_getElem? (i := 83) (by decide +kernel)) (by decide +kernel)
theorem aw_416 : Cond.instanceMethod yJxa1e45_init_da8c8 ∈ AW := aw_of (List.mem_of_getElem? (i := 84) (by decide +kernel)) (by decide +kernel)
theorem aw_417 : Cond.initialized RJxa1e45 ∈ AW := aw_of (List.mem_of_getElem? (i := 45) (by decide +kernel)) (by decide +kernel)
set_option maxRecDepth 100000 in
theorem aw_418 : Cond.code yJxa1e45_init_da8c8 cJxa1e45_init_da8c8 1 none ∈ AW := aw_of (List.mem_of_getElem? (i := 85) rfl) (by decide +kernel)
theorem cwi_RJxc12de_1 : e_cwI RJxc12de 1 yJxa1e45_init_da8c8 cJxa1e45_init_da8c8 1 0 := ⟨aw_415, aw_416, aw_417, aw_418, rfl, by decide +kernel, by decide +kernel, by decide +kernel⟩
theorem aw_420 : Cond.fieldLink RJxc12de 7 "java/util/AbstractList" "modCount" "I" ∈ AW := aw_of (List.mem_of_getElem? (i := 91) (by decide +kernel)) (by decide +kernel)
theorem aw_421 : Cond.methodLink RJx4a65c 1 yJxc12de_init_da8c8 ∈ AW := aw_of (List.mem_of_getElem? (i := 80) (by decide +kernel)) (by decide +kernel)
theorem aw_422 : Cond.instanceMethod yJxc12de_init_da8c8 ∈ AW := aw_of (List.mem_of_getElem? (i := 81) (by decide +kernel)) (by decide +kernel)
theorem aw_423 : Cond.initialized RJxc12de ∈ AW := aw_of (List.mem_of_getElem? (i := 46) (by decide +kernel)) (by decide +kernel)
set_option maxRecDepth 100000 in
theorem aw_424 : Cond.code yJxc12de_init_da8c8 cJxc12de_init_da8c8 1 none ∈ AW := aw_of (List.mem_of_getElem? (i := 82) rfl) (by decide +kernel)
theorem cwi_RJx4a65c_1 : e_cwI RJx4a65c 1 yJxc12de_init_da8c8 cJxc12de_init_da8c8 1 0 := ⟨aw_421, aw_422, aw_423, aw_424, rfl, by decide +kernel, by decide +kernel, by decide +kernel⟩
theorem aw_426 : Cond.fieldLink RJx4a65c 39 "java/util/ArrayList" "DEFAULTCAPACITY_EMPTY_ELEMENTDATA" "[Ljava/lang/Object;" ∈ AW := aw_of (List.mem_of_getElem? (i := 87) (by decide +kernel)) (by decide +kernel)
theorem aw_427 : Cond.methodLink RX1 1 Lib.objectInit ∈ AW := aw_of (List.mem_of_getElem? (i := 500) (by decide +kernel)) (by decide +kernel)
theorem aw_428 : Cond.fieldLink RX1 7 "Stepscript$Lift" "gone" "Z" ∈ AW := aw_of (List.mem_of_getElem? (i := 509) (by decide +kernel)) (by decide +kernel)
theorem aw_429 : Cond.fieldLink RX1 13 "Stepscript$Lift" "count" "I" ∈ AW := aw_of (List.mem_of_getElem? (i := 501) (by decide +kernel)) (by decide +kernel)
theorem aw_430 : Cond.methodLink RX2 3 Lib.objectInit ∈ AW := aw_of (List.mem_of_getElem? (i := 319) (by decide +kernel)) (by decide +kernel)
theorem aw_431 : Cond.arrayClass .int ∈ AW := aw_of (List.mem_of_getElem? (i := 126) (by decide +kernel)) (by decide +kernel)
theorem aw_432 : Cond.methodLink RX2 22 yJ7_fill_53178 ∈ AW := aw_of (List.mem_of_getElem? (i := 320) (by decide +kernel)) (by decide +kernel)
theorem cw_RX2_22 : e_cwS RX2 22 yJ7_fill_53178 cJ7_fill_53178 4 none 2 := ⟨aw_432, aw_292, aw_293, aw_294, by decide +kernel, by decide +kernel, by decide +kernel⟩
theorem aw_434 : Cond.methodLink RX0 3 Lib.objectInit ∈ AW := aw_of (List.mem_of_getElem? (i := 313) (by decide +kernel)) (by decide +kernel)
theorem aw_435 : Cond.fieldLink RX0 9 "Stepscript$Dancer" "points" "I" ∈ AW := aw_of (List.mem_of_getElem? (i := 339) (by decide +kernel)) (by decide +kernel)
theorem aw_436 : Cond.fieldLink RX0 15 "Stepscript$Dancer" "out" "Z" ∈ AW := aw_of (List.mem_of_getElem? (i := 341) (by decide +kernel)) (by decide +kernel)
theorem aw_437 : Cond.classLink RX0 19 RX2 ∈ AW := aw_of (List.mem_of_getElem? (i := 314) (by decide +kernel)) (by decide +kernel)
theorem aw_438 : Cond.instantiable RX2 3 ∈ AW := aw_of (List.mem_of_getElem? (i := 315) (by decide +kernel)) (by decide +kernel)
theorem aw_439 : Cond.methodLink RX0 21 yX2_init ∈ AW := aw_of (List.mem_of_getElem? (i := 316) (by decide +kernel)) (by decide +kernel)
theorem aw_440 : Cond.instanceMethod yX2_init ∈ AW := aw_of (List.mem_of_getElem? (i := 317) (by decide +kernel)) (by decide +kernel)
set_option maxRecDepth 100000 in
theorem aw_441 : Cond.code yX2_init cX2_init 2 none ∈ AW := aw_of (List.mem_of_getElem? (i := 318) rfl) (by decide +kernel)
theorem cwi_RX0_21 : e_cwI RX0 21 yX2_init cX2_init 2 1 := ⟨aw_439, aw_440, aw_158, aw_441, rfl, by decide +kernel, by decide +kernel, by decide +kernel⟩
theorem aw_443 : Cond.methodLink RJx4a65c 79 yJ9_max_7cf53 ∈ AW := aw_of (List.mem_of_getElem? (i := 406) (by decide +kernel)) (by decide +kernel)
theorem aw_444 : Cond.classLink RJx4a65c 7 e_O ∈ AW := aw_of (List.mem_of_getElem? (i := 407) (by decide +kernel)) (by decide +kernel)
theorem aw_445 : Cond.methodLink RJx4a65c 69 yJx4a65c_grow_92f84 ∈ AW := aw_of (List.mem_of_getElem? (i := 364) (by decide +kernel)) (by decide +kernel)
theorem aw_446 : Cond.instanceMethod yJx4a65c_grow_92f84 ∈ AW := aw_of (List.mem_of_getElem? (i := 366) (by decide +kernel)) (by decide +kernel)
theorem aw_447 : Cond.selects RJx4a65c yJx4a65c_grow_92f84 yJx4a65c_grow_92f84 ∈ AW := aw_of (List.mem_of_getElem? (i := 6) (by decide +kernel)) (by decide +kernel)
set_option maxRecDepth 100000 in
theorem aw_448 : Cond.code yJx4a65c_grow_92f84 cJx4a65c_grow_92f84 4 (some (.array (.object "java/lang/Object"))) ∈ AW := aw_of (List.mem_of_getElem? (i := 367) rfl) (by decide +kernel)
theorem cw_RJx4a65c_69 : e_cwV RJx4a65c 69 RJx4a65c yJx4a65c_grow_92f84 cJx4a65c_grow_92f84 4 (some (.array (.object "java/lang/Object"))) 1 := ⟨aw_445, aw_446, aw_447, aw_135, aw_448, rfl, by decide +kernel, by decide +kernel, by decide +kernel⟩
theorem aw_450 : Cond.methodLink RJx4a65c 129 yJx4a65c_grow_d5877 ∈ AW := aw_of (List.mem_of_getElem? (i := 360) (by decide +kernel)) (by decide +kernel)
theorem aw_451 : Cond.instanceMethod yJx4a65c_grow_d5877 ∈ AW := aw_of (List.mem_of_getElem? (i := 362) (by decide +kernel)) (by decide +kernel)
theorem aw_452 : Cond.selects RJx4a65c yJx4a65c_grow_d5877 yJx4a65c_grow_d5877 ∈ AW := aw_of (List.mem_of_getElem? (i := 5) (by decide +kernel)) (by decide +kernel)
set_option maxRecDepth 100000 in
theorem aw_453 : Cond.code yJx4a65c_grow_d5877 cJx4a65c_grow_d5877 1 (some (.array (.object "java/lang/Object"))) ∈ AW := aw_of (List.mem_of_getElem? (i := 363) rfl) (by decide +kernel)
theorem cw_RJx4a65c_129 : e_cwV RJx4a65c 129 RJx4a65c yJx4a65c_grow_d5877 cJx4a65c_grow_d5877 1 (some (.array (.object "java/lang/Object"))) 0 := ⟨aw_450, aw_451, aw_452, aw_135, aw_453, rfl, by decide +kernel, by decide +kernel, by decide +kernel⟩
theorem aw_455 : Cond.fieldLink RJx4a65c 63 "java/util/ArrayList" "modCount" "I" ∈ AW := aw_of (List.mem_of_getElem? (i := 92) (by decide +kernel)) (by decide +kernel)
theorem aw_456 : Cond.methodLink RJx4a65c 131 yJx4a65c_add_72be8 ∈ AW := aw_of (List.mem_of_getElem? (i := 356) (by decide +kernel)) (by decide +kernel)
theorem aw_457 : Cond.instanceMethod yJx4a65c_add_72be8 ∈ AW := aw_of (List.mem_of_getElem? (i := 358) (by decide +kernel)) (by decide +kernel)
theorem aw_458 : Cond.selects RJx4a65c yJx4a65c_add_72be8 yJx4a65c_add_72be8 ∈ AW := aw_of (List.mem_of_getElem? (i := 4) (by decide +kernel)) (by decide +kernel)
set_option maxRecDepth 100000 in
theorem aw_459 : Cond.code yJx4a65c_add_72be8 cJx4a65c_add_72be8 4 none ∈ AW := aw_of (List.mem_of_getElem? (i := 359) rfl) (by decide +kernel)
theorem cw_RJx4a65c_131 : e_cwV RJx4a65c 131 RJx4a65c yJx4a65c_add_72be8 cJx4a65c_add_72be8 4 none 3 := ⟨aw_456, aw_457, aw_458, aw_135, aw_459, rfl, by decide +kernel, by decide +kernel, by decide +kernel⟩
theorem cFill_ne {v : eV} {n m : Nat} {x : Int32} (h : m ≠ n) : ∀ k, cFill v n x k m = v m
  | 0 => rfl
  | k + 1 => by
    show e_set (cFill v n x k) n k x m = v m
    unfold e_set
    rw [if_neg h, cFill_ne h k]
theorem aw_same : Cond.sameField "java/util/ArrayList" "java/util/AbstractList" "modCount" "I" ∈ AW := aw_of (List.mem_of_getElem? (i := 93) (by decide +kernel)) (by decide +kernel)
set_option maxRecDepth 100000 in
set_option maxHeartbeats 4000000 in
theorem c_Jxa1e45_init_da8c8 {l : Launch} {X : eD} {z0 t0 mi : Nat} {ad kd sp : Nat → Nat} {v : eV} {a0 : Nat} (n : Nat) (hk : kd n = 15) : eAl l yJxa1e45_init_da8c8 cJxa1e45_init_da8c8 1 none 2 0 0 [.ref (ad n)] X z0 t0 mi ad kd sp v a0 none kd sp v (a0) := by
  refine e_alcV (by decide +kernel) (Nat.le_of_ble_eq_true rfl) ?_
  intro p e s m args below meth c hx hb hml hown hts hW hnm9 Q hret ls hl
  obtain ⟨⟨hz, hP, hI, hK⟩, hsz, hL⟩ := hW
  have hl : lv_has ls 1 [(0, .ref (ad n))] := hl
  have hS : va_S (e_A z0) s.heap s.heap [] := va_S.rf
  refine lv_aload_n hx hb dJxa1e45_init_da8c8_0 rfl (lv_at hl 0 rfl) ?_
  refine W.objInit hx hb hown (hts _ aw_412) (hts _ aw_413) (hts _ aw_414) rfl (hl.1.trans hml.symm) rfl dJxa1e45_init_da8c8_1 (by decide) (Nat.le_of_ble_eq_true rfl) ?_
  exact hret _ _ _ _ _ _ _ _ _ (show kd = kd from rfl) (show sp = sp from rfl) (show v = v from rfl) (by decide) (by decide) hP hI (by omega) hS dJxa1e45_init_da8c8_4

set_option maxRecDepth 100000 in
set_option maxHeartbeats 4000000 in
theorem c_Jxc12de_init_da8c8 {l : Launch} {X : eD} {z0 t0 mi : Nat} {ad kd sp : Nat → Nat} {v : eV} {a0 : Nat} (n : Nat) (hk : kd n = 15) : eAl l yJxc12de_init_da8c8 cJxc12de_init_da8c8 1 none 3 0 0 [.ref (ad n)] X z0 t0 mi ad kd sp v a0 none kd sp (e_set v n 0 0) (a0) := by
  refine e_alcV (by decide +kernel) (Nat.le_of_ble_eq_true rfl) ?_
  intro p e s m args below meth c hx hb hml hown hts hW hnm9 Q hret ls hl
  obtain ⟨⟨hz, hP, hI, hK⟩, hsz, hL⟩ := hW
  have hl : lv_has ls 1 [(0, .ref (ad n))] := hl
  have hS : va_S (e_A z0) s.heap s.heap [] := va_S.rf
  refine lv_aload_n hx hb dJxc12de_init_da8c8_0 rfl (lv_at hl 0 rfl) ?_
  refine e_cIA (As := []) (rest := []) hx hb hml hown hts hL n (c_Jxa1e45_init_da8c8 (l := l) (v := v) n hk) cwi_RJxc12de_1 (by decide) (by decide) hz hsz hP hI hK hS rfl hl.1 rfl (Nat.le_of_ble_eq_true rfl) ⟨by decide, by decide⟩ dJxc12de_init_da8c8_1 (fun H locs hz hz1 hP hI hS => ?_)
  have hsz : H.size = a0 + 0 := by omega
  have hz : z0 ≤ H.size := by omega
  refine lv_aload_n hx hb dJxc12de_init_da8c8_4 rfl (lv_at hl 0 rfl) ?_
  refine lv_iconst (v := 0) hx hb dJxc12de_init_da8c8_5 (by decide) ?_
  refine e_putr hx hb hts inJx4a65c tyJx4a65c tyJx4a65c_ok nmJx4a65c hown hK hP hI hS n 15 hk (by decide) rfl rfl 0 (by decide) aw_420 (fun _ h => h) (Or.inl rfl) (ty := .int) (w := .int 0) (by decide +kernel) rfl rfl (Nat.le_of_ble_eq_true rfl) sp (e_set v n 0 0) (by simp (disch := omega) [e_sh, e_set_s, e_set_n, e_z_s, e_z_n, cFill_ne, upd, e_rr]) (fun _ _ h => e_sh_ne h) dJxc12de_init_da8c8_6 (fun H locs hz1 hP hS => ?_)
  have hsz : H.size = a0 + 0 := by omega
  have hz : z0 ≤ H.size := by omega
  exact hret _ _ _ _ _ _ _ _ _ (show kd = kd from rfl) (show sp = sp from rfl) (show (e_set v n 0 0) = e_set v n 0 0 from rfl) (by decide) (by decide) hP hI (by omega) hS dJxc12de_init_da8c8_9

set_option maxRecDepth 100000 in
set_option maxHeartbeats 4000000 in
theorem c_Jx4a65c_init_da8c8 {l : Launch} {X : eD} {z0 t0 mi : Nat} {ad kd sp : Nat → Nat} {v : eV} {a0 : Nat} (n : Nat) (hk : kd n = 15) (h11 : ad 11 = t0) : eAl l yJx4a65c_init_da8c8 cJx4a65c_init_da8c8 1 none 4 0 0 [.ref (ad n)] X z0 t0 mi ad kd sp v a0 none kd sp (e_set (e_set v n 0 0) n 21 1) (a0) := by
  refine e_alcV (by decide +kernel) (Nat.le_of_ble_eq_true rfl) ?_
  intro p e s m args below meth c hx hb hml hown hts hW hnm9 Q hret ls hl
  obtain ⟨⟨hz, hP, hI, hK⟩, hsz, hL⟩ := hW
  have hl : lv_has ls 1 [(0, .ref (ad n))] := hl
  have hS : va_S (e_A z0) s.heap s.heap [] := va_S.rf
  refine lv_aload_n hx hb dJx4a65c_init_da8c8_0 rfl (lv_at hl 0 rfl) ?_
  refine e_cIA (As := []) (rest := []) hx hb hml hown hts hL n (c_Jxc12de_init_da8c8 (l := l) (v := v) n hk) cwi_RJx4a65c_1 (by decide) (by decide) hz hsz hP hI hK hS rfl hl.1 rfl (Nat.le_of_ble_eq_true rfl) ⟨by decide, by decide⟩ dJx4a65c_init_da8c8_1 (fun H locs hz hz1 hP hI hS => ?_)
  have hsz : H.size = a0 + 0 := by omega
  have hz : z0 ≤ H.size := by omega
  refine lv_aload_n hx hb dJx4a65c_init_da8c8_4 rfl (lv_at hl 0 rfl) ?_
  refine va_gets hx hb hL.1 hS hown (hts _ aw_426) (fun _ h => h) dJx4a65c_init_da8c8_5 ?_
  refine e_putr hx hb hts inJx4a65c tyJx4a65c tyJx4a65c_ok nmJx4a65c hown hK hP hI hS n 15 hk (by decide) rfl rfl 1 (by decide) aw_126 (fun _ h => h) (Or.inl rfl) (ty := .array (.object "java/lang/Object")) (w := .ref t0) (by decide +kernel) rfl rfl (Nat.le_of_ble_eq_true rfl) sp (e_set (e_set v n 0 0) n 21 1) (by simp (disch := omega) [e_sh, e_set_s, e_set_n, e_z_s, e_z_n, cFill_ne, upd, e_rr, h11]) (fun _ _ h => e_sh_ne h) dJx4a65c_init_da8c8_8 (fun H locs hz1 hP hS => ?_)
  have hsz : H.size = a0 + 0 := by omega
  have hz : z0 ≤ H.size := by omega
  exact hret _ _ _ _ _ _ _ _ _ (show kd = kd from rfl) (show sp = sp from rfl) (show (e_set (e_set v n 0 0) n 21 1) = e_set (e_set v n 0 0) n 21 1 from rfl) (by decide) (by decide) hP hI (by omega) hS dJx4a65c_init_da8c8_11

set_option maxRecDepth 100000 in
set_option maxHeartbeats 4000000 in
theorem c_X1_init {l : Launch} {X : eD} {z0 t0 mi : Nat} {ad kd sp : Nat → Nat} {v : eV} {a0 : Nat} (n : Nat) (a b c1 d : Int32) (hk : kd n = 4) : eAl l yX1_init cX1_init 5 none 2 0 0 [.ref (ad n), .int a, .int b, .int c1, .int d] X z0 t0 mi ad kd sp v a0 none kd sp (e_set (e_set (e_set (e_set (e_set v n 4 0) n 0 a) n 1 b) n 2 c1) n 3 d) (a0) := by
  refine e_alcV (by decide +kernel) (Nat.le_of_ble_eq_true rfl) ?_
  intro p e s m args below meth c hx hb hml hown hts hW hnm9 Q hret ls hl
  obtain ⟨⟨hz, hP, hI, hK⟩, hsz, hL⟩ := hW
  have hl : lv_has ls 5 [(0, .ref (ad n)), (1, .int a), (2, .int b), (3, .int c1), (4, .int d)] := hl
  have hS : va_S (e_A z0) s.heap s.heap [] := va_S.rf
  refine lv_aload_n hx hb dX1_init_0 rfl (lv_at hl 0 rfl) ?_
  refine W.objInit hx hb hown (hts _ aw_427) (hts _ aw_413) (hts _ aw_414) rfl (hl.1.trans hml.symm) rfl dX1_init_1 (by decide) (Nat.le_of_ble_eq_true rfl) ?_
  refine lv_aload_n hx hb dX1_init_4 rfl (lv_at hl 0 rfl) ?_
  refine lv_iconst (v := 0) hx hb dX1_init_5 (by decide) ?_
  refine e_putr hx hb hts inX1 tyX1 tyX1_ok nmX1 hown hK hP hI hS n 4 hk (by decide) rfl rfl 4 (by decide) aw_428 (fun _ h => h) (Or.inl rfl) (ty := .boolean) (w := .int 0) (by decide +kernel) (by decide) (by decide) (Nat.le_of_ble_eq_true rfl) sp (e_set v n 4 0) (by simp (disch := omega) [e_sh, e_set_s, e_set_n, e_z_s, e_z_n, cFill_ne, upd, e_rr]) (fun _ _ h => e_sh_ne h) dX1_init_6 (fun H locs hz1 hP hS => ?_)
  have hsz : H.size = a0 + 0 := by omega
  have hz : z0 ≤ H.size := by omega
  refine lv_aload_n hx hb dX1_init_9 rfl (lv_at hl 0 rfl) ?_
  refine lv_iload_n hx hb dX1_init_10 rfl (lv_at hl 1 rfl) ?_
  refine e_putr hx hb hts inX1 tyX1 tyX1_ok nmX1 hown hK hP hI hS n 4 hk (by decide) rfl rfl 0 (by decide) aw_429 (fun _ h => h) (Or.inr ⟨rfl, hnm9, rfl⟩) (ty := .int) (w := .int a) (by decide +kernel) rfl rfl (Nat.le_of_ble_eq_true rfl) sp (e_set (e_set v n 4 0) n 0 a) (by simp (disch := omega) [e_sh, e_set_s, e_set_n, e_z_s, e_z_n, cFill_ne, upd, e_rr]) (fun _ _ h => e_sh_ne h) dX1_init_11 (fun H locs hz1 hP hS => ?_)
  have hsz : H.size = a0 + 0 := by omega
  have hz : z0 ≤ H.size := by omega
  refine lv_aload_n hx hb dX1_init_14 rfl (lv_at hl 0 rfl) ?_
  refine lv_iload_n hx hb dX1_init_15 rfl (lv_at hl 2 rfl) ?_
  refine e_putr hx hb hts inX1 tyX1 tyX1_ok nmX1 hown hK hP hI hS n 4 hk (by decide) rfl rfl 1 (by decide) aw_140 (fun _ h => h) (Or.inr ⟨rfl, hnm9, rfl⟩) (ty := .int) (w := .int b) (by decide +kernel) rfl rfl (Nat.le_of_ble_eq_true rfl) sp (e_set (e_set (e_set v n 4 0) n 0 a) n 1 b) (by simp (disch := omega) [e_sh, e_set_s, e_set_n, e_z_s, e_z_n, cFill_ne, upd, e_rr]) (fun _ _ h => e_sh_ne h) dX1_init_16 (fun H locs hz1 hP hS => ?_)
  have hsz : H.size = a0 + 0 := by omega
  have hz : z0 ≤ H.size := by omega
  refine lv_aload_n hx hb dX1_init_19 rfl (lv_at hl 0 rfl) ?_
  refine lv_iload_n hx hb dX1_init_20 rfl (lv_at hl 3 rfl) ?_
  refine e_putr hx hb hts inX1 tyX1 tyX1_ok nmX1 hown hK hP hI hS n 4 hk (by decide) rfl rfl 2 (by decide) aw_138 (fun _ h => h) (Or.inl rfl) (ty := .int) (w := .int c1) (by decide +kernel) rfl rfl (Nat.le_of_ble_eq_true rfl) sp (e_set (e_set (e_set (e_set v n 4 0) n 0 a) n 1 b) n 2 c1) (by simp (disch := omega) [e_sh, e_set_s, e_set_n, e_z_s, e_z_n, cFill_ne, upd, e_rr]) (fun _ _ h => e_sh_ne h) dX1_init_21 (fun H locs hz1 hP hS => ?_)
  have hsz : H.size = a0 + 0 := by omega
  have hz : z0 ≤ H.size := by omega
  refine lv_aload_n hx hb dX1_init_24 rfl (lv_at hl 0 rfl) ?_
  refine lv_iload hx hb dX1_init_25 (lv_at hl 4 rfl) ?_
  refine e_putr hx hb hts inX1 tyX1 tyX1_ok nmX1 hown hK hP hI hS n 4 hk (by decide) rfl rfl 3 (by decide) aw_139 (fun _ h => h) (Or.inl rfl) (ty := .int) (w := .int d) (by decide +kernel) rfl rfl (Nat.le_of_ble_eq_true rfl) sp (e_set (e_set (e_set (e_set (e_set v n 4 0) n 0 a) n 1 b) n 2 c1) n 3 d) (by simp (disch := omega) [e_sh, e_set_s, e_set_n, e_z_s, e_z_n, cFill_ne, upd, e_rr]) (fun _ _ h => e_sh_ne h) dX1_init_27 (fun H locs hz1 hP hS => ?_)
  have hsz : H.size = a0 + 0 := by omega
  have hz : z0 ≤ H.size := by omega
  exact hret _ _ _ _ _ _ _ _ _ (show kd = kd from rfl) (show sp = sp from rfl) (show (e_set (e_set (e_set (e_set (e_set v n 4 0) n 0 a) n 1 b) n 2 c1) n 3 d) = (e_set (e_set (e_set (e_set (e_set v n 4 0) n 0 a) n 1 b) n 2 c1) n 3 d) from rfl) (by decide) (by decide) hP hI (by omega) hS dX1_init_30

set_option maxRecDepth 100000 in
set_option maxHeartbeats 4000000 in
theorem c_X2_init {l : Launch} {X : eD} {z0 t0 mi : Nat} {ad kd sp : Nat → Nat} {v : eV} {a0 : Nat} (n : Nat) (x : Int32) (hk : kd n = 3) (h1 : kd (n + 1) = 0) (h2 : kd (n + 2) = 0) (ha1 : ad (n + 1) = a0) (ha2 : ad (n + 2) = a0 + 1) : eAl l yX2_init cX2_init 2 none 2 2 128 [.ref (ad n), .int x] X z0 t0 mi ad kd sp v a0 none (kup (kup (kup kd (n + 1) 84) (n + 2) 84) n 2) sp (cFill (e_set (e_set (e_z (e_set (e_z v (n + 1)) n 21 1) (n + 2)) n 22 1) n 0 x) (n + 2) x 64) (a0 + 2) := by
  refine e_alcV (by decide +kernel) (Nat.le_of_ble_eq_true rfl) ?_
  intro p e s m args below meth c hx hb hml hown hts hW hnm9 Q hret ls hl
  obtain ⟨⟨hz, hP, hI, hK⟩, hsz, hL⟩ := hW
  have hl : lv_has ls 2 [(0, .ref (ad n)), (1, .int x)] := hl
  have hS : va_S (e_A z0) s.heap s.heap [] := va_S.rf
  refine lv_aload_n hx hb dX2_init_0 rfl (lv_at hl 0 rfl) ?_
  refine W.objInit hx hb hown (hts _ aw_430) (hts _ aw_413) (hts _ aw_414) rfl (hl.1.trans hml.symm) rfl dX2_init_1 (by decide) (Nat.le_of_ble_eq_true rfl) ?_
  refine lv_aload_n hx hb dX2_init_4 rfl (lv_at hl 0 rfl) ?_
  refine lv_bipush (v := 64) hx hb dX2_init_5 (by decide) ?_
  refine e_newa hx hb hts aw_431 hK hP hI hz hS (n + 1) 64 h1 ((ha1 : ad (n + 1) = _).trans (by omega)) rfl (by decide) (by decide) (by decide) dX2_init_7 (fun H hz1 hP hI hS => ?_)
  have hsz : H.size = a0 + 1 := by omega
  have hz : z0 ≤ H.size := by omega
  refine e_putr hx hb hts inX2 tyX2 tyX2_ok nmX2 hown hK hP hI hS n 3 (kup_n (by omega) hk) (by decide) rfl rfl 1 (by decide) aw_149 (fun _ h => h) (Or.inr ⟨rfl, hnm9, rfl⟩) (ty := .array .int) (w := .ref (ad (n + 1))) (by decide +kernel) rfl rfl (Nat.le_of_ble_eq_true rfl) sp (e_set (e_z v (n + 1)) n 21 1) (by simp (disch := omega) [e_sh, e_set_s, e_set_n, e_z_s, e_z_n, cFill_ne, upd, e_rr]) (fun _ _ h => e_sh_ne h) dX2_init_9 (fun H locs hz1 hP hS => ?_)
  have hsz : H.size = a0 + 1 := by omega
  have hz : z0 ≤ H.size := by omega
  refine lv_aload_n hx hb dX2_init_12 rfl (lv_at hl 0 rfl) ?_
  refine lv_bipush (v := 64) hx hb dX2_init_13 (by decide) ?_
  refine e_newa hx hb hts aw_431 hK hP hI hz hS (n + 2) 64 (kup_n (by omega) h2) ((ha2 : ad (n + 2) = _).trans (by omega)) rfl (by decide) (by decide) (by decide) dX2_init_15 (fun H hz1 hP hI hS => ?_)
  have hsz : H.size = a0 + 2 := by omega
  have hz : z0 ≤ H.size := by omega
  refine e_putr hx hb hts inX2 tyX2 tyX2_ok nmX2 hown hK hP hI hS n 3 (kup_n (by omega) (kup_n (by omega) hk)) (by decide) rfl rfl 2 (by decide) aw_148 (fun _ h => h) (Or.inr ⟨rfl, hnm9, rfl⟩) (ty := .array .int) (w := .ref (ad (n + 2))) (by decide +kernel) rfl rfl (Nat.le_of_ble_eq_true rfl) sp (e_set (e_z (e_set (e_z v (n + 1)) n 21 1) (n + 2)) n 22 1) (by simp (disch := omega) [e_sh, e_set_s, e_set_n, e_z_s, e_z_n, cFill_ne, upd, e_rr]) (fun _ _ h => e_sh_ne h) dX2_init_17 (fun H locs hz1 hP hS => ?_)
  have hsz : H.size = a0 + 2 := by omega
  have hz : z0 ≤ H.size := by omega
  refine lv_aload_n hx hb dX2_init_20 rfl (lv_at hl 0 rfl) ?_
  refine lv_iload_n hx hb dX2_init_21 rfl (lv_at hl 1 rfl) ?_
  refine e_putr hx hb hts inX2 tyX2 tyX2_ok nmX2 hown hK hP hI hS n 3 (kup_n (by omega) (kup_n (by omega) hk)) (by decide) rfl rfl 0 (by decide) aw_147 (fun _ h => h) (Or.inr ⟨rfl, hnm9, rfl⟩) (ty := .int) (w := .int x) (by decide +kernel) rfl rfl (Nat.le_of_ble_eq_true rfl) sp (e_set (e_set (e_z (e_set (e_z v (n + 1)) n 21 1) (n + 2)) n 22 1) n 0 x) (by simp (disch := omega) [e_sh, e_set_s, e_set_n, e_z_s, e_z_n, cFill_ne, upd, e_rr]) (fun _ _ h => e_sh_ne h) dX2_init_22 (fun H locs hz1 hP hS => ?_)
  have hsz : H.size = a0 + 2 := by omega
  have hz : z0 ≤ H.size := by omega
  refine lv_aload_n hx hb dX2_init_25 rfl (lv_at hl 0 rfl) ?_
  refine e_getf hx hb hts inX2 hown hK hP n 3 (kup_n (by omega) (kup_n (by omega) hk)) (by decide) rfl rfl 2 (by decide) aw_148 (fun _ h => h) (show _ = some (Value.ref (ad (n + 2))) by first | (simp (disch := omega) [e_sh, e_set_s, e_set_n, e_z_s, e_z_n, cFill_ne, upd, e_rr]; done) | (simp (disch := omega) [e_sh, e_set_s, e_set_n, e_z_s, e_z_n, cFill_ne, upd, e_rr]; rfl)) dX2_init_26 ?_
  refine lv_iload_n hx hb dX2_init_29 rfl (lv_at hl 1 rfl) ?_
  refine e_cSMz (As := [.ref (ad (n + 2)), .int x]) (rest := []) hx hb hml hown hts (c_J7_fill_53178 (l := l) (v := (e_set (e_set (e_z (e_set (e_z v (n + 1)) n 21 1) (n + 2)) n 22 1) n 0 x)) (n + 2) 64 x kup_s (by decide)) cw_RX2_22 (by decide) (by decide) hz (by omega) hP hI hK hS rfl hl.1 rfl (Nat.le_of_ble_eq_true rfl) ⟨by decide, by decide⟩ dX2_init_30 (fun H locs hz1 hP hS => ?_)
  have hsz : H.size = a0 + 2 := by omega
  have hz : z0 ≤ H.size := by omega
  have hk9 : (kup (kup kd (n + 1) 84) (n + 2) 84) n = _ := (kup_n (by omega) (kup_n (by omega) hk))
  have hP := hP.kind (K' := 2) hk9 (by decide) (by simp (disch := omega) [e_sh, e_set_s, e_set_n, e_z_s, e_z_n, cFill_ne, upd, e_rr])
  have hI := hI.kind (K' := 2) hk9 (by decide)
  exact hret _ _ _ _ _ _ _ _ _ (show (kup (kup (kup kd (n + 1) 84) (n + 2) 84) n 2) = (kup (kup (kup kd (n + 1) 84) (n + 2) 84) n 2) from rfl) (show sp = sp from rfl) (show (cFill (e_set (e_set (e_z (e_set (e_z v (n + 1)) n 21 1) (n + 2)) n 22 1) n 0 x) (n + 2) x 64) = (cFill (e_set (e_set (e_z (e_set (e_z v (n + 1)) n 21 1) (n + 2)) n 22 1) n 0 x) (n + 2) x 64) from rfl) (by decide) (by decide) hP hI (by omega) hS dX2_init_33

set_option maxRecDepth 100000 in
set_option maxHeartbeats 4000000 in
theorem c_X0_init {l : Launch} {X : eD} {z0 t0 mi : Nat} {ad kd sp : Nat → Nat} {v : eV} {a0 : Nat} (n : Nat) (x y : Int32) (hk : kd n = 13) (h0 : ∀ k, k < 6 → kd (n + 1 + k) = 0) (ha : ∀ k, k < 6 → ad (n + 1 + k) = a0 + k) : eAl l yX0_init cX0_init 3 none 3 6 262 [.ref (ad n), .int x, .int y] X z0 t0 mi ad kd sp v a0 none (kup (kup (kup (kup (kup (kup (kup (kup (kup kd (n + 1) 3) ((n + 1) + 1) 84) ((n + 1) + 2) 84) (n + 1) 2) (n + 4) 3) ((n + 4) + 1) 84) ((n + 4) + 2) 84) (n + 4) 2) n 1) sp (e_set (cFill (e_set (e_set (e_z (e_set (e_z (e_z (e_set (cFill (e_set (e_set (e_z (e_set (e_z (e_z (e_set (e_set v n 2 0) n 3 0) (n + 1)) ((n + 1) + 1)) (n + 1) 21 1) ((n + 1) + 2)) (n + 1) 22 1) (n + 1) 0 x) ((n + 1) + 2) x 64) n 21 1) (n + 4)) ((n + 4) + 1)) (n + 4) 21 1) ((n + 4) + 2)) (n + 4) 22 1) (n + 4) 0 y) ((n + 4) + 2) y 64) n 22 1) (a0 + 6) := by
  refine e_alcV (by decide +kernel) (Nat.le_of_ble_eq_true rfl) ?_
  intro p e s m args below meth c hx hb hml hown hts hW hnm9 Q hret ls hl
  obtain ⟨⟨hz, hP, hI, hK⟩, hsz, hL⟩ := hW
  have hl : lv_has ls 3 [(0, .ref (ad n)), (1, .int x), (2, .int y)] := hl
  have hS : va_S (e_A z0) s.heap s.heap [] := va_S.rf
  refine lv_aload_n hx hb dX0_init_0 rfl (lv_at hl 0 rfl) ?_
  refine W.objInit hx hb hown (hts _ aw_434) (hts _ aw_413) (hts _ aw_414) rfl (hl.1.trans hml.symm) rfl dX0_init_1 (by decide) (Nat.le_of_ble_eq_true rfl) ?_
  refine lv_aload_n hx hb dX0_init_4 rfl (lv_at hl 0 rfl) ?_
  refine lv_iconst (v := 0) hx hb dX0_init_5 (by decide) ?_
  refine e_putr hx hb hts inX0 tyX0 tyX0_ok nmX0 hown hK hP hI hS n 13 hk (by decide) rfl rfl 2 (by decide) aw_435 (fun _ h => h) (Or.inl rfl) (ty := .int) (w := .int 0) (by decide +kernel) rfl rfl (Nat.le_of_ble_eq_true rfl) sp (e_set v n 2 0) (by simp (disch := omega) [e_sh, e_set_s, e_set_n, e_z_s, e_z_n, cFill_ne, upd, e_rr]) (fun _ _ h => e_sh_ne h) dX0_init_6 (fun H locs hz1 hP hS => ?_)
  have hsz : H.size = a0 + 0 := by omega
  have hz : z0 ≤ H.size := by omega
  refine lv_aload_n hx hb dX0_init_9 rfl (lv_at hl 0 rfl) ?_
  refine lv_iconst (v := 0) hx hb dX0_init_10 (by decide) ?_
  refine e_putr hx hb hts inX0 tyX0 tyX0_ok nmX0 hown hK hP hI hS n 13 hk (by decide) rfl rfl 3 (by decide) aw_436 (fun _ h => h) (Or.inl rfl) (ty := .boolean) (w := .int 0) (by decide +kernel) (by decide) (by decide) (Nat.le_of_ble_eq_true rfl) sp (e_set (e_set v n 2 0) n 3 0) (by simp (disch := omega) [e_sh, e_set_s, e_set_n, e_z_s, e_z_n, cFill_ne, upd, e_rr]) (fun _ _ h => e_sh_ne h) dX0_init_11 (fun H locs hz1 hP hS => ?_)
  have hsz : H.size = a0 + 0 := by omega
  have hz : z0 ≤ H.size := by omega
  refine lv_aload_n hx hb dX0_init_14 rfl (lv_at hl 0 rfl) ?_
  refine e_new hx hb hts inX2 tyX2 tyX2_ok hown aw_437 aw_438 aw_158 hK hP hI hz hS (n + 1) 3 (h0 0 (by decide)) ((ha 0 (by decide) : ad (n + 1) = _).trans (by omega)) (ci := 5) rfl rfl (fun j hj => by rcases (show j = 0 ∨ j = 1 ∨ j = 2 by omega) with rfl | rfl | rfl <;> (simp only [e_z_s, e_rr0]; rfl)) (by decide) (by decide) dX0_init_15 (fun H hz1 hP hI hS => ?_)
  have hsz : H.size = a0 + 1 := by omega
  have hz : z0 ≤ H.size := by omega
  refine lv_dup hx hb dX0_init_18 rfl ?_
  refine lv_iload_n hx hb dX0_init_19 rfl (lv_at hl 1 rfl) ?_
  refine e_cIA (As := [.int x]) (rest := [.ref (ad (n + 1)), .ref (ad n)]) hx hb hml hown hts hL (n + 1) (c_X2_init (l := l) (v := (e_z (e_set (e_set v n 2 0) n 3 0) (n + 1))) (n + 1) x kup_s (kup_n (by omega) (h0 1 (by decide))) (kup_n (by omega) (h0 2 (by decide))) (ha 1 (by decide)) (ha 2 (by decide))) cwi_RX0_21 (by decide) (by decide) hz hsz hP hI hK hS rfl hl.1 rfl (Nat.le_of_ble_eq_true rfl) ⟨by decide, by decide⟩ dX0_init_20 (fun H locs hz hz1 hP hI hS => ?_)
  have hsz : H.size = a0 + 3 := by omega
  have hz : z0 ≤ H.size := by omega
  refine e_putr hx hb hts inX0 tyX0 tyX0_ok nmX0 hown hK hP hI hS n 13 (kup_n (by omega) (kup_n (by omega) (kup_n (by omega) (kup_n (by omega) hk)))) (by decide) rfl rfl 0 (by decide) aw_164 (fun _ h => h) (Or.inr ⟨rfl, hnm9, rfl⟩) (ty := .object "Stepscript$Track") (w := .ref (ad (n + 1))) (by decide +kernel) rfl rfl (Nat.le_of_ble_eq_true rfl) sp (e_set (cFill (e_set (e_set (e_z (e_set (e_z (e_z (e_set (e_set v n 2 0) n 3 0) (n + 1)) ((n + 1) + 1)) (n + 1) 21 1) ((n + 1) + 2)) (n + 1) 22 1) (n + 1) 0 x) ((n + 1) + 2) x 64) n 21 1) (by simp (disch := omega) [e_sh, e_set_s, e_set_n, e_z_s, e_z_n, cFill_ne, upd, e_rr]) (fun _ _ h => e_sh_ne h) dX0_init_23 (fun H locs hz1 hP hS => ?_)
  have hsz : H.size = a0 + 3 := by omega
  have hz : z0 ≤ H.size := by omega
  refine lv_aload_n hx hb dX0_init_26 rfl (lv_at hl 0 rfl) ?_
  refine e_new hx hb hts inX2 tyX2 tyX2_ok hown aw_437 aw_438 aw_158 hK hP hI hz hS (n + 4) 3 (kup_n (by omega) (kup_n (by omega) (kup_n (by omega) (kup_n (by omega) (h0 3 (by decide)))))) ((ha 3 (by decide) : ad (n + 4) = _).trans (by omega)) (ci := 5) rfl rfl (fun j hj => by rcases (show j = 0 ∨ j = 1 ∨ j = 2 by omega) with rfl | rfl | rfl <;> (simp only [e_z_s, e_rr0]; rfl)) (by decide) (by decide) dX0_init_27 (fun H hz1 hP hI hS => ?_)
  have hsz : H.size = a0 + 4 := by omega
  have hz : z0 ≤ H.size := by omega
  refine lv_dup hx hb dX0_init_30 rfl ?_
  refine lv_iload_n hx hb dX0_init_31 rfl (lv_at hl 2 rfl) ?_
  refine e_cIA (As := [.int y]) (rest := [.ref (ad (n + 4)), .ref (ad n)]) hx hb hml hown hts hL (n + 4) (c_X2_init (l := l) (v := (e_z (e_set (cFill (e_set (e_set (e_z (e_set (e_z (e_z (e_set (e_set v n 2 0) n 3 0) (n + 1)) ((n + 1) + 1)) (n + 1) 21 1) ((n + 1) + 2)) (n + 1) 22 1) (n + 1) 0 x) ((n + 1) + 2) x 64) n 21 1) (n + 4))) (n + 4) y kup_s (kup_n (by omega) (kup_n (by omega) (kup_n (by omega) (kup_n (by omega) (kup_n (by omega) (h0 4 (by decide))))))) (kup_n (by omega) (kup_n (by omega) (kup_n (by omega) (kup_n (by omega) (kup_n (by omega) (h0 5 (by decide))))))) (ha 4 (by decide)) (ha 5 (by decide))) cwi_RX0_21 (by decide) (by decide) hz hsz hP hI hK hS rfl hl.1 rfl (Nat.le_of_ble_eq_true rfl) ⟨by decide, by decide⟩ dX0_init_32 (fun H locs hz hz1 hP hI hS => ?_)
  have hsz : H.size = a0 + 6 := by omega
  have hz : z0 ≤ H.size := by omega
  refine e_putr hx hb hts inX0 tyX0 tyX0_ok nmX0 hown hK hP hI hS n 13 (kup_n (by omega) (kup_n (by omega) (kup_n (by omega) (kup_n (by omega) (kup_n (by omega) (kup_n (by omega) (kup_n (by omega) (kup_n (by omega) hk)))))))) (by decide) rfl rfl 1 (by decide) aw_165 (fun _ h => h) (Or.inr ⟨rfl, hnm9, rfl⟩) (ty := .object "Stepscript$Track") (w := .ref (ad (n + 4))) (by decide +kernel) rfl rfl (Nat.le_of_ble_eq_true rfl) sp (e_set (cFill (e_set (e_set (e_z (e_set (e_z (e_z (e_set (cFill (e_set (e_set (e_z (e_set (e_z (e_z (e_set (e_set v n 2 0) n 3 0) (n + 1)) ((n + 1) + 1)) (n + 1) 21 1) ((n + 1) + 2)) (n + 1) 22 1) (n + 1) 0 x) ((n + 1) + 2) x 64) n 21 1) (n + 4)) ((n + 4) + 1)) (n + 4) 21 1) ((n + 4) + 2)) (n + 4) 22 1) (n + 4) 0 y) ((n + 4) + 2) y 64) n 22 1) (by simp (disch := omega) [e_sh, e_set_s, e_set_n, e_z_s, e_z_n, cFill_ne, upd, e_rr]) (fun _ _ h => e_sh_ne h) dX0_init_35 (fun H locs hz1 hP hS => ?_)
  have hsz : H.size = a0 + 6 := by omega
  have hz : z0 ≤ H.size := by omega
  have hk9 : (kup (kup (kup (kup (kup (kup (kup (kup kd (n + 1) 3) ((n + 1) + 1) 84) ((n + 1) + 2) 84) (n + 1) 2) (n + 4) 3) ((n + 4) + 1) 84) ((n + 4) + 2) 84) (n + 4) 2) n = _ := (kup_n (by omega) (kup_n (by omega) (kup_n (by omega) (kup_n (by omega) (kup_n (by omega) (kup_n (by omega) (kup_n (by omega) (kup_n (by omega) hk))))))))
  have hP := hP.kind (K' := 1) hk9 (by decide) (by simp (disch := omega) [e_sh, e_set_s, e_set_n, e_z_s, e_z_n, cFill_ne, upd, e_rr])
  have hI := hI.kind (K' := 1) hk9 (by decide)
  exact hret _ _ _ _ _ _ _ _ _ (show (kup (kup (kup (kup (kup (kup (kup (kup (kup kd (n + 1) 3) ((n + 1) + 1) 84) ((n + 1) + 2) 84) (n + 1) 2) (n + 4) 3) ((n + 4) + 1) 84) ((n + 4) + 2) 84) (n + 4) 2) n 1) = (kup (kup (kup (kup (kup (kup (kup (kup (kup kd (n + 1) 3) ((n + 1) + 1) 84) ((n + 1) + 2) 84) (n + 1) 2) (n + 4) 3) ((n + 4) + 1) 84) ((n + 4) + 2) 84) (n + 4) 2) n 1) from rfl) (show sp = sp from rfl) (show (e_set (cFill (e_set (e_set (e_z (e_set (e_z (e_z (e_set (cFill (e_set (e_set (e_z (e_set (e_z (e_z (e_set (e_set v n 2 0) n 3 0) (n + 1)) ((n + 1) + 1)) (n + 1) 21 1) ((n + 1) + 2)) (n + 1) 22 1) (n + 1) 0 x) ((n + 1) + 2) x 64) n 21 1) (n + 4)) ((n + 4) + 1)) (n + 4) 21 1) ((n + 4) + 2)) (n + 4) 22 1) (n + 4) 0 y) ((n + 4) + 2) y 64) n 22 1) = (e_set (cFill (e_set (e_set (e_z (e_set (e_z (e_z (e_set (cFill (e_set (e_set (e_z (e_set (e_z (e_z (e_set (e_set v n 2 0) n 3 0) (n + 1)) ((n + 1) + 1)) (n + 1) 21 1) ((n + 1) + 2)) (n + 1) 22 1) (n + 1) 0 x) ((n + 1) + 2) x 64) n 21 1) (n + 4)) ((n + 4) + 1)) (n + 4) 21 1) ((n + 4) + 2)) (n + 4) 22 1) (n + 4) 0 y) ((n + 4) + 2) y 64) n 22 1) from rfl) (by decide) (by decide) hP hI (by omega) hS dX0_init_38

set_option maxRecDepth 100000 in
set_option maxHeartbeats 4000000 in
theorem c_gI_D0 {l : Launch} {X : eD} {z0 t0 mi : Nat} {ad kd sp : Nat → Nat} {v : eV} {a0 : Nat} (hk : kd 1 = 6) (u6 : ∀ m, kd m = 6 → m = 1) (u7 : ∀ m, kd m ≠ 7) (h8 : kd 8 = 0) (h0 : sp 0 = 0) (hp : sp 5 = 11) (h11 : ad 11 = t0) (hcap : sp 2 = 10) (hcnt : sp 7 = sp 0) (ha : ad 8 = a0) (x : Int32) (hx1 : x = 1) : eAl l yJx4a65c_grow_92f84 cJx4a65c_grow_92f84 4 (some (.array (.object "java/lang/Object"))) 5 1 10 [.ref (ad 1), .int x] X z0 t0 mi ad kd sp v a0 (some (.ref (ad 8))) (kup kd 8 7) (upN sp 5 8) (e_z v 8) (a0 + 1) := by
  refine e_alcR (by decide +kernel) (Nat.le_of_ble_eq_true rfl) (Or.inr ⟨_, rfl⟩) ?_
  intro p e s m args below meth c hx hb hml hown hts hW hnm9 Q hret ls hl
  obtain ⟨⟨hz, hP, hI, hK⟩, hsz, hL⟩ := hW
  have hl : lv_has ls 4 [(0, .ref (ad 1)), (1, .int x)] := hl
  have hS : va_S (e_A z0) s.heap s.heap [] := va_S.rf
  refine lv_aload_n hx hb dJx4a65c_grow_92f84_0 rfl (lv_at hl 0 rfl) ?_
  refine e_getf hx hb hts inJx4a65c hown hK hP 1 6 hk (by decide) rfl rfl 1 (by decide) aw_126 (fun _ h => h) (show _ = some (Value.ref t0) by first | (simp (disch := omega) [e_sh, e_set_s, e_set_n, e_z_s, e_z_n, cFill_ne, upd, e_rr, hp, h11]; done) | (simp (disch := omega) [e_sh, e_set_s, e_set_n, e_z_s, e_z_n, cFill_ne, upd, e_rr, hp, h11]; rfl)) dJx4a65c_grow_92f84_1 ?_
  refine va_tlen (v := 0) hx hb hL.2.1 hS rfl dJx4a65c_grow_92f84_4 ?_
  refine lv_istore_n (lv' := [(2, .int 0), (0, .ref (ad 1)), (1, .int x)]) hx hb dJx4a65c_grow_92f84_5 rfl hl (by decide) rfl (fun ls hl => ?_)
  refine lv_iload_n hx hb dJx4a65c_grow_92f84_6 rfl (lv_at hl 0 rfl) ?_
  refine lv_if_gt (tgt := 20) hx hb dJx4a65c_grow_92f84_7 (by decide) (fun c_1 => absurd c_1 (by decide)) (fun c_1 => ?_)
  refine lv_aload_n hx hb dJx4a65c_grow_92f84_10 rfl (lv_at hl 1 rfl) ?_
  refine e_getf hx hb hts inJx4a65c hown hK hP 1 6 hk (by decide) rfl rfl 1 (by decide) aw_126 (fun _ h => h) (show _ = some (Value.ref t0) by first | (simp (disch := omega) [e_sh, e_set_s, e_set_n, e_z_s, e_z_n, cFill_ne, upd, e_rr, hp, h11]; done) | (simp (disch := omega) [e_sh, e_set_s, e_set_n, e_z_s, e_z_n, cFill_ne, upd, e_rr, hp, h11]; rfl)) dJx4a65c_grow_92f84_11 ?_
  refine va_gets hx hb hL.1 hS hown (hts _ aw_426) (fun _ h => h) dJx4a65c_grow_92f84_14 ?_
  refine lv_acmp_eq (rx := some t0) (ry := some t0) (tgt := 45) hx hb dJx4a65c_grow_92f84_17 (by decide) (fun _ => ?_) (fun c9 => absurd rfl c9)
  refine lv_aload_n hx hb dJx4a65c_grow_92f84_45 rfl (lv_at hl 1 rfl) ?_
  refine lv_bipush (v := 10) hx hb dJx4a65c_grow_92f84_46 (by decide) ?_
  refine lv_iload_n hx hb dJx4a65c_grow_92f84_48 rfl (lv_at hl 2 rfl) ?_
  refine va_mmax hx hb (hml.trans hl.1.symm) hown (hts _ aw_443) (hts _ aw_320) (hts _ aw_154) (hts _ em_code_max) (by decide) (Nat.le_of_ble_eq_true rfl) (by decide) (by decide) dJx4a65c_grow_92f84_49 ?_
  refine e_nrm (y := (nI 10)) (by rw [hx1]; decide) ?_
  refine e_newo hx hb hts hown aw_444 hL.2.2.1 hK hP hI hz hS 8 7 10 h8 ((ha : ad 8 = _).trans (by omega)) (by show Sum.inl (_, _, _) = _; rw [hcap]) (e_none (hcnt.trans h0)) rfl (by decide) (by decide) (by decide) dJx4a65c_grow_92f84_52 (fun H hz1 hP hI hS => ?_)
  have hsz : H.size = a0 + 1 := by omega
  have hz : z0 ≤ H.size := by omega
  refine lv_dup_x1 hx hb dJx4a65c_grow_92f84_55 rfl rfl ?_
  refine e_putr hx hb hts inJx4a65c tyJx4a65c tyJx4a65c_ok nmJx4a65c hown hK hP hI hS 1 6 (kup_n (by omega) hk) (by decide) rfl rfl 1 (by decide) aw_126 (fun _ h => h) (Or.inl rfl) (ty := .array (.object "java/lang/Object")) (w := .ref (ad 8)) (by decide +kernel) rfl rfl (Nat.le_of_ble_eq_true rfl) (upN sp 5 8) (e_z v 8) (by simp [e_sh, upN]) (fun m _ hm => e_u5 (fun h => hm (kup_u h (by decide) u6))) dJx4a65c_grow_92f84_56 (fun H locs hz1 hP hS => ?_)
  have hsz : H.size = a0 + 1 := by omega
  have hz : z0 ≤ H.size := by omega
  exact hret _ _ _ _ _ _ _ _ _ (show (kup kd 8 7) = kup kd 8 7 from rfl) (show (upN sp 5 8) = upN sp 5 8 from rfl) (show (e_z v 8) = e_z v 8 from rfl) (by decide) (by decide) hP hI (by omega) hS dJx4a65c_grow_92f84_59

set_option maxRecDepth 100000 in
set_option maxHeartbeats 4000000 in
theorem c_g_D0 {l : Launch} {X : eD} {z0 t0 mi : Nat} {ad kd sp : Nat → Nat} {v : eV} {a0 : Nat} (hk : kd 1 = 6) (u6 : ∀ m, kd m = 6 → m = 1) (u7 : ∀ m, kd m ≠ 7) (h8 : kd 8 = 0) (h0 : sp 0 = 0) (hp : sp 5 = 11) (h11 : ad 11 = t0) (hcap : sp 2 = 10) (hcnt : sp 7 = sp 0) (ha : ad 8 = a0) : eAl l yJx4a65c_grow_d5877 cJx4a65c_grow_d5877 1 (some (.array (.object "java/lang/Object"))) 6 1 10 [.ref (ad 1)] X z0 t0 mi ad kd sp v a0 (some (.ref (ad 8))) (kup kd 8 7) (upN sp 5 8) (e_z v 8) (a0 + 1) := by
  refine e_alcR (by decide +kernel) (Nat.le_of_ble_eq_true rfl) (Or.inr ⟨_, rfl⟩) ?_
  intro p e s m args below meth c hx hb hml hown hts hW hnm9 Q hret ls hl
  obtain ⟨⟨hz, hP, hI, hK⟩, hsz, hL⟩ := hW
  have hl : lv_has ls 1 [(0, .ref (ad 1))] := hl
  have hS : va_S (e_A z0) s.heap s.heap [] := va_S.rf
  refine lv_aload_n hx hb dJx4a65c_grow_d5877_0 rfl (lv_at hl 0 rfl) ?_
  refine lv_aload_n hx hb dJx4a65c_grow_d5877_1 rfl (lv_at hl 0 rfl) ?_
  refine e_getf hx hb hts inJx4a65c hown hK hP 1 6 hk (by decide) rfl rfl 2 (by decide) aw_120 (fun _ h => h) rfl dJx4a65c_grow_d5877_2 ?_
  refine e_nrm (y := 0) (by rw [h0]; rfl) ?_
  refine lv_iconst (v := 1) hx hb dJx4a65c_grow_d5877_5 (by decide) ?_
  refine lv_iadd hx hb dJx4a65c_grow_d5877_6 ?_
  refine e_nrm (y := (nI (0 + 1))) (nI_add 0 1) ?_
  refine e_cVA (As := [.int (nI (0 + 1))]) (rest := []) hx hb hml hown hts hL 1 (c_gI_D0 (l := l) (v := v) hk u6 u7 h8 h0 hp h11 hcap hcnt ha (nI (0 + 1)) rfl) cw_RJx4a65c_69 (by decide) (by decide) hz hsz hP hI hK hS hk (by decide) rfl rfl rfl hl.1 rfl (Nat.le_of_ble_eq_true rfl) ⟨by decide, by decide⟩ dJx4a65c_grow_d5877_7 (fun H locs hz hz1 hP hI hS => ?_)
  have hsz : H.size = a0 + 1 := by omega
  have hz : z0 ≤ H.size := by omega
  exact hret _ _ _ _ _ _ _ _ _ (show (kup kd 8 7) = kup kd 8 7 from rfl) (show (upN sp 5 8) = upN sp 5 8 from rfl) (show (e_z v 8) = e_z v 8 from rfl) (by decide) (by decide) hP hI (by omega) hS dJx4a65c_grow_d5877_10

set_option maxRecDepth 100000 in
set_option maxHeartbeats 4000000 in
theorem c_a3_D0 {l : Launch} {X : eD} {z0 t0 mi : Nat} {ad kd sp : Nat → Nat} {v : eV} {a0 : Nat} (hk : kd 1 = 6) (u6 : ∀ m, kd m = 6 → m = 1) (u7 : ∀ m, kd m ≠ 7) (h8 : kd 8 = 0) (h0 : sp 0 = 0) (hp : sp 5 = 11) (h11 : ad 11 = t0) (hcap : sp 2 = 10) (hcnt : sp 7 = sp 0) (ha : ad 8 = a0) (he : kd (20 + 7 * sp 0) = 1) : eAl l yJx4a65c_add_72be8 cJx4a65c_add_72be8 4 none 7 1 10 [.ref (ad 1), .ref (ad (20 + 7 * sp 0)), .ref t0, .int (nI (sp 0))] X z0 t0 mi ad kd sp v a0 none (kup kd 8 7) (upN (upN (upN sp 5 8) 7 (sp 0 + 1)) 0 (sp 0 + 1)) (e_z v 8) (a0 + 1) := by
  refine e_alcV (by decide +kernel) (Nat.le_of_ble_eq_true rfl) ?_
  intro p e s m args below meth c hx hb hml hown hts hW hnm9 Q hret ls hl
  obtain ⟨⟨hz, hP, hI, hK⟩, hsz, hL⟩ := hW
  have hl : lv_has ls 4 [(0, .ref (ad 1)), (1, .ref (ad (20 + 7 * sp 0))), (2, .ref t0), (3, .int (nI (sp 0)))] := hl
  have hS : va_S (e_A z0) s.heap s.heap [] := va_S.rf
  refine lv_iload_n hx hb dJx4a65c_add_72be8_0 rfl (lv_at hl 3 rfl) ?_
  refine lv_aload_n hx hb dJx4a65c_add_72be8_1 rfl (lv_at hl 2 rfl) ?_
  refine va_tlen (v := 0) hx hb hL.2.1 hS rfl dJx4a65c_add_72be8_2 ?_
  refine lv_icmp_ne (tgt := 11) hx hb dJx4a65c_add_72be8_3 (by decide) (fun c_1 => ?_) (fun c_1 => ?_)
  · skip
    exact absurd (show nI (sp 0) = 0 by rw [h0]; rfl) c_1
  · skip
    refine lv_aload_n hx hb dJx4a65c_add_72be8_6 rfl (lv_at hl 0 rfl) ?_
    refine e_cVA (As := []) (rest := []) hx hb hml hown hts hL 1 (c_g_D0 (l := l) (v := v) hk u6 u7 h8 h0 hp h11 hcap hcnt ha) cw_RJx4a65c_129 (by decide) (by decide) hz hsz hP hI hK hS hk (by decide) rfl rfl rfl hl.1 rfl (Nat.le_of_ble_eq_true rfl) ⟨by decide, by decide⟩ dJx4a65c_add_72be8_7 (fun H locs hz hz1 hP hI hS => ?_)
    have hsz : H.size = a0 + 1 := by omega
    have hz : z0 ≤ H.size := by omega
    refine lv_astore_n (lv' := [(2, .ref (ad 8)), (0, .ref (ad 1)), (1, .ref (ad (20 + 7 * sp 0))), (3, .int (nI (sp 0)))]) hx hb dJx4a65c_add_72be8_10 rfl hl (by decide) rfl (fun ls hl => ?_)
    refine lv_aload_n hx hb dJx4a65c_add_72be8_11 rfl (lv_at hl 0 rfl) ?_
    refine lv_iload_n hx hb dJx4a65c_add_72be8_12 rfl (lv_at hl 3 rfl) ?_
    refine lv_aload_n hx hb dJx4a65c_add_72be8_13 rfl (lv_at hl 2 rfl) ?_
    refine e_aast hx hb hK hP hI hS 8 7 ((upN sp 5 8) 2) kup_s (by decide) rfl (sp 0) rfl (by show sp 0 < sp 2; omega) (by show sp 2 < 2 ^ 31; omega) (20 + 7 * sp 0) 1 (kup_n (by omega) he) (by decide) rfl rfl hL.2.2.2.2.1 (upN (upN sp 5 8) 7 (sp 0 + 1)) rfl (e_push_up hcnt rfl) (fun m _ hm => e_u7 (fun h => hm (kup_u0 h u7))) dJx4a65c_add_72be8_14 (fun H locs hz1 hP hS => ?_)
    have hsz : H.size = a0 + 1 := by omega
    have hz : z0 ≤ H.size := by omega
    refine lv_aload_n hx hb dJx4a65c_add_72be8_15 rfl (lv_at hl 1 rfl) ?_
    refine lv_iload_n hx hb dJx4a65c_add_72be8_16 rfl (lv_at hl 3 rfl) ?_
    refine lv_iconst (v := 1) hx hb dJx4a65c_add_72be8_17 (by decide) ?_
    refine lv_iadd hx hb dJx4a65c_add_72be8_18 ?_
    refine e_nrm (y := (nI ((sp 0) + 1))) (nI_add (sp 0) 1) ?_
    refine e_putr hx hb hts inJx4a65c tyJx4a65c tyJx4a65c_ok nmJx4a65c hown hK hP hI hS 1 6 (kup_n (by omega) hk) (by decide) rfl rfl 2 (by decide) aw_120 (fun _ h => h) (Or.inl rfl) (ty := .int) (w := .int (nI ((sp 0) + 1))) (by decide +kernel) rfl rfl (Nat.le_of_ble_eq_true rfl) (upN (upN (upN sp 5 8) 7 (sp 0 + 1)) 0 (sp 0 + 1)) (e_z v 8) (by simp [e_sh, upN]) (fun m _ hm => e_u0 (fun h => hm (kup_u h (by decide) u6))) dJx4a65c_add_72be8_19 (fun H locs hz1 hP hS => ?_)
    have hsz : H.size = a0 + 1 := by omega
    have hz : z0 ≤ H.size := by omega
    exact hret _ _ _ _ _ _ _ _ _ (show (kup kd 8 7) = kup kd 8 7 from rfl) (show (upN (upN (upN sp 5 8) 7 (sp 0 + 1)) 0 (sp 0 + 1)) = upN (upN (upN sp 5 8) 7 (sp 0 + 1)) 0 (sp 0 + 1) from rfl) (show (e_z v 8) = e_z v 8 from rfl) (by decide) (by decide) hP hI (by omega) hS dJx4a65c_add_72be8_22

set_option maxRecDepth 100000 in
set_option maxHeartbeats 4000000 in
theorem c_add_D0 {l : Launch} {X : eD} {z0 t0 mi : Nat} {ad kd sp : Nat → Nat} {v : eV} {a0 : Nat} (hk : kd 1 = 6) (u6 : ∀ m, kd m = 6 → m = 1) (u7 : ∀ m, kd m ≠ 7) (h8 : kd 8 = 0) (h0 : sp 0 = 0) (hp : sp 5 = 11) (h11 : ad 11 = t0) (hcap : sp 2 = 10) (hcnt : sp 7 = sp 0) (ha : ad 8 = a0) (he : kd (20 + 7 * sp 0) = 1) : eAl l yJx4a65c_add_9ea2d cJx4a65c_add_9ea2d 2 (some .boolean) 8 1 10 [.ref (ad 1), .ref (ad (20 + 7 * sp 0))] X z0 t0 mi ad kd sp v a0 (some (.int 1)) (kup kd 8 7) (upN (upN (upN sp 5 8) 7 (sp 0 + 1)) 0 (sp 0 + 1)) (e_z (e_set v 1 0 (v 1 0 + 1)) 8) (a0 + 1) := by
  refine e_alcI (by decide +kernel) (Nat.le_of_ble_eq_true rfl) rfl ?_
  intro p e s m args below meth c hx hb hml hown hts hW hnm9 Q hret ls hl
  obtain ⟨⟨hz, hP, hI, hK⟩, hsz, hL⟩ := hW
  have hl : lv_has ls 2 [(0, .ref (ad 1)), (1, .ref (ad (20 + 7 * sp 0)))] := hl
  have hS : va_S (e_A z0) s.heap s.heap [] := va_S.rf
  refine lv_aload_n hx hb dJx4a65c_add_9ea2d_0 rfl (lv_at hl 0 rfl) ?_
  refine lv_dup hx hb dJx4a65c_add_9ea2d_1 rfl ?_
  refine e_getf hx hb hts inJx4a65c hown hK hP 1 6 hk (by decide) rfl rfl 0 (by decide) aw_455 (fun x9 h9 => u_same (hts _ aw_same) x9 h9) rfl dJx4a65c_add_9ea2d_2 ?_
  refine lv_iconst (v := 1) hx hb dJx4a65c_add_9ea2d_5 (by decide) ?_
  refine lv_iadd hx hb dJx4a65c_add_9ea2d_6 ?_
  refine e_putr hx hb hts inJx4a65c tyJx4a65c tyJx4a65c_ok nmJx4a65c hown hK hP hI hS 1 6 hk (by decide) rfl rfl 0 (by decide) aw_455 (fun x9 h9 => u_same (hts _ aw_same) x9 h9) (Or.inl rfl) (ty := .int) (w := .int ((v 1 0) + 1)) (by decide +kernel) rfl rfl (Nat.le_of_ble_eq_true rfl) sp (e_set v 1 0 ((v 1 0) + 1)) (by simp (disch := omega) [e_sh, e_set_s, e_set_n, e_z_s, e_z_n, cFill_ne, upd, e_rr, hp, h11]) (fun _ _ h => e_sh_ne h) dJx4a65c_add_9ea2d_7 (fun H locs hz1 hP hS => ?_)
  have hsz : H.size = a0 + 0 := by omega
  have hz : z0 ≤ H.size := by omega
  refine lv_aload_n hx hb dJx4a65c_add_9ea2d_10 rfl (lv_at hl 0 rfl) ?_
  refine lv_aload_n hx hb dJx4a65c_add_9ea2d_11 rfl (lv_at hl 1 rfl) ?_
  refine lv_aload_n hx hb dJx4a65c_add_9ea2d_12 rfl (lv_at hl 0 rfl) ?_
  refine e_getf hx hb hts inJx4a65c hown hK hP 1 6 hk (by decide) rfl rfl 1 (by decide) aw_126 (fun _ h => h) (show _ = some (Value.ref t0) by first | (simp (disch := omega) [e_sh, e_set_s, e_set_n, e_z_s, e_z_n, cFill_ne, upd, e_rr, hp, h11]; done) | (simp (disch := omega) [e_sh, e_set_s, e_set_n, e_z_s, e_z_n, cFill_ne, upd, e_rr, hp, h11]; rfl)) dJx4a65c_add_9ea2d_13 ?_
  refine lv_aload_n hx hb dJx4a65c_add_9ea2d_16 rfl (lv_at hl 0 rfl) ?_
  refine e_getf hx hb hts inJx4a65c hown hK hP 1 6 hk (by decide) rfl rfl 2 (by decide) aw_120 (fun _ h => h) rfl dJx4a65c_add_9ea2d_17 ?_
  refine e_cVA (As := [.ref (ad (20 + 7 * sp 0)), .ref t0, .int (nI (sp 0))]) (rest := []) hx hb hml hown hts hL 1 (c_a3_D0 (l := l) (v := (e_set v 1 0 ((v 1 0) + 1))) hk u6 u7 h8 h0 hp h11 hcap hcnt ha he) cw_RJx4a65c_131 (by decide) (by decide) hz hsz hP hI hK hS hk (by decide) rfl rfl rfl hl.1 rfl (Nat.le_of_ble_eq_true rfl) ⟨by decide, by decide⟩ dJx4a65c_add_9ea2d_20 (fun H locs hz hz1 hP hI hS => ?_)
  have hsz : H.size = a0 + 1 := by omega
  have hz : z0 ≤ H.size := by omega
  refine lv_iconst (v := 1) hx hb dJx4a65c_add_9ea2d_23 (by decide) ?_
  exact hret _ _ _ _ _ _ _ _ _ (show (kup kd 8 7) = kup kd 8 7 from rfl) (show (upN (upN (upN sp 5 8) 7 (sp 0 + 1)) 0 (sp 0 + 1)) = upN (upN (upN sp 5 8) 7 (sp 0 + 1)) 0 (sp 0 + 1) from rfl) (show (e_z (e_set v 1 0 ((v 1 0) + 1)) 8) = e_z (e_set v 1 0 (v 1 0 + 1)) 8 from rfl) (by decide) (by decide) hP hI (by omega) hS dJx4a65c_add_9ea2d_24

set_option maxRecDepth 100000 in
set_option maxHeartbeats 4000000 in
theorem c_a3_D1 {l : Launch} {X : eD} {z0 t0 mi : Nat} {ad kd sp : Nat → Nat} {v : eV} {a0 : Nat} (hk : kd 1 = 6) (u6 : ∀ m, kd m = 6 → m = 1) (hA : kd (sp 5) = 7) (u7 : ∀ m, kd m = 7 → m = sp 5) (h0 : sp 0 < sp 2) (hcap : sp 2 < 100) (hcnt : sp 7 = sp 0) (he : kd (20 + 7 * sp 0) = 1) : eAl l yJx4a65c_add_72be8 cJx4a65c_add_72be8 4 none 7 0 0 [.ref (ad 1), .ref (ad (20 + 7 * sp 0)), .ref (ad (sp 5)), .int (nI (sp 0))] X z0 t0 mi ad kd sp v a0 none kd (upN (upN sp 7 (sp 0 + 1)) 0 (sp 0 + 1)) v (a0) := by
  refine e_alcV (by decide +kernel) (Nat.le_of_ble_eq_true rfl) ?_
  intro p e s m args below meth c hx hb hml hown hts hW hnm9 Q hret ls hl
  obtain ⟨⟨hz, hP, hI, hK⟩, hsz, hL⟩ := hW
  have hl : lv_has ls 4 [(0, .ref (ad 1)), (1, .ref (ad (20 + 7 * sp 0))), (2, .ref (ad (sp 5))), (3, .int (nI (sp 0)))] := hl
  have hS : va_S (e_A z0) s.heap s.heap [] := va_S.rf
  refine lv_iload_n hx hb dJx4a65c_add_72be8_0 rfl (lv_at hl 3 rfl) ?_
  refine lv_aload_n hx hb dJx4a65c_add_72be8_1 rfl (lv_at hl 2 rfl) ?_
  refine e_oalen hx hb hK hP (sp 5) 7 (sp 2) hA (by decide) rfl dJx4a65c_add_72be8_2 ?_
  refine lv_icmp_ne (tgt := 11) hx hb dJx4a65c_add_72be8_3 (by decide) (fun c_1 => ?_) (fun c_1 => ?_)
  · skip
    refine lv_aload_n hx hb dJx4a65c_add_72be8_11 rfl (lv_at hl 2 rfl) ?_
    refine lv_iload_n hx hb dJx4a65c_add_72be8_12 rfl (lv_at hl 3 rfl) ?_
    refine lv_aload_n hx hb dJx4a65c_add_72be8_13 rfl (lv_at hl 1 rfl) ?_
    refine e_aast hx hb hK hP hI hS (sp 5) 7 (sp 2) hA (by decide) rfl (sp 0) rfl (by show sp 0 < sp 2; omega) (by show sp 2 < 2 ^ 31; omega) (20 + 7 * sp 0) 1 he (by decide) rfl rfl hL.2.2.2.2.1 (upN sp 7 (sp 0 + 1)) rfl (e_push_up hcnt rfl) (fun m _ hm => e_u7 (fun h => hm (u7 _ h))) dJx4a65c_add_72be8_14 (fun H locs hz1 hP hS => ?_)
    have hsz : H.size = a0 + 0 := by omega
    have hz : z0 ≤ H.size := by omega
    refine lv_aload_n hx hb dJx4a65c_add_72be8_15 rfl (lv_at hl 0 rfl) ?_
    refine lv_iload_n hx hb dJx4a65c_add_72be8_16 rfl (lv_at hl 3 rfl) ?_
    refine lv_iconst (v := 1) hx hb dJx4a65c_add_72be8_17 (by decide) ?_
    refine lv_iadd hx hb dJx4a65c_add_72be8_18 ?_
    refine e_nrm (y := (nI ((sp 0) + 1))) (nI_add (sp 0) 1) ?_
    refine e_putr hx hb hts inJx4a65c tyJx4a65c tyJx4a65c_ok nmJx4a65c hown hK hP hI hS 1 6 hk (by decide) rfl rfl 2 (by decide) aw_120 (fun _ h => h) (Or.inl rfl) (ty := .int) (w := .int (nI ((sp 0) + 1))) (by decide +kernel) rfl rfl (Nat.le_of_ble_eq_true rfl) (upN (upN sp 7 (sp 0 + 1)) 0 (sp 0 + 1)) v (by simp [e_sh, upN]) (fun m _ hm => e_u0 (fun h => hm (u6 _ h))) dJx4a65c_add_72be8_19 (fun H locs hz1 hP hS => ?_)
    have hsz : H.size = a0 + 0 := by omega
    have hz : z0 ≤ H.size := by omega
    exact hret _ _ _ _ _ _ _ _ _ (show kd = kd from rfl) (show (upN (upN sp 7 (sp 0 + 1)) 0 (sp 0 + 1)) = upN (upN sp 7 (sp 0 + 1)) 0 (sp 0 + 1) from rfl) (show v = v from rfl) (by decide) (by decide) hP hI (by omega) hS dJx4a65c_add_72be8_22
  · skip
    exact absurd ((nI_eq (by omega) (by omega)).mp c_1) (by omega)

set_option maxRecDepth 100000 in
set_option maxHeartbeats 4000000 in
theorem c_add_D1 {l : Launch} {X : eD} {z0 t0 mi : Nat} {ad kd sp : Nat → Nat} {v : eV} {a0 : Nat} (hk : kd 1 = 6) (u6 : ∀ m, kd m = 6 → m = 1) (hA : kd (sp 5) = 7) (u7 : ∀ m, kd m = 7 → m = sp 5) (h0 : sp 0 < sp 2) (hcap : sp 2 < 100) (hcnt : sp 7 = sp 0) (he : kd (20 + 7 * sp 0) = 1) : eAl l yJx4a65c_add_9ea2d cJx4a65c_add_9ea2d 2 (some .boolean) 8 0 0 [.ref (ad 1), .ref (ad (20 + 7 * sp 0))] X z0 t0 mi ad kd sp v a0 (some (.int 1)) kd (upN (upN sp 7 (sp 0 + 1)) 0 (sp 0 + 1)) (e_set v 1 0 (v 1 0 + 1)) (a0) := by
  refine e_alcI (by decide +kernel) (Nat.le_of_ble_eq_true rfl) rfl ?_
  intro p e s m args below meth c hx hb hml hown hts hW hnm9 Q hret ls hl
  obtain ⟨⟨hz, hP, hI, hK⟩, hsz, hL⟩ := hW
  have hl : lv_has ls 2 [(0, .ref (ad 1)), (1, .ref (ad (20 + 7 * sp 0)))] := hl
  have hS : va_S (e_A z0) s.heap s.heap [] := va_S.rf
  refine lv_aload_n hx hb dJx4a65c_add_9ea2d_0 rfl (lv_at hl 0 rfl) ?_
  refine lv_dup hx hb dJx4a65c_add_9ea2d_1 rfl ?_
  refine e_getf hx hb hts inJx4a65c hown hK hP 1 6 hk (by decide) rfl rfl 0 (by decide) aw_455 (fun x9 h9 => u_same (hts _ aw_same) x9 h9) rfl dJx4a65c_add_9ea2d_2 ?_
  refine lv_iconst (v := 1) hx hb dJx4a65c_add_9ea2d_5 (by decide) ?_
  refine lv_iadd hx hb dJx4a65c_add_9ea2d_6 ?_
  refine e_putr hx hb hts inJx4a65c tyJx4a65c tyJx4a65c_ok nmJx4a65c hown hK hP hI hS 1 6 hk (by decide) rfl rfl 0 (by decide) aw_455 (fun x9 h9 => u_same (hts _ aw_same) x9 h9) (Or.inl rfl) (ty := .int) (w := .int ((v 1 0) + 1)) (by decide +kernel) rfl rfl (Nat.le_of_ble_eq_true rfl) sp (e_set v 1 0 ((v 1 0) + 1)) (by simp (disch := omega) [e_sh, e_set_s, e_set_n, e_z_s, e_z_n, cFill_ne, upd, e_rr]) (fun _ _ h => e_sh_ne h) dJx4a65c_add_9ea2d_7 (fun H locs hz1 hP hS => ?_)
  have hsz : H.size = a0 + 0 := by omega
  have hz : z0 ≤ H.size := by omega
  refine lv_aload_n hx hb dJx4a65c_add_9ea2d_10 rfl (lv_at hl 0 rfl) ?_
  refine lv_aload_n hx hb dJx4a65c_add_9ea2d_11 rfl (lv_at hl 1 rfl) ?_
  refine lv_aload_n hx hb dJx4a65c_add_9ea2d_12 rfl (lv_at hl 0 rfl) ?_
  refine e_getf hx hb hts inJx4a65c hown hK hP 1 6 hk (by decide) rfl rfl 1 (by decide) aw_126 (fun _ h => h) rfl dJx4a65c_add_9ea2d_13 ?_
  refine lv_aload_n hx hb dJx4a65c_add_9ea2d_16 rfl (lv_at hl 0 rfl) ?_
  refine e_getf hx hb hts inJx4a65c hown hK hP 1 6 hk (by decide) rfl rfl 2 (by decide) aw_120 (fun _ h => h) rfl dJx4a65c_add_9ea2d_17 ?_
  refine e_cVA (As := [.ref (ad (20 + 7 * sp 0)), .ref (ad (sp 5)), .int (nI (sp 0))]) (rest := []) hx hb hml hown hts hL 1 (c_a3_D1 (l := l) (v := (e_set v 1 0 ((v 1 0) + 1))) hk u6 hA u7 h0 hcap hcnt he) cw_RJx4a65c_131 (by decide) (by decide) hz hsz hP hI hK hS hk (by decide) rfl rfl rfl hl.1 rfl (Nat.le_of_ble_eq_true rfl) ⟨by decide, by decide⟩ dJx4a65c_add_9ea2d_20 (fun H locs hz hz1 hP hI hS => ?_)
  have hsz : H.size = a0 + 0 := by omega
  have hz : z0 ≤ H.size := by omega
  refine lv_iconst (v := 1) hx hb dJx4a65c_add_9ea2d_23 (by decide) ?_
  exact hret _ _ _ _ _ _ _ _ _ (show kd = kd from rfl) (show (upN (upN sp 7 (sp 0 + 1)) 0 (sp 0 + 1)) = upN (upN sp 7 (sp 0 + 1)) 0 (sp 0 + 1) from rfl) (show (e_set v 1 0 ((v 1 0) + 1)) = e_set v 1 0 (v 1 0 + 1) from rfl) (by decide) (by decide) hP hI (by omega) hS dJx4a65c_add_9ea2d_24

set_option maxRecDepth 100000 in
set_option maxHeartbeats 4000000 in
theorem c_gI_L0 {l : Launch} {X : eD} {z0 t0 mi : Nat} {ad kd sp : Nat → Nat} {v : eV} {a0 : Nat} (hk : kd 2 = 8) (u6 : ∀ m, kd m = 8 → m = 2) (u7 : ∀ m, kd m ≠ 9) (h8 : kd 9 = 0) (h0 : sp 1 = 0) (hp : sp 6 = 11) (h11 : ad 11 = t0) (hcap : sp 3 = 10) (hcnt : sp 8 = sp 1) (ha : ad 9 = a0) (x : Int32) (hx1 : x = 1) : eAl l yJx4a65c_grow_92f84 cJx4a65c_grow_92f84 4 (some (.array (.object "java/lang/Object"))) 5 1 10 [.ref (ad 2), .int x] X z0 t0 mi ad kd sp v a0 (some (.ref (ad 9))) (kup kd 9 9) (upN sp 6 9) (e_z v 9) (a0 + 1) := by
  refine e_alcR (by decide +kernel) (Nat.le_of_ble_eq_true rfl) (Or.inr ⟨_, rfl⟩) ?_
  intro p e s m args below meth c hx hb hml hown hts hW hnm9 Q hret ls hl
  obtain ⟨⟨hz, hP, hI, hK⟩, hsz, hL⟩ := hW
  have hl : lv_has ls 4 [(0, .ref (ad 2)), (1, .int x)] := hl
  have hS : va_S (e_A z0) s.heap s.heap [] := va_S.rf
  refine lv_aload_n hx hb dJx4a65c_grow_92f84_0 rfl (lv_at hl 0 rfl) ?_
  refine e_getf hx hb hts inJx4a65c hown hK hP 2 8 hk (by decide) rfl rfl 1 (by decide) aw_126 (fun _ h => h) (show _ = some (Value.ref t0) by first | (simp (disch := omega) [e_sh, e_set_s, e_set_n, e_z_s, e_z_n, cFill_ne, upd, e_rr, hp, h11]; done) | (simp (disch := omega) [e_sh, e_set_s, e_set_n, e_z_s, e_z_n, cFill_ne, upd, e_rr, hp, h11]; rfl)) dJx4a65c_grow_92f84_1 ?_
  refine va_tlen (v := 0) hx hb hL.2.1 hS rfl dJx4a65c_grow_92f84_4 ?_
  refine lv_istore_n (lv' := [(2, .int 0), (0, .ref (ad 2)), (1, .int x)]) hx hb dJx4a65c_grow_92f84_5 rfl hl (by decide) rfl (fun ls hl => ?_)
  refine lv_iload_n hx hb dJx4a65c_grow_92f84_6 rfl (lv_at hl 0 rfl) ?_
  refine lv_if_gt (tgt := 20) hx hb dJx4a65c_grow_92f84_7 (by decide) (fun c_1 => absurd c_1 (by decide)) (fun c_1 => ?_)
  refine lv_aload_n hx hb dJx4a65c_grow_92f84_10 rfl (lv_at hl 1 rfl) ?_
  refine e_getf hx hb hts inJx4a65c hown hK hP 2 8 hk (by decide) rfl rfl 1 (by decide) aw_126 (fun _ h => h) (show _ = some (Value.ref t0) by first | (simp (disch := omega) [e_sh, e_set_s, e_set_n, e_z_s, e_z_n, cFill_ne, upd, e_rr, hp, h11]; done) | (simp (disch := omega) [e_sh, e_set_s, e_set_n, e_z_s, e_z_n, cFill_ne, upd, e_rr, hp, h11]; rfl)) dJx4a65c_grow_92f84_11 ?_
  refine va_gets hx hb hL.1 hS hown (hts _ aw_426) (fun _ h => h) dJx4a65c_grow_92f84_14 ?_
  refine lv_acmp_eq (rx := some t0) (ry := some t0) (tgt := 45) hx hb dJx4a65c_grow_92f84_17 (by decide) (fun _ => ?_) (fun c9 => absurd rfl c9)
  refine lv_aload_n hx hb dJx4a65c_grow_92f84_45 rfl (lv_at hl 1 rfl) ?_
  refine lv_bipush (v := 10) hx hb dJx4a65c_grow_92f84_46 (by decide) ?_
  refine lv_iload_n hx hb dJx4a65c_grow_92f84_48 rfl (lv_at hl 2 rfl) ?_
  refine va_mmax hx hb (hml.trans hl.1.symm) hown (hts _ aw_443) (hts _ aw_320) (hts _ aw_154) (hts _ em_code_max) (by decide) (Nat.le_of_ble_eq_true rfl) (by decide) (by decide) dJx4a65c_grow_92f84_49 ?_
  refine e_nrm (y := (nI 10)) (by rw [hx1]; decide) ?_
  refine e_newo hx hb hts hown aw_444 hL.2.2.1 hK hP hI hz hS 9 9 10 h8 ((ha : ad 9 = _).trans (by omega)) (by show Sum.inl (_, _, _) = _; rw [hcap]) (e_none (hcnt.trans h0)) rfl (by decide) (by decide) (by decide) dJx4a65c_grow_92f84_52 (fun H hz1 hP hI hS => ?_)
  have hsz : H.size = a0 + 1 := by omega
  have hz : z0 ≤ H.size := by omega
  refine lv_dup_x1 hx hb dJx4a65c_grow_92f84_55 rfl rfl ?_
  refine e_putr hx hb hts inJx4a65c tyJx4a65c tyJx4a65c_ok nmJx4a65c hown hK hP hI hS 2 8 (kup_n (by omega) hk) (by decide) rfl rfl 1 (by decide) aw_126 (fun _ h => h) (Or.inl rfl) (ty := .array (.object "java/lang/Object")) (w := .ref (ad 9)) (by decide +kernel) rfl rfl (Nat.le_of_ble_eq_true rfl) (upN sp 6 9) (e_z v 9) (by simp [e_sh, upN]) (fun m _ hm => e_u6 (fun h => hm (kup_u h (by decide) u6))) dJx4a65c_grow_92f84_56 (fun H locs hz1 hP hS => ?_)
  have hsz : H.size = a0 + 1 := by omega
  have hz : z0 ≤ H.size := by omega
  exact hret _ _ _ _ _ _ _ _ _ (show (kup kd 9 9) = kup kd 9 9 from rfl) (show (upN sp 6 9) = upN sp 6 9 from rfl) (show (e_z v 9) = e_z v 9 from rfl) (by decide) (by decide) hP hI (by omega) hS dJx4a65c_grow_92f84_59

set_option maxRecDepth 100000 in
set_option maxHeartbeats 4000000 in
theorem c_g_L0 {l : Launch} {X : eD} {z0 t0 mi : Nat} {ad kd sp : Nat → Nat} {v : eV} {a0 : Nat} (hk : kd 2 = 8) (u6 : ∀ m, kd m = 8 → m = 2) (u7 : ∀ m, kd m ≠ 9) (h8 : kd 9 = 0) (h0 : sp 1 = 0) (hp : sp 6 = 11) (h11 : ad 11 = t0) (hcap : sp 3 = 10) (hcnt : sp 8 = sp 1) (ha : ad 9 = a0) : eAl l yJx4a65c_grow_d5877 cJx4a65c_grow_d5877 1 (some (.array (.object "java/lang/Object"))) 6 1 10 [.ref (ad 2)] X z0 t0 mi ad kd sp v a0 (some (.ref (ad 9))) (kup kd 9 9) (upN sp 6 9) (e_z v 9) (a0 + 1) := by
  refine e_alcR (by decide +kernel) (Nat.le_of_ble_eq_true rfl) (Or.inr ⟨_, rfl⟩) ?_
  intro p e s m args below meth c hx hb hml hown hts hW hnm9 Q hret ls hl
  obtain ⟨⟨hz, hP, hI, hK⟩, hsz, hL⟩ := hW
  have hl : lv_has ls 1 [(0, .ref (ad 2))] := hl
  have hS : va_S (e_A z0) s.heap s.heap [] := va_S.rf
  refine lv_aload_n hx hb dJx4a65c_grow_d5877_0 rfl (lv_at hl 0 rfl) ?_
  refine lv_aload_n hx hb dJx4a65c_grow_d5877_1 rfl (lv_at hl 0 rfl) ?_
  refine e_getf hx hb hts inJx4a65c hown hK hP 2 8 hk (by decide) rfl rfl 2 (by decide) aw_120 (fun _ h => h) rfl dJx4a65c_grow_d5877_2 ?_
  refine e_nrm (y := 0) (by rw [h0]; rfl) ?_
  refine lv_iconst (v := 1) hx hb dJx4a65c_grow_d5877_5 (by decide) ?_
  refine lv_iadd hx hb dJx4a65c_grow_d5877_6 ?_
  refine e_nrm (y := (nI (0 + 1))) (nI_add 0 1) ?_
  refine e_cVA (As := [.int (nI (0 + 1))]) (rest := []) hx hb hml hown hts hL 2 (c_gI_L0 (l := l) (v := v) hk u6 u7 h8 h0 hp h11 hcap hcnt ha (nI (0 + 1)) rfl) cw_RJx4a65c_69 (by decide) (by decide) hz hsz hP hI hK hS hk (by decide) rfl rfl rfl hl.1 rfl (Nat.le_of_ble_eq_true rfl) ⟨by decide, by decide⟩ dJx4a65c_grow_d5877_7 (fun H locs hz hz1 hP hI hS => ?_)
  have hsz : H.size = a0 + 1 := by omega
  have hz : z0 ≤ H.size := by omega
  exact hret _ _ _ _ _ _ _ _ _ (show (kup kd 9 9) = kup kd 9 9 from rfl) (show (upN sp 6 9) = upN sp 6 9 from rfl) (show (e_z v 9) = e_z v 9 from rfl) (by decide) (by decide) hP hI (by omega) hS dJx4a65c_grow_d5877_10

set_option maxRecDepth 100000 in
set_option maxHeartbeats 4000000 in
theorem c_a3_L0 {l : Launch} {X : eD} {z0 t0 mi : Nat} {ad kd sp : Nat → Nat} {v : eV} {a0 : Nat} (hk : kd 2 = 8) (u6 : ∀ m, kd m = 8 → m = 2) (u7 : ∀ m, kd m ≠ 9) (h8 : kd 9 = 0) (h0 : sp 1 = 0) (hp : sp 6 = 11) (h11 : ad 11 = t0) (hcap : sp 3 = 10) (hcnt : sp 8 = sp 1) (ha : ad 9 = a0) (he : kd (80 + sp 1) = 4) : eAl l yJx4a65c_add_72be8 cJx4a65c_add_72be8 4 none 7 1 10 [.ref (ad 2), .ref (ad (80 + sp 1)), .ref t0, .int (nI (sp 1))] X z0 t0 mi ad kd sp v a0 none (kup kd 9 9) (upN (upN (upN sp 6 9) 8 (sp 1 + 1)) 1 (sp 1 + 1)) (e_z v 9) (a0 + 1) := by
  refine e_alcV (by decide +kernel) (Nat.le_of_ble_eq_true rfl) ?_
  intro p e s m args below meth c hx hb hml hown hts hW hnm9 Q hret ls hl
  obtain ⟨⟨hz, hP, hI, hK⟩, hsz, hL⟩ := hW
  have hl : lv_has ls 4 [(0, .ref (ad 2)), (1, .ref (ad (80 + sp 1))), (2, .ref t0), (3, .int (nI (sp 1)))] := hl
  have hS : va_S (e_A z0) s.heap s.heap [] := va_S.rf
  refine lv_iload_n hx hb dJx4a65c_add_72be8_0 rfl (lv_at hl 3 rfl) ?_
  refine lv_aload_n hx hb dJx4a65c_add_72be8_1 rfl (lv_at hl 2 rfl) ?_
  refine va_tlen (v := 0) hx hb hL.2.1 hS rfl dJx4a65c_add_72be8_2 ?_
  refine lv_icmp_ne (tgt := 11) hx hb dJx4a65c_add_72be8_3 (by decide) (fun c_1 => ?_) (fun c_1 => ?_)
  · skip
    exact absurd (show nI (sp 1) = 0 by rw [h0]; rfl) c_1
  · skip
    refine lv_aload_n hx hb dJx4a65c_add_72be8_6 rfl (lv_at hl 0 rfl) ?_
    refine e_cVA (As := []) (rest := []) hx hb hml hown hts hL 2 (c_g_L0 (l := l) (v := v) hk u6 u7 h8 h0 hp h11 hcap hcnt ha) cw_RJx4a65c_129 (by decide) (by decide) hz hsz hP hI hK hS hk (by decide) rfl rfl rfl hl.1 rfl (Nat.le_of_ble_eq_true rfl) ⟨by decide, by decide⟩ dJx4a65c_add_72be8_7 (fun H locs hz hz1 hP hI hS => ?_)
    have hsz : H.size = a0 + 1 := by omega
    have hz : z0 ≤ H.size := by omega
    refine lv_astore_n (lv' := [(2, .ref (ad 9)), (0, .ref (ad 2)), (1, .ref (ad (80 + sp 1))), (3, .int (nI (sp 1)))]) hx hb dJx4a65c_add_72be8_10 rfl hl (by decide) rfl (fun ls hl => ?_)
    refine lv_aload_n hx hb dJx4a65c_add_72be8_11 rfl (lv_at hl 0 rfl) ?_
    refine lv_iload_n hx hb dJx4a65c_add_72be8_12 rfl (lv_at hl 3 rfl) ?_
    refine lv_aload_n hx hb dJx4a65c_add_72be8_13 rfl (lv_at hl 2 rfl) ?_
    refine e_aast hx hb hK hP hI hS 9 9 ((upN sp 6 9) 3) kup_s (by decide) rfl (sp 1) rfl (by show sp 1 < sp 3; omega) (by show sp 3 < 2 ^ 31; omega) (80 + sp 1) 4 (kup_n (by omega) he) (by decide) rfl rfl hL.2.2.2.2.2.1 (upN (upN sp 6 9) 8 (sp 1 + 1)) rfl (e_push_up hcnt rfl) (fun m _ hm => e_u8 (fun h => hm (kup_u0 h u7))) dJx4a65c_add_72be8_14 (fun H locs hz1 hP hS => ?_)
    have hsz : H.size = a0 + 1 := by omega
    have hz : z0 ≤ H.size := by omega
    refine lv_aload_n hx hb dJx4a65c_add_72be8_15 rfl (lv_at hl 1 rfl) ?_
    refine lv_iload_n hx hb dJx4a65c_add_72be8_16 rfl (lv_at hl 3 rfl) ?_
    refine lv_iconst (v := 1) hx hb dJx4a65c_add_72be8_17 (by decide) ?_
    refine lv_iadd hx hb dJx4a65c_add_72be8_18 ?_
    refine e_nrm (y := (nI ((sp 1) + 1))) (nI_add (sp 1) 1) ?_
    refine e_putr hx hb hts inJx4a65c tyJx4a65c tyJx4a65c_ok nmJx4a65c hown hK hP hI hS 2 8 (kup_n (by omega) hk) (by decide) rfl rfl 2 (by decide) aw_120 (fun _ h => h) (Or.inl rfl) (ty := .int) (w := .int (nI ((sp 1) + 1))) (by decide +kernel) rfl rfl (Nat.le_of_ble_eq_true rfl) (upN (upN (upN sp 6 9) 8 (sp 1 + 1)) 1 (sp 1 + 1)) (e_z v 9) (by simp [e_sh, upN]) (fun m _ hm => e_u1 (fun h => hm (kup_u h (by decide) u6))) dJx4a65c_add_72be8_19 (fun H locs hz1 hP hS => ?_)
    have hsz : H.size = a0 + 1 := by omega
    have hz : z0 ≤ H.size := by omega
    exact hret _ _ _ _ _ _ _ _ _ (show (kup kd 9 9) = kup kd 9 9 from rfl) (show (upN (upN (upN sp 6 9) 8 (sp 1 + 1)) 1 (sp 1 + 1)) = upN (upN (upN sp 6 9) 8 (sp 1 + 1)) 1 (sp 1 + 1) from rfl) (show (e_z v 9) = e_z v 9 from rfl) (by decide) (by decide) hP hI (by omega) hS dJx4a65c_add_72be8_22

set_option maxRecDepth 100000 in
set_option maxHeartbeats 4000000 in
theorem c_add_L0 {l : Launch} {X : eD} {z0 t0 mi : Nat} {ad kd sp : Nat → Nat} {v : eV} {a0 : Nat} (hk : kd 2 = 8) (u6 : ∀ m, kd m = 8 → m = 2) (u7 : ∀ m, kd m ≠ 9) (h8 : kd 9 = 0) (h0 : sp 1 = 0) (hp : sp 6 = 11) (h11 : ad 11 = t0) (hcap : sp 3 = 10) (hcnt : sp 8 = sp 1) (ha : ad 9 = a0) (he : kd (80 + sp 1) = 4) : eAl l yJx4a65c_add_9ea2d cJx4a65c_add_9ea2d 2 (some .boolean) 8 1 10 [.ref (ad 2), .ref (ad (80 + sp 1))] X z0 t0 mi ad kd sp v a0 (some (.int 1)) (kup kd 9 9) (upN (upN (upN sp 6 9) 8 (sp 1 + 1)) 1 (sp 1 + 1)) (e_z (e_set v 2 0 (v 2 0 + 1)) 9) (a0 + 1) := by
  refine e_alcI (by decide +kernel) (Nat.le_of_ble_eq_true rfl) rfl ?_
  intro p e s m args below meth c hx hb hml hown hts hW hnm9 Q hret ls hl
  obtain ⟨⟨hz, hP, hI, hK⟩, hsz, hL⟩ := hW
  have hl : lv_has ls 2 [(0, .ref (ad 2)), (1, .ref (ad (80 + sp 1)))] := hl
  have hS : va_S (e_A z0) s.heap s.heap [] := va_S.rf
  refine lv_aload_n hx hb dJx4a65c_add_9ea2d_0 rfl (lv_at hl 0 rfl) ?_
  refine lv_dup hx hb dJx4a65c_add_9ea2d_1 rfl ?_
  refine e_getf hx hb hts inJx4a65c hown hK hP 2 8 hk (by decide) rfl rfl 0 (by decide) aw_455 (fun x9 h9 => u_same (hts _ aw_same) x9 h9) rfl dJx4a65c_add_9ea2d_2 ?_
  refine lv_iconst (v := 1) hx hb dJx4a65c_add_9ea2d_5 (by decide) ?_
  refine lv_iadd hx hb dJx4a65c_add_9ea2d_6 ?_
  refine e_putr hx hb hts inJx4a65c tyJx4a65c tyJx4a65c_ok nmJx4a65c hown hK hP hI hS 2 8 hk (by decide) rfl rfl 0 (by decide) aw_455 (fun x9 h9 => u_same (hts _ aw_same) x9 h9) (Or.inl rfl) (ty := .int) (w := .int ((v 2 0) + 1)) (by decide +kernel) rfl rfl (Nat.le_of_ble_eq_true rfl) sp (e_set v 2 0 ((v 2 0) + 1)) (by simp (disch := omega) [e_sh, e_set_s, e_set_n, e_z_s, e_z_n, cFill_ne, upd, e_rr, hp, h11]) (fun _ _ h => e_sh_ne h) dJx4a65c_add_9ea2d_7 (fun H locs hz1 hP hS => ?_)
  have hsz : H.size = a0 + 0 := by omega
  have hz : z0 ≤ H.size := by omega
  refine lv_aload_n hx hb dJx4a65c_add_9ea2d_10 rfl (lv_at hl 0 rfl) ?_
  refine lv_aload_n hx hb dJx4a65c_add_9ea2d_11 rfl (lv_at hl 1 rfl) ?_
  refine lv_aload_n hx hb dJx4a65c_add_9ea2d_12 rfl (lv_at hl 0 rfl) ?_
  refine e_getf hx hb hts inJx4a65c hown hK hP 2 8 hk (by decide) rfl rfl 1 (by decide) aw_126 (fun _ h => h) (show _ = some (Value.ref t0) by first | (simp (disch := omega) [e_sh, e_set_s, e_set_n, e_z_s, e_z_n, cFill_ne, upd, e_rr, hp, h11]; done) | (simp (disch := omega) [e_sh, e_set_s, e_set_n, e_z_s, e_z_n, cFill_ne, upd, e_rr, hp, h11]; rfl)) dJx4a65c_add_9ea2d_13 ?_
  refine lv_aload_n hx hb dJx4a65c_add_9ea2d_16 rfl (lv_at hl 0 rfl) ?_
  refine e_getf hx hb hts inJx4a65c hown hK hP 2 8 hk (by decide) rfl rfl 2 (by decide) aw_120 (fun _ h => h) rfl dJx4a65c_add_9ea2d_17 ?_
  refine e_cVA (As := [.ref (ad (80 + sp 1)), .ref t0, .int (nI (sp 1))]) (rest := []) hx hb hml hown hts hL 2 (c_a3_L0 (l := l) (v := (e_set v 2 0 ((v 2 0) + 1))) hk u6 u7 h8 h0 hp h11 hcap hcnt ha he) cw_RJx4a65c_131 (by decide) (by decide) hz hsz hP hI hK hS hk (by decide) rfl rfl rfl hl.1 rfl (Nat.le_of_ble_eq_true rfl) ⟨by decide, by decide⟩ dJx4a65c_add_9ea2d_20 (fun H locs hz hz1 hP hI hS => ?_)
  have hsz : H.size = a0 + 1 := by omega
  have hz : z0 ≤ H.size := by omega
  refine lv_iconst (v := 1) hx hb dJx4a65c_add_9ea2d_23 (by decide) ?_
  exact hret _ _ _ _ _ _ _ _ _ (show (kup kd 9 9) = kup kd 9 9 from rfl) (show (upN (upN (upN sp 6 9) 8 (sp 1 + 1)) 1 (sp 1 + 1)) = upN (upN (upN sp 6 9) 8 (sp 1 + 1)) 1 (sp 1 + 1) from rfl) (show (e_z (e_set v 2 0 ((v 2 0) + 1)) 9) = e_z (e_set v 2 0 (v 2 0 + 1)) 9 from rfl) (by decide) (by decide) hP hI (by omega) hS dJx4a65c_add_9ea2d_24

set_option maxRecDepth 100000 in
set_option maxHeartbeats 4000000 in
theorem c_a3_L1 {l : Launch} {X : eD} {z0 t0 mi : Nat} {ad kd sp : Nat → Nat} {v : eV} {a0 : Nat} (hk : kd 2 = 8) (u6 : ∀ m, kd m = 8 → m = 2) (hA : kd (sp 6) = 9) (u7 : ∀ m, kd m = 9 → m = sp 6) (h0 : sp 1 < sp 3) (hcap : sp 3 < 100) (hcnt : sp 8 = sp 1) (he : kd (80 + sp 1) = 4) : eAl l yJx4a65c_add_72be8 cJx4a65c_add_72be8 4 none 7 0 0 [.ref (ad 2), .ref (ad (80 + sp 1)), .ref (ad (sp 6)), .int (nI (sp 1))] X z0 t0 mi ad kd sp v a0 none kd (upN (upN sp 8 (sp 1 + 1)) 1 (sp 1 + 1)) v (a0) := by
  refine e_alcV (by decide +kernel) (Nat.le_of_ble_eq_true rfl) ?_
  intro p e s m args below meth c hx hb hml hown hts hW hnm9 Q hret ls hl
  obtain ⟨⟨hz, hP, hI, hK⟩, hsz, hL⟩ := hW
  have hl : lv_has ls 4 [(0, .ref (ad 2)), (1, .ref (ad (80 + sp 1))), (2, .ref (ad (sp 6))), (3, .int (nI (sp 1)))] := hl
  have hS : va_S (e_A z0) s.heap s.heap [] := va_S.rf
  refine lv_iload_n hx hb dJx4a65c_add_72be8_0 rfl (lv_at hl 3 rfl) ?_
  refine lv_aload_n hx hb dJx4a65c_add_72be8_1 rfl (lv_at hl 2 rfl) ?_
  refine e_oalen hx hb hK hP (sp 6) 9 (sp 3) hA (by decide) rfl dJx4a65c_add_72be8_2 ?_
  refine lv_icmp_ne (tgt := 11) hx hb dJx4a65c_add_72be8_3 (by decide) (fun c_1 => ?_) (fun c_1 => ?_)
  · skip
    refine lv_aload_n hx hb dJx4a65c_add_72be8_11 rfl (lv_at hl 2 rfl) ?_
    refine lv_iload_n hx hb dJx4a65c_add_72be8_12 rfl (lv_at hl 3 rfl) ?_
    refine lv_aload_n hx hb dJx4a65c_add_72be8_13 rfl (lv_at hl 1 rfl) ?_
    refine e_aast hx hb hK hP hI hS (sp 6) 9 (sp 3) hA (by decide) rfl (sp 1) rfl (by show sp 1 < sp 3; omega) (by show sp 3 < 2 ^ 31; omega) (80 + sp 1) 4 he (by decide) rfl rfl hL.2.2.2.2.2.1 (upN sp 8 (sp 1 + 1)) rfl (e_push_up hcnt rfl) (fun m _ hm => e_u8 (fun h => hm (u7 _ h))) dJx4a65c_add_72be8_14 (fun H locs hz1 hP hS => ?_)
    have hsz : H.size = a0 + 0 := by omega
    have hz : z0 ≤ H.size := by omega
    refine lv_aload_n hx hb dJx4a65c_add_72be8_15 rfl (lv_at hl 0 rfl) ?_
    refine lv_iload_n hx hb dJx4a65c_add_72be8_16 rfl (lv_at hl 3 rfl) ?_
    refine lv_iconst (v := 1) hx hb dJx4a65c_add_72be8_17 (by decide) ?_
    refine lv_iadd hx hb dJx4a65c_add_72be8_18 ?_
    refine e_nrm (y := (nI ((sp 1) + 1))) (nI_add (sp 1) 1) ?_
    refine e_putr hx hb hts inJx4a65c tyJx4a65c tyJx4a65c_ok nmJx4a65c hown hK hP hI hS 2 8 hk (by decide) rfl rfl 2 (by decide) aw_120 (fun _ h => h) (Or.inl rfl) (ty := .int) (w := .int (nI ((sp 1) + 1))) (by decide +kernel) rfl rfl (Nat.le_of_ble_eq_true rfl) (upN (upN sp 8 (sp 1 + 1)) 1 (sp 1 + 1)) v (by simp [e_sh, upN]) (fun m _ hm => e_u1 (fun h => hm (u6 _ h))) dJx4a65c_add_72be8_19 (fun H locs hz1 hP hS => ?_)
    have hsz : H.size = a0 + 0 := by omega
    have hz : z0 ≤ H.size := by omega
    exact hret _ _ _ _ _ _ _ _ _ (show kd = kd from rfl) (show (upN (upN sp 8 (sp 1 + 1)) 1 (sp 1 + 1)) = upN (upN sp 8 (sp 1 + 1)) 1 (sp 1 + 1) from rfl) (show v = v from rfl) (by decide) (by decide) hP hI (by omega) hS dJx4a65c_add_72be8_22
  · skip
    exact absurd ((nI_eq (by omega) (by omega)).mp c_1) (by omega)

set_option maxRecDepth 100000 in
set_option maxHeartbeats 4000000 in
theorem c_add_L1 {l : Launch} {X : eD} {z0 t0 mi : Nat} {ad kd sp : Nat → Nat} {v : eV} {a0 : Nat} (hk : kd 2 = 8) (u6 : ∀ m, kd m = 8 → m = 2) (hA : kd (sp 6) = 9) (u7 : ∀ m, kd m = 9 → m = sp 6) (h0 : sp 1 < sp 3) (hcap : sp 3 < 100) (hcnt : sp 8 = sp 1) (he : kd (80 + sp 1) = 4) : eAl l yJx4a65c_add_9ea2d cJx4a65c_add_9ea2d 2 (some .boolean) 8 0 0 [.ref (ad 2), .ref (ad (80 + sp 1))] X z0 t0 mi ad kd sp v a0 (some (.int 1)) kd (upN (upN sp 8 (sp 1 + 1)) 1 (sp 1 + 1)) (e_set v 2 0 (v 2 0 + 1)) (a0) := by
  refine e_alcI (by decide +kernel) (Nat.le_of_ble_eq_true rfl) rfl ?_
  intro p e s m args below meth c hx hb hml hown hts hW hnm9 Q hret ls hl
  obtain ⟨⟨hz, hP, hI, hK⟩, hsz, hL⟩ := hW
  have hl : lv_has ls 2 [(0, .ref (ad 2)), (1, .ref (ad (80 + sp 1)))] := hl
  have hS : va_S (e_A z0) s.heap s.heap [] := va_S.rf
  refine lv_aload_n hx hb dJx4a65c_add_9ea2d_0 rfl (lv_at hl 0 rfl) ?_
  refine lv_dup hx hb dJx4a65c_add_9ea2d_1 rfl ?_
  refine e_getf hx hb hts inJx4a65c hown hK hP 2 8 hk (by decide) rfl rfl 0 (by decide) aw_455 (fun x9 h9 => u_same (hts _ aw_same) x9 h9) rfl dJx4a65c_add_9ea2d_2 ?_
  refine lv_iconst (v := 1) hx hb dJx4a65c_add_9ea2d_5 (by decide) ?_
  refine lv_iadd hx hb dJx4a65c_add_9ea2d_6 ?_
  refine e_putr hx hb hts inJx4a65c tyJx4a65c tyJx4a65c_ok nmJx4a65c hown hK hP hI hS 2 8 hk (by decide) rfl rfl 0 (by decide) aw_455 (fun x9 h9 => u_same (hts _ aw_same) x9 h9) (Or.inl rfl) (ty := .int) (w := .int ((v 2 0) + 1)) (by decide +kernel) rfl rfl (Nat.le_of_ble_eq_true rfl) sp (e_set v 2 0 ((v 2 0) + 1)) (by simp (disch := omega) [e_sh, e_set_s, e_set_n, e_z_s, e_z_n, cFill_ne, upd, e_rr]) (fun _ _ h => e_sh_ne h) dJx4a65c_add_9ea2d_7 (fun H locs hz1 hP hS => ?_)
  have hsz : H.size = a0 + 0 := by omega
  have hz : z0 ≤ H.size := by omega
  refine lv_aload_n hx hb dJx4a65c_add_9ea2d_10 rfl (lv_at hl 0 rfl) ?_
  refine lv_aload_n hx hb dJx4a65c_add_9ea2d_11 rfl (lv_at hl 1 rfl) ?_
  refine lv_aload_n hx hb dJx4a65c_add_9ea2d_12 rfl (lv_at hl 0 rfl) ?_
  refine e_getf hx hb hts inJx4a65c hown hK hP 2 8 hk (by decide) rfl rfl 1 (by decide) aw_126 (fun _ h => h) rfl dJx4a65c_add_9ea2d_13 ?_
  refine lv_aload_n hx hb dJx4a65c_add_9ea2d_16 rfl (lv_at hl 0 rfl) ?_
  refine e_getf hx hb hts inJx4a65c hown hK hP 2 8 hk (by decide) rfl rfl 2 (by decide) aw_120 (fun _ h => h) rfl dJx4a65c_add_9ea2d_17 ?_
  refine e_cVA (As := [.ref (ad (80 + sp 1)), .ref (ad (sp 6)), .int (nI (sp 1))]) (rest := []) hx hb hml hown hts hL 2 (c_a3_L1 (l := l) (v := (e_set v 2 0 ((v 2 0) + 1))) hk u6 hA u7 h0 hcap hcnt he) cw_RJx4a65c_131 (by decide) (by decide) hz hsz hP hI hK hS hk (by decide) rfl rfl rfl hl.1 rfl (Nat.le_of_ble_eq_true rfl) ⟨by decide, by decide⟩ dJx4a65c_add_9ea2d_20 (fun H locs hz hz1 hP hI hS => ?_)
  have hsz : H.size = a0 + 0 := by omega
  have hz : z0 ≤ H.size := by omega
  refine lv_iconst (v := 1) hx hb dJx4a65c_add_9ea2d_23 (by decide) ?_
  exact hret _ _ _ _ _ _ _ _ _ (show kd = kd from rfl) (show (upN (upN sp 8 (sp 1 + 1)) 1 (sp 1 + 1)) = upN (upN sp 8 (sp 1 + 1)) 1 (sp 1 + 1) from rfl) (show (e_set v 2 0 ((v 2 0) + 1)) = e_set v 2 0 (v 2 0 + 1) from rfl) (by decide) (by decide) hP hI (by omega) hS dJx4a65c_add_9ea2d_24

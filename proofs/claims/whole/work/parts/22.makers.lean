theorem aw_499 : Cond.methodLink RX3 35 yX3_isOnStage ∈ AW := aw_of (List.mem_of_getElem? (i := 274) (by decide +kernel)) (by decide +kernel)
theorem cw_RX3_35 : e_cwS RX3 35 yX3_isOnStage cX3_isOnStage 1 (some .boolean) 1 := ⟨aw_499, aw_168, aw_162, aw_169, by decide +kernel, by decide +kernel, by decide +kernel⟩
theorem aw_501 : Cond.methodLink RX3 55 yX3_isFirstPlace ∈ AW := aw_of (List.mem_of_getElem? (i := 304) (by decide +kernel)) (by decide +kernel)
theorem aw_502 : Cond.instanceMethod yX3_isFirstPlace ∈ AW := aw_of (List.mem_of_getElem? (i := 306) (by decide +kernel)) (by decide +kernel)
theorem aw_503 : Cond.selects RX3 yX3_isFirstPlace yX3_isFirstPlace ∈ AW := aw_of (List.mem_of_getElem? (i := 3) (by decide +kernel)) (by decide +kernel)
set_option maxRecDepth 100000 in
theorem aw_504 : Cond.code yX3_isFirstPlace cX3_isFirstPlace 5 (some .boolean) ∈ AW := aw_of (List.mem_of_getElem? (i := 307) rfl) (by decide +kernel)
theorem cw_RX3_55 : e_cwV RX3 55 RX3 yX3_isFirstPlace cX3_isFirstPlace 5 (some .boolean) 2 := ⟨aw_501, aw_502, aw_503, aw_162, aw_504, rfl, by decide +kernel, by decide +kernel, by decide +kernel⟩
theorem aw_506 : Cond.instantiable RX0 4 ∈ AW := aw_of (List.mem_of_getElem? (i := 309) (by decide +kernel)) (by decide +kernel)
theorem aw_507 : Cond.methodLink RX3 63 yX0_init ∈ AW := aw_of (List.mem_of_getElem? (i := 310) (by decide +kernel)) (by decide +kernel)
theorem aw_508 : Cond.instanceMethod yX0_init ∈ AW := aw_of (List.mem_of_getElem? (i := 311) (by decide +kernel)) (by decide +kernel)
set_option maxRecDepth 100000 in
theorem aw_509 : Cond.code yX0_init cX0_init 3 none ∈ AW := aw_of (List.mem_of_getElem? (i := 312) rfl) (by decide +kernel)
theorem cwi_RX3_63 : e_cwI RX3 63 yX0_init cX0_init 3 2 := ⟨aw_507, aw_508, aw_175, aw_509, rfl, by decide +kernel, by decide +kernel, by decide +kernel⟩
theorem aw_511 : Cond.methodLink RX3 66 yJx4a65c_add_9ea2d ∈ AW := aw_of (List.mem_of_getElem? (i := 352) (by decide +kernel)) (by decide +kernel)
theorem aw_512 : Cond.instanceMethod yJx4a65c_add_9ea2d ∈ AW := aw_of (List.mem_of_getElem? (i := 353) (by decide +kernel)) (by decide +kernel)
theorem aw_513 : Cond.selects RJx4a65c yJx4a65c_add_9ea2d yJx4a65c_add_9ea2d ∈ AW := aw_of (List.mem_of_getElem? (i := 354) (by decide +kernel)) (by decide +kernel)
set_option maxRecDepth 100000 in
theorem aw_514 : Cond.code yJx4a65c_add_9ea2d cJx4a65c_add_9ea2d 2 (some .boolean) ∈ AW := aw_of (List.mem_of_getElem? (i := 355) rfl) (by decide +kernel)
theorem cw_RX3_66 : e_cwV RX3 66 RJx4a65c yJx4a65c_add_9ea2d cJx4a65c_add_9ea2d 2 (some .boolean) 1 := ⟨aw_511, aw_512, aw_513, aw_135, aw_514, rfl, by decide +kernel, by decide +kernel, by decide +kernel⟩
theorem aw_516 : Cond.instantiable RX1 5 ∈ AW := aw_of (List.mem_of_getElem? (i := 496) (by decide +kernel)) (by decide +kernel)
theorem aw_517 : Cond.methodLink RX3 133 yX1_init ∈ AW := aw_of (List.mem_of_getElem? (i := 497) (by decide +kernel)) (by decide +kernel)
theorem aw_518 : Cond.instanceMethod yX1_init ∈ AW := aw_of (List.mem_of_getElem? (i := 498) (by decide +kernel)) (by decide +kernel)
set_option maxRecDepth 100000 in
theorem aw_519 : Cond.code yX1_init cX1_init 5 none ∈ AW := aw_of (List.mem_of_getElem? (i := 499) rfl) (by decide +kernel)
theorem cwi_RX3_133 : e_cwI RX3 133 yX1_init cX1_init 5 4 := ⟨aw_517, aw_518, aw_144, aw_519, rfl, by decide +kernel, by decide +kernel, by decide +kernel⟩
def cDancerC (v : eV) (n : Nat) (x y : Int32) : Int32 := if (cOn x && cOn y) = true then (if (!decide (n < 8) || cFirstP v x y n) = true then 2 else 0) else 1
def cLiftC (v : eV) (n n2 : Nat) (c d a b : Int32) : Int32 := if (cOkC c && cOkN n d && cOkN n a && cOkN n b) = true then (if (decide (d = a) || decide (d = b) || decide (a = b)) = true then 2 else if (cOut v (nN d) || cOut v (nN a) || cOut v (nN b) || !decide (n2 < 12)) = true then 3 else 0) else 1
theorem kup_ne {kd : Nat → Nat} {n K K' m : Nat} (h : kup kd n K m = K') (hK : K ≠ K') (u : ∀ m, kd m ≠ K') : False := by
  by_cases e : m = n
  · subst e
    rw [kup_s] at h
    exact hK h
  · have : kup kd n K m = kd m := if_neg e
    rw [this] at h
    exact u m h
set_option maxRecDepth 100000 in
set_option maxHeartbeats 4000000 in
theorem c_dancer1 {l : Launch} (hl9 : l.stackTraces = false) {X : eD} {z0 t0 mi : Nat} {ad kd sp : Nat → Nat} {v : eV} {a0 : Nat} (hc : cK kd sp) (x y : Int32) (h20 : sp 0 < 8 → ∀ k, k < 7 → kd (20 + 7 * sp 0 + k) = 0) (ha : sp 0 < 8 → ∀ k, k < 7 → ad (20 + 7 * sp 0 + k) = a0 + k) (u6 : ∀ m, kd m = 6 → m = 1) (hcap : sp 2 = 10) (hs8z : 0 < sp 0) (u7 : ∀ m, kd m = 7 → m = sp 5) (hp5 : sp 5 = 8) : eTA l yX3_dancer cX3_dancer 3 (some .int) 14 60 2000 [.ref (ad 0), .int x, .int y] X z0 t0 mi ad kd sp v a0 (some (.int (nI (sp 0)))) (kup (kup (kup (kup (kup (kup (kup (kup (kup (kup kd (20 + 7 * sp 0) 13) ((20 + 7 * sp 0) + 1) 3) (((20 + 7 * sp 0) + 1) + 1) 84) (((20 + 7 * sp 0) + 1) + 2) 84) ((20 + 7 * sp 0) + 1) 2) ((20 + 7 * sp 0) + 4) 3) (((20 + 7 * sp 0) + 4) + 1) 84) (((20 + 7 * sp 0) + 4) + 2) 84) ((20 + 7 * sp 0) + 4) 2) (20 + 7 * sp 0) 1) (upN (upN sp 7 (sp 0 + 1)) 0 (sp 0 + 1)) (e_set ((e_set (cFill (e_set (e_set (e_z (e_set (e_z (e_z (e_set (cFill (e_set (e_set (e_z (e_set (e_z (e_z (e_set (e_set (e_z v (20 + 7 * sp 0)) (20 + 7 * sp 0) 2 0) (20 + 7 * sp 0) 3 0) ((20 + 7 * sp 0) + 1)) (((20 + 7 * sp 0) + 1) + 1)) ((20 + 7 * sp 0) + 1) 21 1) (((20 + 7 * sp 0) + 1) + 2)) ((20 + 7 * sp 0) + 1) 22 1) ((20 + 7 * sp 0) + 1) 0 x) (((20 + 7 * sp 0) + 1) + 2) x 64) (20 + 7 * sp 0) 21 1) ((20 + 7 * sp 0) + 4)) (((20 + 7 * sp 0) + 4) + 1)) ((20 + 7 * sp 0) + 4) 21 1) (((20 + 7 * sp 0) + 4) + 2)) ((20 + 7 * sp 0) + 4) 22 1) ((20 + 7 * sp 0) + 4) 0 y) (((20 + 7 * sp 0) + 4) + 2) y 64) (20 + 7 * sp 0) 22 1)) 1 0 ((e_set (cFill (e_set (e_set (e_z (e_set (e_z (e_z (e_set (cFill (e_set (e_set (e_z (e_set (e_z (e_z (e_set (e_set (e_z v (20 + 7 * sp 0)) (20 + 7 * sp 0) 2 0) (20 + 7 * sp 0) 3 0) ((20 + 7 * sp 0) + 1)) (((20 + 7 * sp 0) + 1) + 1)) ((20 + 7 * sp 0) + 1) 21 1) (((20 + 7 * sp 0) + 1) + 2)) ((20 + 7 * sp 0) + 1) 22 1) ((20 + 7 * sp 0) + 1) 0 x) (((20 + 7 * sp 0) + 1) + 2) x 64) (20 + 7 * sp 0) 21 1) ((20 + 7 * sp 0) + 4)) (((20 + 7 * sp 0) + 4) + 1)) ((20 + 7 * sp 0) + 4) 21 1) (((20 + 7 * sp 0) + 4) + 2)) ((20 + 7 * sp 0) + 4) 22 1) ((20 + 7 * sp 0) + 4) 0 y) (((20 + 7 * sp 0) + 4) + 2) y 64) (20 + 7 * sp 0) 22 1) 1 0 + 1)) (cDancerC v (sp 0) x y = 0) (xP [(xIO, 1), (xIS, 2)] (cDancerC v (sp 0) x y)) := by
  refine e_thrA (by decide +kernel) (Nat.le_of_ble_eq_true rfl) ?_
  intro p e s m args below meth c hx hb hml hown hts hW hT hex hlocks Q hQ hret ls hl
  obtain ⟨⟨hz, hP, hI, hK⟩, hsz, hL⟩ := hW
  have hl : lv_has ls 3 [(0, .ref (ad 0)), (1, .int x), (2, .int y)] := hl
  have hS : va_S (e_A z0) s.heap s.heap [] := va_S.rf
  have hc0 := hc.2.2.2.2.2
  have hs8 := hc0.1
  have hs12 := hc0.2.1
  have hq2 := hc0.2.2.1
  have hq3 := hc0.2.2.2.1
  have hq4 := hc0.2.2.2.2.1
  have hq5 := hc0.2.2.2.2.2.1
  have hq6 := hc0.2.2.2.2.2.2.1
  have hq7 := hc0.2.2.2.2.2.2.2
  refine lv_iload_n hx hb dX3_dancer_0 rfl (lv_at hl 1 rfl) ?_
  refine e_cS (As := [.int x]) (rest := []) hx hb hml hown hts (c_X3_isOnStage (l := l) (v := v) x) cw_RX3_35 (by decide) (by decide) hz hP hI hK rfl hl.1 rfl (Nat.le_of_ble_eq_true rfl) ⟨by decide, by decide⟩ dX3_dancer_1 ?_
  refine lv_if_eq (tgt := 14) hx hb dX3_dancer_4 (by decide) (fun c_1 => ?_) (fun c_1 => ?_)
  · have nc_1 : (cOn x) = false := bI_0.mp c_1
    exact e_throw (text := "no such place of the stage") hQ hx hb hml hl9 hown hts hT hex hlocks hP hS tw_IO (by decide +kernel) (⟨1, .head _, by first | (simp [cDancerC, nc_1]; done) | (simp_all [cDancerC]; done)⟩) hl.1 (by decide) (Nat.le_of_ble_eq_true rfl) (by decide) (by decide) (by decide) (by decide) dX3_dancer_14 dX3_dancer_17 dX3_dancer_18 dX3_dancer_20 dX3_dancer_23
  · have nc_1 : (cOn x) = true := bI_n0.mp c_1
    refine lv_iload_n hx hb dX3_dancer_7 rfl (lv_at hl 2 rfl) ?_
    refine e_cS (As := [.int y]) (rest := []) hx hb hml hown hts (c_X3_isOnStage (l := l) (v := v) y) cw_RX3_35 (by decide) (by decide) hz hP hI hK rfl hl.1 rfl (Nat.le_of_ble_eq_true rfl) ⟨by decide, by decide⟩ dX3_dancer_8 ?_
    refine lv_if_ne (tgt := 24) hx hb dX3_dancer_11 (by decide) (fun c_2 => ?_) (fun c_2 => ?_)
    · have nc_2 : (cOn y) = true := bI_n0.mp c_2
      refine lv_aload_n hx hb dX3_dancer_24 rfl (lv_at hl 0 rfl) ?_
      refine e_getf hx hb hts inX3 hown hK hP 0 5 hc.1.1 (by decide) rfl rfl 0 (by decide) aw_194 (fun _ h => h) rfl dX3_dancer_25 ?_
      refine e_cV (As := []) (rest := []) hx hb hml hown hts 1 (c_size1 (l := l) (v := v) hc.1.2.1) cw_RX3_46 (by decide) (by decide) hz hP hI hK hc.1.2.1 (by decide) rfl rfl rfl hl.1 rfl (Nat.le_of_ble_eq_true rfl) ⟨by decide, by decide⟩ dX3_dancer_28 ?_
      refine lv_bipush (v := 8) hx hb dX3_dancer_31 (by decide) ?_
      refine lv_icmp_lt (tgt := 46) hx hb dX3_dancer_33 (by decide) (fun c_3 => ?_) (fun c_3 => ?_)
      · have nc_3 : (sp 0) < 8 := (nI_ltI (a := (sp 0)) (b := 8) (by omega) (by omega)).mp c_3
        refine lv_aload_n hx hb dX3_dancer_46 rfl (lv_at hl 0 rfl) ?_
        refine lv_iload_n hx hb dX3_dancer_47 rfl (lv_at hl 1 rfl) ?_
        refine lv_iload_n hx hb dX3_dancer_48 rfl (lv_at hl 2 rfl) ?_
        refine e_cV (As := [.int x, .int y]) (rest := []) hx hb hml hown hts 0 (c_X3_isFirstPlace (l := l) (v := v) hc x y) cw_RX3_55 (by decide) (by decide) hz hP hI hK hc.1.1 (by decide) rfl rfl rfl hl.1 rfl (Nat.le_of_ble_eq_true rfl) ⟨by decide, by decide⟩ dX3_dancer_49 ?_
        refine lv_if_eq (tgt := 65) hx hb dX3_dancer_52 (by decide) (fun c_4 => ?_) (fun c_4 => ?_)
        · have nc_4 : (cFirstP v x y (sp 0)) = false := bI_0.mp c_4
          have hs9 : sp 0 < 8 := by omega
          refine lv_aload_n hx hb dX3_dancer_65 rfl (lv_at hl 0 rfl) ?_
          refine e_getf hx hb hts inX3 hown hK hP 0 5 hc.1.1 (by decide) rfl rfl 0 (by decide) aw_194 (fun _ h => h) rfl dX3_dancer_66 ?_
          refine e_new hx hb hts inX0 tyX0 tyX0_ok hown aw_200 aw_506 aw_175 hK hP hI hz hS (20 + 7 * sp 0) 13 (h20 hs9 0 (by decide)) (((ha hs9 0 (by decide)) : ad (20 + 7 * sp 0) = _).trans (by omega)) (ci := 3) rfl rfl (fun j hj => by rcases (show j = 0 ∨ j = 1 ∨ j = 2 ∨ j = 3 by omega) with rfl | rfl | rfl | rfl <;> (simp only [e_z_s, e_rr0]; rfl)) (by decide) (by decide) dX3_dancer_69 (fun H hz1 hP hI hS => ?_)
          have hsz : H.size = a0 + 1 := by omega
          have hz : z0 ≤ H.size := by omega
          refine lv_dup hx hb dX3_dancer_72 rfl ?_
          refine lv_iload_n hx hb dX3_dancer_73 rfl (lv_at hl 1 rfl) ?_
          refine lv_iload_n hx hb dX3_dancer_74 rfl (lv_at hl 2 rfl) ?_
          refine e_cIA (As := [.int x, .int y]) (rest := [.ref (ad (20 + 7 * sp 0)), .ref (ad 1)]) hx hb hml hown hts hL (20 + 7 * sp 0) (c_X0_init (l := l) (v := (e_z v (20 + 7 * sp 0))) (20 + 7 * sp 0) x y kup_s (fun k hk => kup_n (by omega) (h20 hs9 (1 + k) (by omega) |> fun h => by rw [← Nat.add_assoc] at h; exact h)) (fun k hk => (ha hs9 (1 + k) (by omega) |> fun h => by rw [← Nat.add_assoc] at h; omega))) cwi_RX3_63 (by decide) (by decide) hz hsz hP hI hK hS rfl hl.1 rfl (Nat.le_of_ble_eq_true rfl) ⟨by decide, by decide⟩ dX3_dancer_75 (fun H locs hz hz1 hP hI hS => ?_)
          have hsz : H.size = a0 + 7 := by omega
          have hz : z0 ≤ H.size := by omega
          refine e_cVA (As := [.ref (ad (20 + 7 * sp 0))]) (rest := []) hx hb hml hown hts hL 1 (c_add_D1 (l := l) (v := (e_set (cFill (e_set (e_set (e_z (e_set (e_z (e_z (e_set (cFill (e_set (e_set (e_z (e_set (e_z (e_z (e_set (e_set (e_z v (20 + 7 * sp 0)) (20 + 7 * sp 0) 2 0) (20 + 7 * sp 0) 3 0) ((20 + 7 * sp 0) + 1)) (((20 + 7 * sp 0) + 1) + 1)) ((20 + 7 * sp 0) + 1) 21 1) (((20 + 7 * sp 0) + 1) + 2)) ((20 + 7 * sp 0) + 1) 22 1) ((20 + 7 * sp 0) + 1) 0 x) (((20 + 7 * sp 0) + 1) + 2) x 64) (20 + 7 * sp 0) 21 1) ((20 + 7 * sp 0) + 4)) (((20 + 7 * sp 0) + 4) + 1)) ((20 + 7 * sp 0) + 4) 21 1) (((20 + 7 * sp 0) + 4) + 2)) ((20 + 7 * sp 0) + 4) 22 1) ((20 + 7 * sp 0) + 4) 0 y) (((20 + 7 * sp 0) + 4) + 2) y 64) (20 + 7 * sp 0) 22 1)) (kup_n (by omega) (kup_n (by omega) (kup_n (by omega) (kup_n (by omega) (kup_n (by omega) (kup_n (by omega) (kup_n (by omega) (kup_n (by omega) (kup_n (by omega) (kup_n (by omega) hc.1.2.1)))))))))) (fun m h => kup_u h (by decide) (fun m h => kup_u h (by decide) (fun m h => kup_u h (by decide) (fun m h => kup_u h (by decide) (fun m h => kup_u h (by decide) (fun m h => kup_u h (by decide) (fun m h => kup_u h (by decide) (fun m h => kup_u h (by decide) (fun m h => kup_u h (by decide) (fun m h => kup_u h (by decide) u6)))))))))) ((kup_n (by omega) (kup_n (by omega) (kup_n (by omega) (kup_n (by omega) (kup_n (by omega) (kup_n (by omega) (kup_n (by omega) (kup_n (by omega) (kup_n (by omega) (kup_n (by omega) (hc.2.1 hs8z)))))))))))) (fun m h => kup_u h (by decide) (fun m h => kup_u h (by decide) (fun m h => kup_u h (by decide) (fun m h => kup_u h (by decide) (fun m h => kup_u h (by decide) (fun m h => kup_u h (by decide) (fun m h => kup_u h (by decide) (fun m h => kup_u h (by decide) (fun m h => kup_u h (by decide) (fun m h => kup_u h (by decide) u7)))))))))) (by omega) (by omega) (by omega) kup_s) cw_RX3_66 (by decide) (by decide) hz hsz hP hI hK hS (kup_n (by omega) (kup_n (by omega) (kup_n (by omega) (kup_n (by omega) (kup_n (by omega) (kup_n (by omega) (kup_n (by omega) (kup_n (by omega) (kup_n (by omega) (kup_n (by omega) hc.1.2.1)))))))))) (by decide) rfl rfl rfl hl.1 rfl (Nat.le_of_ble_eq_true rfl) ⟨by decide, by decide⟩ dX3_dancer_78 (fun H locs hz hz1 hP hI hS => ?_)
          have hsz : H.size = a0 + 7 := by omega
          have hz : z0 ≤ H.size := by omega
          refine lv_pop hx hb dX3_dancer_81 rfl ?_
          refine lv_aload_n hx hb dX3_dancer_82 rfl (lv_at hl 0 rfl) ?_
          refine e_getf hx hb hts inX3 hown hK hP 0 5 (kup_n (by omega) (kup_n (by omega) (kup_n (by omega) (kup_n (by omega) (kup_n (by omega) (kup_n (by omega) (kup_n (by omega) (kup_n (by omega) (kup_n (by omega) (kup_n (by omega) hc.1.1)))))))))) (by decide) rfl rfl 0 (by decide) aw_194 (fun _ h => h) rfl dX3_dancer_83 ?_
          refine e_cV (As := []) (rest := []) hx hb hml hown hts 1 (c_size1 (l := l) (v := (e_set (e_set (cFill (e_set (e_set (e_z (e_set (e_z (e_z (e_set (cFill (e_set (e_set (e_z (e_set (e_z (e_z (e_set (e_set (e_z v (20 + 7 * sp 0)) (20 + 7 * sp 0) 2 0) (20 + 7 * sp 0) 3 0) ((20 + 7 * sp 0) + 1)) (((20 + 7 * sp 0) + 1) + 1)) ((20 + 7 * sp 0) + 1) 21 1) (((20 + 7 * sp 0) + 1) + 2)) ((20 + 7 * sp 0) + 1) 22 1) ((20 + 7 * sp 0) + 1) 0 x) (((20 + 7 * sp 0) + 1) + 2) x 64) (20 + 7 * sp 0) 21 1) ((20 + 7 * sp 0) + 4)) (((20 + 7 * sp 0) + 4) + 1)) ((20 + 7 * sp 0) + 4) 21 1) (((20 + 7 * sp 0) + 4) + 2)) ((20 + 7 * sp 0) + 4) 22 1) ((20 + 7 * sp 0) + 4) 0 y) (((20 + 7 * sp 0) + 4) + 2) y 64) (20 + 7 * sp 0) 22 1) 1 0 ((e_set (cFill (e_set (e_set (e_z (e_set (e_z (e_z (e_set (cFill (e_set (e_set (e_z (e_set (e_z (e_z (e_set (e_set (e_z v (20 + 7 * sp 0)) (20 + 7 * sp 0) 2 0) (20 + 7 * sp 0) 3 0) ((20 + 7 * sp 0) + 1)) (((20 + 7 * sp 0) + 1) + 1)) ((20 + 7 * sp 0) + 1) 21 1) (((20 + 7 * sp 0) + 1) + 2)) ((20 + 7 * sp 0) + 1) 22 1) ((20 + 7 * sp 0) + 1) 0 x) (((20 + 7 * sp 0) + 1) + 2) x 64) (20 + 7 * sp 0) 21 1) ((20 + 7 * sp 0) + 4)) (((20 + 7 * sp 0) + 4) + 1)) ((20 + 7 * sp 0) + 4) 21 1) (((20 + 7 * sp 0) + 4) + 2)) ((20 + 7 * sp 0) + 4) 22 1) ((20 + 7 * sp 0) + 4) 0 y) (((20 + 7 * sp 0) + 4) + 2) y 64) (20 + 7 * sp 0) 22 1) 1 0 + 1))) (kup_n (by omega) (kup_n (by omega) (kup_n (by omega) (kup_n (by omega) (kup_n (by omega) (kup_n (by omega) (kup_n (by omega) (kup_n (by omega) (kup_n (by omega) (kup_n (by omega) hc.1.2.1))))))))))) cw_RX3_46 (by decide) (by decide) hz hP hI hK (kup_n (by omega) (kup_n (by omega) (kup_n (by omega) (kup_n (by omega) (kup_n (by omega) (kup_n (by omega) (kup_n (by omega) (kup_n (by omega) (kup_n (by omega) (kup_n (by omega) hc.1.2.1)))))))))) (by decide) rfl rfl rfl hl.1 rfl (Nat.le_of_ble_eq_true rfl) ⟨by decide, by decide⟩ dX3_dancer_86 ?_
          refine e_nrm (y := nI (sp 0 + 1)) rfl ?_
          refine lv_iconst (v := 1) hx hb dX3_dancer_89 (by decide) ?_
          refine lv_isub hx hb dX3_dancer_90 ?_
          refine e_nrm (y := (nI ((sp 0 + 1) - 1))) (pk_sub (a := (sp 0 + 1)) (b := 1) (by omega)) ?_
          exact hret _ _ _ _ _ _ _ _ _ _ (show (kup (kup (kup (kup (kup (kup (kup (kup (kup (kup kd (20 + 7 * sp 0) 13) ((20 + 7 * sp 0) + 1) 3) (((20 + 7 * sp 0) + 1) + 1) 84) (((20 + 7 * sp 0) + 1) + 2) 84) ((20 + 7 * sp 0) + 1) 2) ((20 + 7 * sp 0) + 4) 3) (((20 + 7 * sp 0) + 4) + 1) 84) (((20 + 7 * sp 0) + 4) + 2) 84) ((20 + 7 * sp 0) + 4) 2) (20 + 7 * sp 0) 1) = (kup (kup (kup (kup (kup (kup (kup (kup (kup (kup kd (20 + 7 * sp 0) 13) ((20 + 7 * sp 0) + 1) 3) (((20 + 7 * sp 0) + 1) + 1) 84) (((20 + 7 * sp 0) + 1) + 2) 84) ((20 + 7 * sp 0) + 1) 2) ((20 + 7 * sp 0) + 4) 3) (((20 + 7 * sp 0) + 4) + 1) 84) (((20 + 7 * sp 0) + 4) + 2) 84) ((20 + 7 * sp 0) + 4) 2) (20 + 7 * sp 0) 1) from rfl) (show (upN (upN sp 7 (sp 0 + 1)) 0 (sp 0 + 1)) = upN (upN sp 7 (sp 0 + 1)) 0 (sp 0 + 1) from rfl) (show (nI ((sp 0 + 1) - 1)) = nI (sp 0) from by rw [Nat.add_sub_cancel]) (show (e_set (e_set (cFill (e_set (e_set (e_z (e_set (e_z (e_z (e_set (cFill (e_set (e_set (e_z (e_set (e_z (e_z (e_set (e_set (e_z v (20 + 7 * sp 0)) (20 + 7 * sp 0) 2 0) (20 + 7 * sp 0) 3 0) ((20 + 7 * sp 0) + 1)) (((20 + 7 * sp 0) + 1) + 1)) ((20 + 7 * sp 0) + 1) 21 1) (((20 + 7 * sp 0) + 1) + 2)) ((20 + 7 * sp 0) + 1) 22 1) ((20 + 7 * sp 0) + 1) 0 x) (((20 + 7 * sp 0) + 1) + 2) x 64) (20 + 7 * sp 0) 21 1) ((20 + 7 * sp 0) + 4)) (((20 + 7 * sp 0) + 4) + 1)) ((20 + 7 * sp 0) + 4) 21 1) (((20 + 7 * sp 0) + 4) + 2)) ((20 + 7 * sp 0) + 4) 22 1) ((20 + 7 * sp 0) + 4) 0 y) (((20 + 7 * sp 0) + 4) + 2) y 64) (20 + 7 * sp 0) 22 1) 1 0 ((e_set (cFill (e_set (e_set (e_z (e_set (e_z (e_z (e_set (cFill (e_set (e_set (e_z (e_set (e_z (e_z (e_set (e_set (e_z v (20 + 7 * sp 0)) (20 + 7 * sp 0) 2 0) (20 + 7 * sp 0) 3 0) ((20 + 7 * sp 0) + 1)) (((20 + 7 * sp 0) + 1) + 1)) ((20 + 7 * sp 0) + 1) 21 1) (((20 + 7 * sp 0) + 1) + 2)) ((20 + 7 * sp 0) + 1) 22 1) ((20 + 7 * sp 0) + 1) 0 x) (((20 + 7 * sp 0) + 1) + 2) x 64) (20 + 7 * sp 0) 21 1) ((20 + 7 * sp 0) + 4)) (((20 + 7 * sp 0) + 4) + 1)) ((20 + 7 * sp 0) + 4) 21 1) (((20 + 7 * sp 0) + 4) + 2)) ((20 + 7 * sp 0) + 4) 22 1) ((20 + 7 * sp 0) + 4) 0 y) (((20 + 7 * sp 0) + 4) + 2) y 64) (20 + 7 * sp 0) 22 1) 1 0 + 1)) = e_set ((e_set (cFill (e_set (e_set (e_z (e_set (e_z (e_z (e_set (cFill (e_set (e_set (e_z (e_set (e_z (e_z (e_set (e_set (e_z v (20 + 7 * sp 0)) (20 + 7 * sp 0) 2 0) (20 + 7 * sp 0) 3 0) ((20 + 7 * sp 0) + 1)) (((20 + 7 * sp 0) + 1) + 1)) ((20 + 7 * sp 0) + 1) 21 1) (((20 + 7 * sp 0) + 1) + 2)) ((20 + 7 * sp 0) + 1) 22 1) ((20 + 7 * sp 0) + 1) 0 x) (((20 + 7 * sp 0) + 1) + 2) x 64) (20 + 7 * sp 0) 21 1) ((20 + 7 * sp 0) + 4)) (((20 + 7 * sp 0) + 4) + 1)) ((20 + 7 * sp 0) + 4) 21 1) (((20 + 7 * sp 0) + 4) + 2)) ((20 + 7 * sp 0) + 4) 22 1) ((20 + 7 * sp 0) + 4) 0 y) (((20 + 7 * sp 0) + 4) + 2) y 64) (20 + 7 * sp 0) 22 1)) 1 0 ((e_set (cFill (e_set (e_set (e_z (e_set (e_z (e_z (e_set (cFill (e_set (e_set (e_z (e_set (e_z (e_z (e_set (e_set (e_z v (20 + 7 * sp 0)) (20 + 7 * sp 0) 2 0) (20 + 7 * sp 0) 3 0) ((20 + 7 * sp 0) + 1)) (((20 + 7 * sp 0) + 1) + 1)) ((20 + 7 * sp 0) + 1) 21 1) (((20 + 7 * sp 0) + 1) + 2)) ((20 + 7 * sp 0) + 1) 22 1) ((20 + 7 * sp 0) + 1) 0 x) (((20 + 7 * sp 0) + 1) + 2) x 64) (20 + 7 * sp 0) 21 1) ((20 + 7 * sp 0) + 4)) (((20 + 7 * sp 0) + 4) + 1)) ((20 + 7 * sp 0) + 4) 21 1) (((20 + 7 * sp 0) + 4) + 2)) ((20 + 7 * sp 0) + 4) 22 1) ((20 + 7 * sp 0) + 4) 0 y) (((20 + 7 * sp 0) + 4) + 2) y 64) (20 + 7 * sp 0) 22 1) 1 0 + 1) from rfl) (by first | (simp [cDancerC, nc_1, nc_2, nc_3, nc_4]; done) | (simp_all [cDancerC]; done)) (by decide) (by decide) hP hI hS dX3_dancer_91
        · have nc_4 : (cFirstP v x y (sp 0)) = true := bI_n0.mp c_4
          exact e_throw (text := "the first place of another one") hQ hx hb hml hl9 hown hts hT hex hlocks hP hS tw_IS (by decide +kernel) (⟨2, .tail _ (.head _), by first | (simp [cDancerC, nc_1, nc_2, nc_3, nc_4]; done) | (simp_all [cDancerC]; done)⟩) hl.1 (by decide) (Nat.le_of_ble_eq_true rfl) (by decide) (by decide) (by decide) (by decide) dX3_dancer_55 dX3_dancer_58 dX3_dancer_59 dX3_dancer_61 dX3_dancer_64
      · have nc_3 : ¬ (sp 0) < 8 := fun h => c_3 ((nI_ltI (a := (sp 0)) (b := 8) (by omega) (by omega)).mpr h)
        exact e_throw (text := "no more dancers") hQ hx hb hml hl9 hown hts hT hex hlocks hP hS tw_IS (by decide +kernel) (⟨2, .tail _ (.head _), by first | (simp [cDancerC, nc_1, nc_2, nc_3]; done) | (simp_all [cDancerC]; done)⟩) hl.1 (by decide) (Nat.le_of_ble_eq_true rfl) (by decide) (by decide) (by decide) (by decide) dX3_dancer_36 dX3_dancer_39 dX3_dancer_40 dX3_dancer_42 dX3_dancer_45
    · have nc_2 : (cOn y) = false := bI_0.mp c_2
      exact e_throw (text := "no such place of the stage") hQ hx hb hml hl9 hown hts hT hex hlocks hP hS tw_IO (by decide +kernel) (⟨1, .head _, by first | (simp [cDancerC, nc_1, nc_2]; done) | (simp_all [cDancerC]; done)⟩) hl.1 (by decide) (Nat.le_of_ble_eq_true rfl) (by decide) (by decide) (by decide) (by decide) dX3_dancer_14 dX3_dancer_17 dX3_dancer_18 dX3_dancer_20 dX3_dancer_23

set_option maxRecDepth 100000 in
set_option maxHeartbeats 4000000 in
theorem c_dancer0 {l : Launch} (hl9 : l.stackTraces = false) {X : eD} {z0 t0 mi : Nat} {ad kd sp : Nat → Nat} {v : eV} {a0 : Nat} (hc : cK kd sp) (x y : Int32) (h20 : sp 0 < 8 → ∀ k, k < 7 → kd (20 + 7 * sp 0 + k) = 0) (ha : sp 0 < 8 → ∀ k, k < 7 → ad (20 + 7 * sp 0 + k) = a0 + k) (u6 : ∀ m, kd m = 6 → m = 1) (hcap : sp 2 = 10) (hs8z : sp 0 = 0) (u7 : ∀ m, kd m ≠ 7) (h8 : kd 8 = 0) (hp : sp 5 = 11) (h11 : ad 11 = t0) (ha8 : ad 8 = a0 + 7) : eTA l yX3_dancer cX3_dancer 3 (some .int) 14 60 2000 [.ref (ad 0), .int x, .int y] X z0 t0 mi ad kd sp v a0 (some (.int (nI (sp 0)))) (kup (kup (kup (kup (kup (kup (kup (kup (kup (kup (kup kd (20 + 7 * sp 0) 13) ((20 + 7 * sp 0) + 1) 3) (((20 + 7 * sp 0) + 1) + 1) 84) (((20 + 7 * sp 0) + 1) + 2) 84) ((20 + 7 * sp 0) + 1) 2) ((20 + 7 * sp 0) + 4) 3) (((20 + 7 * sp 0) + 4) + 1) 84) (((20 + 7 * sp 0) + 4) + 2) 84) ((20 + 7 * sp 0) + 4) 2) (20 + 7 * sp 0) 1) 8 7) (upN (upN (upN sp 5 8) 7 (sp 0 + 1)) 0 (sp 0 + 1)) (e_z (e_set ((e_set (cFill (e_set (e_set (e_z (e_set (e_z (e_z (e_set (cFill (e_set (e_set (e_z (e_set (e_z (e_z (e_set (e_set (e_z v (20 + 7 * sp 0)) (20 + 7 * sp 0) 2 0) (20 + 7 * sp 0) 3 0) ((20 + 7 * sp 0) + 1)) (((20 + 7 * sp 0) + 1) + 1)) ((20 + 7 * sp 0) + 1) 21 1) (((20 + 7 * sp 0) + 1) + 2)) ((20 + 7 * sp 0) + 1) 22 1) ((20 + 7 * sp 0) + 1) 0 x) (((20 + 7 * sp 0) + 1) + 2) x 64) (20 + 7 * sp 0) 21 1) ((20 + 7 * sp 0) + 4)) (((20 + 7 * sp 0) + 4) + 1)) ((20 + 7 * sp 0) + 4) 21 1) (((20 + 7 * sp 0) + 4) + 2)) ((20 + 7 * sp 0) + 4) 22 1) ((20 + 7 * sp 0) + 4) 0 y) (((20 + 7 * sp 0) + 4) + 2) y 64) (20 + 7 * sp 0) 22 1)) 1 0 ((e_set (cFill (e_set (e_set (e_z (e_set (e_z (e_z (e_set (cFill (e_set (e_set (e_z (e_set (e_z (e_z (e_set (e_set (e_z v (20 + 7 * sp 0)) (20 + 7 * sp 0) 2 0) (20 + 7 * sp 0) 3 0) ((20 + 7 * sp 0) + 1)) (((20 + 7 * sp 0) + 1) + 1)) ((20 + 7 * sp 0) + 1) 21 1) (((20 + 7 * sp 0) + 1) + 2)) ((20 + 7 * sp 0) + 1) 22 1) ((20 + 7 * sp 0) + 1) 0 x) (((20 + 7 * sp 0) + 1) + 2) x 64) (20 + 7 * sp 0) 21 1) ((20 + 7 * sp 0) + 4)) (((20 + 7 * sp 0) + 4) + 1)) ((20 + 7 * sp 0) + 4) 21 1) (((20 + 7 * sp 0) + 4) + 2)) ((20 + 7 * sp 0) + 4) 22 1) ((20 + 7 * sp 0) + 4) 0 y) (((20 + 7 * sp 0) + 4) + 2) y 64) (20 + 7 * sp 0) 22 1) 1 0 + 1)) 8) (cDancerC v (sp 0) x y = 0) (xP [(xIO, 1), (xIS, 2)] (cDancerC v (sp 0) x y)) := by
  refine e_thrA (by decide +kernel) (Nat.le_of_ble_eq_true rfl) ?_
  intro p e s m args below meth c hx hb hml hown hts hW hT hex hlocks Q hQ hret ls hl
  obtain ⟨⟨hz, hP, hI, hK⟩, hsz, hL⟩ := hW
  have hl : lv_has ls 3 [(0, .ref (ad 0)), (1, .int x), (2, .int y)] := hl
  have hS : va_S (e_A z0) s.heap s.heap [] := va_S.rf
  have hc0 := hc.2.2.2.2.2
  have hs8 := hc0.1
  have hs12 := hc0.2.1
  have hq2 := hc0.2.2.1
  have hq3 := hc0.2.2.2.1
  have hq4 := hc0.2.2.2.2.1
  have hq5 := hc0.2.2.2.2.2.1
  have hq6 := hc0.2.2.2.2.2.2.1
  have hq7 := hc0.2.2.2.2.2.2.2
  refine lv_iload_n hx hb dX3_dancer_0 rfl (lv_at hl 1 rfl) ?_
  refine e_cS (As := [.int x]) (rest := []) hx hb hml hown hts (c_X3_isOnStage (l := l) (v := v) x) cw_RX3_35 (by decide) (by decide) hz hP hI hK rfl hl.1 rfl (Nat.le_of_ble_eq_true rfl) ⟨by decide, by decide⟩ dX3_dancer_1 ?_
  refine lv_if_eq (tgt := 14) hx hb dX3_dancer_4 (by decide) (fun c_1 => ?_) (fun c_1 => ?_)
  · have nc_1 : (cOn x) = false := bI_0.mp c_1
    exact e_throw (text := "no such place of the stage") hQ hx hb hml hl9 hown hts hT hex hlocks hP hS tw_IO (by decide +kernel) (⟨1, .head _, by first | (simp [cDancerC, nc_1]; done) | (simp_all [cDancerC]; done)⟩) hl.1 (by decide) (Nat.le_of_ble_eq_true rfl) (by decide) (by decide) (by decide) (by decide) dX3_dancer_14 dX3_dancer_17 dX3_dancer_18 dX3_dancer_20 dX3_dancer_23
  · have nc_1 : (cOn x) = true := bI_n0.mp c_1
    refine lv_iload_n hx hb dX3_dancer_7 rfl (lv_at hl 2 rfl) ?_
    refine e_cS (As := [.int y]) (rest := []) hx hb hml hown hts (c_X3_isOnStage (l := l) (v := v) y) cw_RX3_35 (by decide) (by decide) hz hP hI hK rfl hl.1 rfl (Nat.le_of_ble_eq_true rfl) ⟨by decide, by decide⟩ dX3_dancer_8 ?_
    refine lv_if_ne (tgt := 24) hx hb dX3_dancer_11 (by decide) (fun c_2 => ?_) (fun c_2 => ?_)
    · have nc_2 : (cOn y) = true := bI_n0.mp c_2
      refine lv_aload_n hx hb dX3_dancer_24 rfl (lv_at hl 0 rfl) ?_
      refine e_getf hx hb hts inX3 hown hK hP 0 5 hc.1.1 (by decide) rfl rfl 0 (by decide) aw_194 (fun _ h => h) rfl dX3_dancer_25 ?_
      refine e_cV (As := []) (rest := []) hx hb hml hown hts 1 (c_size1 (l := l) (v := v) hc.1.2.1) cw_RX3_46 (by decide) (by decide) hz hP hI hK hc.1.2.1 (by decide) rfl rfl rfl hl.1 rfl (Nat.le_of_ble_eq_true rfl) ⟨by decide, by decide⟩ dX3_dancer_28 ?_
      refine lv_bipush (v := 8) hx hb dX3_dancer_31 (by decide) ?_
      refine lv_icmp_lt (tgt := 46) hx hb dX3_dancer_33 (by decide) (fun c_3 => ?_) (fun c_3 => ?_)
      · have nc_3 : (sp 0) < 8 := (nI_ltI (a := (sp 0)) (b := 8) (by omega) (by omega)).mp c_3
        refine lv_aload_n hx hb dX3_dancer_46 rfl (lv_at hl 0 rfl) ?_
        refine lv_iload_n hx hb dX3_dancer_47 rfl (lv_at hl 1 rfl) ?_
        refine lv_iload_n hx hb dX3_dancer_48 rfl (lv_at hl 2 rfl) ?_
        refine e_cV (As := [.int x, .int y]) (rest := []) hx hb hml hown hts 0 (c_X3_isFirstPlace (l := l) (v := v) hc x y) cw_RX3_55 (by decide) (by decide) hz hP hI hK hc.1.1 (by decide) rfl rfl rfl hl.1 rfl (Nat.le_of_ble_eq_true rfl) ⟨by decide, by decide⟩ dX3_dancer_49 ?_
        refine lv_if_eq (tgt := 65) hx hb dX3_dancer_52 (by decide) (fun c_4 => ?_) (fun c_4 => ?_)
        · have nc_4 : (cFirstP v x y (sp 0)) = false := bI_0.mp c_4
          have hs9 : sp 0 < 8 := by omega
          refine lv_aload_n hx hb dX3_dancer_65 rfl (lv_at hl 0 rfl) ?_
          refine e_getf hx hb hts inX3 hown hK hP 0 5 hc.1.1 (by decide) rfl rfl 0 (by decide) aw_194 (fun _ h => h) rfl dX3_dancer_66 ?_
          refine e_new hx hb hts inX0 tyX0 tyX0_ok hown aw_200 aw_506 aw_175 hK hP hI hz hS (20 + 7 * sp 0) 13 (h20 hs9 0 (by decide)) (((ha hs9 0 (by decide)) : ad (20 + 7 * sp 0) = _).trans (by omega)) (ci := 3) rfl rfl (fun j hj => by rcases (show j = 0 ∨ j = 1 ∨ j = 2 ∨ j = 3 by omega) with rfl | rfl | rfl | rfl <;> (simp only [e_z_s, e_rr0]; rfl)) (by decide) (by decide) dX3_dancer_69 (fun H hz1 hP hI hS => ?_)
          have hsz : H.size = a0 + 1 := by omega
          have hz : z0 ≤ H.size := by omega
          refine lv_dup hx hb dX3_dancer_72 rfl ?_
          refine lv_iload_n hx hb dX3_dancer_73 rfl (lv_at hl 1 rfl) ?_
          refine lv_iload_n hx hb dX3_dancer_74 rfl (lv_at hl 2 rfl) ?_
          refine e_cIA (As := [.int x, .int y]) (rest := [.ref (ad (20 + 7 * sp 0)), .ref (ad 1)]) hx hb hml hown hts hL (20 + 7 * sp 0) (c_X0_init (l := l) (v := (e_z v (20 + 7 * sp 0))) (20 + 7 * sp 0) x y kup_s (fun k hk => kup_n (by omega) (h20 hs9 (1 + k) (by omega) |> fun h => by rw [← Nat.add_assoc] at h; exact h)) (fun k hk => (ha hs9 (1 + k) (by omega) |> fun h => by rw [← Nat.add_assoc] at h; omega))) cwi_RX3_63 (by decide) (by decide) hz hsz hP hI hK hS rfl hl.1 rfl (Nat.le_of_ble_eq_true rfl) ⟨by decide, by decide⟩ dX3_dancer_75 (fun H locs hz hz1 hP hI hS => ?_)
          have hsz : H.size = a0 + 7 := by omega
          have hz : z0 ≤ H.size := by omega
          refine e_cVA (As := [.ref (ad (20 + 7 * sp 0))]) (rest := []) hx hb hml hown hts hL 1 (c_add_D0 (l := l) (v := (e_set (cFill (e_set (e_set (e_z (e_set (e_z (e_z (e_set (cFill (e_set (e_set (e_z (e_set (e_z (e_z (e_set (e_set (e_z v (20 + 7 * sp 0)) (20 + 7 * sp 0) 2 0) (20 + 7 * sp 0) 3 0) ((20 + 7 * sp 0) + 1)) (((20 + 7 * sp 0) + 1) + 1)) ((20 + 7 * sp 0) + 1) 21 1) (((20 + 7 * sp 0) + 1) + 2)) ((20 + 7 * sp 0) + 1) 22 1) ((20 + 7 * sp 0) + 1) 0 x) (((20 + 7 * sp 0) + 1) + 2) x 64) (20 + 7 * sp 0) 21 1) ((20 + 7 * sp 0) + 4)) (((20 + 7 * sp 0) + 4) + 1)) ((20 + 7 * sp 0) + 4) 21 1) (((20 + 7 * sp 0) + 4) + 2)) ((20 + 7 * sp 0) + 4) 22 1) ((20 + 7 * sp 0) + 4) 0 y) (((20 + 7 * sp 0) + 4) + 2) y 64) (20 + 7 * sp 0) 22 1)) (kup_n (by omega) (kup_n (by omega) (kup_n (by omega) (kup_n (by omega) (kup_n (by omega) (kup_n (by omega) (kup_n (by omega) (kup_n (by omega) (kup_n (by omega) (kup_n (by omega) hc.1.2.1)))))))))) (fun m h => kup_u h (by decide) (fun m h => kup_u h (by decide) (fun m h => kup_u h (by decide) (fun m h => kup_u h (by decide) (fun m h => kup_u h (by decide) (fun m h => kup_u h (by decide) (fun m h => kup_u h (by decide) (fun m h => kup_u h (by decide) (fun m h => kup_u h (by decide) (fun m h => kup_u h (by decide) u6)))))))))) (fun m h => kup_ne h (by decide) (fun m h => kup_ne h (by decide) (fun m h => kup_ne h (by decide) (fun m h => kup_ne h (by decide) (fun m h => kup_ne h (by decide) (fun m h => kup_ne h (by decide) (fun m h => kup_ne h (by decide) (fun m h => kup_ne h (by decide) (fun m h => kup_ne h (by decide) (fun m h => kup_ne h (by decide) u7)))))))))) (kup_n (by omega) (kup_n (by omega) (kup_n (by omega) (kup_n (by omega) (kup_n (by omega) (kup_n (by omega) (kup_n (by omega) (kup_n (by omega) (kup_n (by omega) (kup_n (by omega) h8)))))))))) hs8z hp h11 hcap (by omega) ((ha8).trans (by omega)) kup_s) cw_RX3_66 (by decide) (by decide) hz hsz hP hI hK hS (kup_n (by omega) (kup_n (by omega) (kup_n (by omega) (kup_n (by omega) (kup_n (by omega) (kup_n (by omega) (kup_n (by omega) (kup_n (by omega) (kup_n (by omega) (kup_n (by omega) hc.1.2.1)))))))))) (by decide) rfl rfl rfl hl.1 rfl (Nat.le_of_ble_eq_true rfl) ⟨by decide, by decide⟩ dX3_dancer_78 (fun H locs hz hz1 hP hI hS => ?_)
          have hsz : H.size = a0 + 8 := by omega
          have hz : z0 ≤ H.size := by omega
          refine lv_pop hx hb dX3_dancer_81 rfl ?_
          refine lv_aload_n hx hb dX3_dancer_82 rfl (lv_at hl 0 rfl) ?_
          refine e_getf hx hb hts inX3 hown hK hP 0 5 (kup_n (by omega) (kup_n (by omega) (kup_n (by omega) (kup_n (by omega) (kup_n (by omega) (kup_n (by omega) (kup_n (by omega) (kup_n (by omega) (kup_n (by omega) (kup_n (by omega) (kup_n (by omega) hc.1.1))))))))))) (by decide) rfl rfl 0 (by decide) aw_194 (fun _ h => h) rfl dX3_dancer_83 ?_
          refine e_cV (As := []) (rest := []) hx hb hml hown hts 1 (c_size1 (l := l) (v := (e_z (e_set (e_set (cFill (e_set (e_set (e_z (e_set (e_z (e_z (e_set (cFill (e_set (e_set (e_z (e_set (e_z (e_z (e_set (e_set (e_z v (20 + 7 * sp 0)) (20 + 7 * sp 0) 2 0) (20 + 7 * sp 0) 3 0) ((20 + 7 * sp 0) + 1)) (((20 + 7 * sp 0) + 1) + 1)) ((20 + 7 * sp 0) + 1) 21 1) (((20 + 7 * sp 0) + 1) + 2)) ((20 + 7 * sp 0) + 1) 22 1) ((20 + 7 * sp 0) + 1) 0 x) (((20 + 7 * sp 0) + 1) + 2) x 64) (20 + 7 * sp 0) 21 1) ((20 + 7 * sp 0) + 4)) (((20 + 7 * sp 0) + 4) + 1)) ((20 + 7 * sp 0) + 4) 21 1) (((20 + 7 * sp 0) + 4) + 2)) ((20 + 7 * sp 0) + 4) 22 1) ((20 + 7 * sp 0) + 4) 0 y) (((20 + 7 * sp 0) + 4) + 2) y 64) (20 + 7 * sp 0) 22 1) 1 0 ((e_set (cFill (e_set (e_set (e_z (e_set (e_z (e_z (e_set (cFill (e_set (e_set (e_z (e_set (e_z (e_z (e_set (e_set (e_z v (20 + 7 * sp 0)) (20 + 7 * sp 0) 2 0) (20 + 7 * sp 0) 3 0) ((20 + 7 * sp 0) + 1)) (((20 + 7 * sp 0) + 1) + 1)) ((20 + 7 * sp 0) + 1) 21 1) (((20 + 7 * sp 0) + 1) + 2)) ((20 + 7 * sp 0) + 1) 22 1) ((20 + 7 * sp 0) + 1) 0 x) (((20 + 7 * sp 0) + 1) + 2) x 64) (20 + 7 * sp 0) 21 1) ((20 + 7 * sp 0) + 4)) (((20 + 7 * sp 0) + 4) + 1)) ((20 + 7 * sp 0) + 4) 21 1) (((20 + 7 * sp 0) + 4) + 2)) ((20 + 7 * sp 0) + 4) 22 1) ((20 + 7 * sp 0) + 4) 0 y) (((20 + 7 * sp 0) + 4) + 2) y 64) (20 + 7 * sp 0) 22 1) 1 0 + 1)) 8)) (kup_n (by omega) (kup_n (by omega) (kup_n (by omega) (kup_n (by omega) (kup_n (by omega) (kup_n (by omega) (kup_n (by omega) (kup_n (by omega) (kup_n (by omega) (kup_n (by omega) (kup_n (by omega) hc.1.2.1)))))))))))) cw_RX3_46 (by decide) (by decide) hz hP hI hK (kup_n (by omega) (kup_n (by omega) (kup_n (by omega) (kup_n (by omega) (kup_n (by omega) (kup_n (by omega) (kup_n (by omega) (kup_n (by omega) (kup_n (by omega) (kup_n (by omega) (kup_n (by omega) hc.1.2.1))))))))))) (by decide) rfl rfl rfl hl.1 rfl (Nat.le_of_ble_eq_true rfl) ⟨by decide, by decide⟩ dX3_dancer_86 ?_
          refine e_nrm (y := nI (sp 0 + 1)) rfl ?_
          refine lv_iconst (v := 1) hx hb dX3_dancer_89 (by decide) ?_
          refine lv_isub hx hb dX3_dancer_90 ?_
          refine e_nrm (y := (nI ((sp 0 + 1) - 1))) (pk_sub (a := (sp 0 + 1)) (b := 1) (by omega)) ?_
          exact hret _ _ _ _ _ _ _ _ _ _ (show (kup (kup (kup (kup (kup (kup (kup (kup (kup (kup (kup kd (20 + 7 * sp 0) 13) ((20 + 7 * sp 0) + 1) 3) (((20 + 7 * sp 0) + 1) + 1) 84) (((20 + 7 * sp 0) + 1) + 2) 84) ((20 + 7 * sp 0) + 1) 2) ((20 + 7 * sp 0) + 4) 3) (((20 + 7 * sp 0) + 4) + 1) 84) (((20 + 7 * sp 0) + 4) + 2) 84) ((20 + 7 * sp 0) + 4) 2) (20 + 7 * sp 0) 1) 8 7) = (kup (kup (kup (kup (kup (kup (kup (kup (kup (kup (kup kd (20 + 7 * sp 0) 13) ((20 + 7 * sp 0) + 1) 3) (((20 + 7 * sp 0) + 1) + 1) 84) (((20 + 7 * sp 0) + 1) + 2) 84) ((20 + 7 * sp 0) + 1) 2) ((20 + 7 * sp 0) + 4) 3) (((20 + 7 * sp 0) + 4) + 1) 84) (((20 + 7 * sp 0) + 4) + 2) 84) ((20 + 7 * sp 0) + 4) 2) (20 + 7 * sp 0) 1) 8 7) from rfl) (show (upN (upN (upN sp 5 8) 7 (sp 0 + 1)) 0 (sp 0 + 1)) = upN (upN (upN sp 5 8) 7 (sp 0 + 1)) 0 (sp 0 + 1) from rfl) (show (nI ((sp 0 + 1) - 1)) = nI (sp 0) from by rw [Nat.add_sub_cancel]) (show (e_z (e_set (e_set (cFill (e_set (e_set (e_z (e_set (e_z (e_z (e_set (cFill (e_set (e_set (e_z (e_set (e_z (e_z (e_set (e_set (e_z v (20 + 7 * sp 0)) (20 + 7 * sp 0) 2 0) (20 + 7 * sp 0) 3 0) ((20 + 7 * sp 0) + 1)) (((20 + 7 * sp 0) + 1) + 1)) ((20 + 7 * sp 0) + 1) 21 1) (((20 + 7 * sp 0) + 1) + 2)) ((20 + 7 * sp 0) + 1) 22 1) ((20 + 7 * sp 0) + 1) 0 x) (((20 + 7 * sp 0) + 1) + 2) x 64) (20 + 7 * sp 0) 21 1) ((20 + 7 * sp 0) + 4)) (((20 + 7 * sp 0) + 4) + 1)) ((20 + 7 * sp 0) + 4) 21 1) (((20 + 7 * sp 0) + 4) + 2)) ((20 + 7 * sp 0) + 4) 22 1) ((20 + 7 * sp 0) + 4) 0 y) (((20 + 7 * sp 0) + 4) + 2) y 64) (20 + 7 * sp 0) 22 1) 1 0 ((e_set (cFill (e_set (e_set (e_z (e_set (e_z (e_z (e_set (cFill (e_set (e_set (e_z (e_set (e_z (e_z (e_set (e_set (e_z v (20 + 7 * sp 0)) (20 + 7 * sp 0) 2 0) (20 + 7 * sp 0) 3 0) ((20 + 7 * sp 0) + 1)) (((20 + 7 * sp 0) + 1) + 1)) ((20 + 7 * sp 0) + 1) 21 1) (((20 + 7 * sp 0) + 1) + 2)) ((20 + 7 * sp 0) + 1) 22 1) ((20 + 7 * sp 0) + 1) 0 x) (((20 + 7 * sp 0) + 1) + 2) x 64) (20 + 7 * sp 0) 21 1) ((20 + 7 * sp 0) + 4)) (((20 + 7 * sp 0) + 4) + 1)) ((20 + 7 * sp 0) + 4) 21 1) (((20 + 7 * sp 0) + 4) + 2)) ((20 + 7 * sp 0) + 4) 22 1) ((20 + 7 * sp 0) + 4) 0 y) (((20 + 7 * sp 0) + 4) + 2) y 64) (20 + 7 * sp 0) 22 1) 1 0 + 1)) 8) = e_z (e_set ((e_set (cFill (e_set (e_set (e_z (e_set (e_z (e_z (e_set (cFill (e_set (e_set (e_z (e_set (e_z (e_z (e_set (e_set (e_z v (20 + 7 * sp 0)) (20 + 7 * sp 0) 2 0) (20 + 7 * sp 0) 3 0) ((20 + 7 * sp 0) + 1)) (((20 + 7 * sp 0) + 1) + 1)) ((20 + 7 * sp 0) + 1) 21 1) (((20 + 7 * sp 0) + 1) + 2)) ((20 + 7 * sp 0) + 1) 22 1) ((20 + 7 * sp 0) + 1) 0 x) (((20 + 7 * sp 0) + 1) + 2) x 64) (20 + 7 * sp 0) 21 1) ((20 + 7 * sp 0) + 4)) (((20 + 7 * sp 0) + 4) + 1)) ((20 + 7 * sp 0) + 4) 21 1) (((20 + 7 * sp 0) + 4) + 2)) ((20 + 7 * sp 0) + 4) 22 1) ((20 + 7 * sp 0) + 4) 0 y) (((20 + 7 * sp 0) + 4) + 2) y 64) (20 + 7 * sp 0) 22 1)) 1 0 ((e_set (cFill (e_set (e_set (e_z (e_set (e_z (e_z (e_set (cFill (e_set (e_set (e_z (e_set (e_z (e_z (e_set (e_set (e_z v (20 + 7 * sp 0)) (20 + 7 * sp 0) 2 0) (20 + 7 * sp 0) 3 0) ((20 + 7 * sp 0) + 1)) (((20 + 7 * sp 0) + 1) + 1)) ((20 + 7 * sp 0) + 1) 21 1) (((20 + 7 * sp 0) + 1) + 2)) ((20 + 7 * sp 0) + 1) 22 1) ((20 + 7 * sp 0) + 1) 0 x) (((20 + 7 * sp 0) + 1) + 2) x 64) (20 + 7 * sp 0) 21 1) ((20 + 7 * sp 0) + 4)) (((20 + 7 * sp 0) + 4) + 1)) ((20 + 7 * sp 0) + 4) 21 1) (((20 + 7 * sp 0) + 4) + 2)) ((20 + 7 * sp 0) + 4) 22 1) ((20 + 7 * sp 0) + 4) 0 y) (((20 + 7 * sp 0) + 4) + 2) y 64) (20 + 7 * sp 0) 22 1) 1 0 + 1)) 8 from rfl) (by first | (simp [cDancerC, nc_1, nc_2, nc_3, nc_4]; done) | (simp_all [cDancerC]; done)) (by decide) (by decide) hP hI hS dX3_dancer_91
        · have nc_4 : (cFirstP v x y (sp 0)) = true := bI_n0.mp c_4
          exact e_throw (text := "the first place of another one") hQ hx hb hml hl9 hown hts hT hex hlocks hP hS tw_IS (by decide +kernel) (⟨2, .tail _ (.head _), by first | (simp [cDancerC, nc_1, nc_2, nc_3, nc_4]; done) | (simp_all [cDancerC]; done)⟩) hl.1 (by decide) (Nat.le_of_ble_eq_true rfl) (by decide) (by decide) (by decide) (by decide) dX3_dancer_55 dX3_dancer_58 dX3_dancer_59 dX3_dancer_61 dX3_dancer_64
      · have nc_3 : ¬ (sp 0) < 8 := fun h => c_3 ((nI_ltI (a := (sp 0)) (b := 8) (by omega) (by omega)).mpr h)
        exact e_throw (text := "no more dancers") hQ hx hb hml hl9 hown hts hT hex hlocks hP hS tw_IS (by decide +kernel) (⟨2, .tail _ (.head _), by first | (simp [cDancerC, nc_1, nc_2, nc_3]; done) | (simp_all [cDancerC]; done)⟩) hl.1 (by decide) (Nat.le_of_ble_eq_true rfl) (by decide) (by decide) (by decide) (by decide) dX3_dancer_36 dX3_dancer_39 dX3_dancer_40 dX3_dancer_42 dX3_dancer_45
    · have nc_2 : (cOn y) = false := bI_0.mp c_2
      exact e_throw (text := "no such place of the stage") hQ hx hb hml hl9 hown hts hT hex hlocks hP hS tw_IO (by decide +kernel) (⟨1, .head _, by first | (simp [cDancerC, nc_1, nc_2]; done) | (simp_all [cDancerC]; done)⟩) hl.1 (by decide) (Nat.le_of_ble_eq_true rfl) (by decide) (by decide) (by decide) (by decide) dX3_dancer_14 dX3_dancer_17 dX3_dancer_18 dX3_dancer_20 dX3_dancer_23

set_option maxRecDepth 100000 in
set_option maxHeartbeats 4000000 in
theorem c_lift1 {l : Launch} (hl9 : l.stackTraces = false) {X : eD} {z0 t0 mi : Nat} {ad kd sp : Nat → Nat} {v : eV} {a0 : Nat} (hc : cK kd sp) (hcv : cI sp v) (c0 d a b : Int32) (h80 : sp 1 < 12 → kd (80 + sp 1) = 0) (ha : ad (80 + sp 1) = a0) (u6 : ∀ m, kd m = 8 → m = 2) (hs8z : 0 < sp 1) (hcap : sp 1 < 12 → sp 1 < sp 3) (u7 : ∀ m, kd m = 9 → m = sp 6) (hp6 : sp 6 = 9 ∨ sp 6 = 10) : eTA l yX3_lift cX3_lift 5 (some .int) 14 60 2000 [.ref (ad 0), .int c0, .int d, .int a, .int b] X z0 t0 mi ad kd sp v a0 (some (.int (nI (sp 1)))) (kup kd (80 + sp 1) 4) (upN (upN sp 8 (sp 1 + 1)) 1 (sp 1 + 1)) (e_set ((e_set (e_set (e_set (e_set (e_set (e_z v (80 + sp 1)) (80 + sp 1) 4 0) (80 + sp 1) 0 c0) (80 + sp 1) 1 d) (80 + sp 1) 2 a) (80 + sp 1) 3 b)) 2 0 ((e_set (e_set (e_set (e_set (e_set (e_z v (80 + sp 1)) (80 + sp 1) 4 0) (80 + sp 1) 0 c0) (80 + sp 1) 1 d) (80 + sp 1) 2 a) (80 + sp 1) 3 b) 2 0 + 1)) (cLiftC v (sp 0) (sp 1) c0 d a b = 0) (xP [(xIO, 1), (xIA, 2), (xIS, 3)] (cLiftC v (sp 0) (sp 1) c0 d a b)) := by
  refine e_thrA (by decide +kernel) (Nat.le_of_ble_eq_true rfl) ?_
  intro p e s m args below meth c hx hb hml hown hts hW hT hex hlocks Q hQ hret ls hl
  obtain ⟨⟨hz, hP, hI, hK⟩, hsz, hL⟩ := hW
  have hl : lv_has ls 5 [(0, .ref (ad 0)), (1, .int c0), (2, .int d), (3, .int a), (4, .int b)] := hl
  have hS : va_S (e_A z0) s.heap s.heap [] := va_S.rf
  have hc0 := hc.2.2.2.2.2
  have hs8 := hc0.1
  have hs12 := hc0.2.1
  have hq2 := hc0.2.2.1
  have hq3 := hc0.2.2.2.1
  have hq4 := hc0.2.2.2.2.1
  have hq5 := hc0.2.2.2.2.2.1
  have hq6 := hc0.2.2.2.2.2.2.1
  have hq7 := hc0.2.2.2.2.2.2.2
  refine lv_iload_n hx hb dX3_lift_0 rfl (lv_at hl 1 rfl) ?_
  by_cases hg_1 : ¬ (cOkC c0 = true)
  · refine e_cSX (As := [.int c0]) (rest := []) hQ hex hlocks (fun E h => ⟨1, by rw [h.1]; exact .head _, by simp [cLiftC, h.2]⟩) hx hb hml hown hts hT (c_X3_needCount (l := l) hl9 (v := v) c0) cw_RX3_74 (by decide) (by decide) hz hP hI hK hS rfl hl.1 rfl (Nat.le_of_ble_eq_true rfl) ⟨by decide, by decide⟩ (by decide) (by decide) dX3_lift_1 (fun H locs g hz hP hS => absurd g hg_1)
  have g_1 : cOkC c0 = true := Decidable.not_not.mp hg_1
  refine e_cS (As := [.int c0]) (rest := []) hx hb hml hown hts (c_needC_ok (l := l) (v := v) c0 g_1) cw_RX3_74 (by decide) (by decide) hz hP hI hK rfl hl.1 rfl (Nat.le_of_ble_eq_true rfl) ⟨by decide, by decide⟩ dX3_lift_1 ?_
  obtain ⟨c_2, hc_2, ec_2⟩ := cOkC_nat g_1
  have nc_2 := nN_of ec_2 (by omega)
  refine lv_aload_n hx hb dX3_lift_4 rfl (lv_at hl 0 rfl) ?_
  refine lv_iload_n hx hb dX3_lift_5 rfl (lv_at hl 2 rfl) ?_
  by_cases hg_3 : ¬ (cOkN (sp 0) d = true)
  · refine e_cVX (As := [.int d]) (rest := []) hQ hex hlocks (fun E h => ⟨1, by rw [h.1]; exact .head _, by simp [cLiftC, h.2, g_1, nc_2]⟩) hx hb hml hown hts hT 0 (c_X3_needDancer (l := l) hl9 (v := v) hc d) cw_RX3_70 (by decide) (by decide) hz hP hI hK hS hc.1.1 (by decide) rfl rfl rfl hl.1 rfl (Nat.le_of_ble_eq_true rfl) ⟨by decide, by decide⟩ (by decide) (by decide) dX3_lift_6 (fun H locs g hz hP hS => absurd g hg_3)
  have g_3 : cOkN (sp 0) d = true := Decidable.not_not.mp hg_3
  refine e_cV (As := [.int d]) (rest := []) hx hb hml hown hts 0 (c_needD_ok (l := l) (v := v) hc d g_3) cw_RX3_70 (by decide) (by decide) hz hP hI hK hc.1.1 (by decide) rfl rfl rfl hl.1 rfl (Nat.le_of_ble_eq_true rfl) ⟨by decide, by decide⟩ dX3_lift_6 ?_
  obtain ⟨d_4, hd_4, ed_4⟩ := cOkN_nat (by omega) g_3
  have nd_4 := nN_of ed_4 (by omega)
  refine lv_aload_n hx hb dX3_lift_9 rfl (lv_at hl 0 rfl) ?_
  refine lv_iload_n hx hb dX3_lift_10 rfl (lv_at hl 3 rfl) ?_
  by_cases hg_5 : ¬ (cOkN (sp 0) a = true)
  · refine e_cVX (As := [.int a]) (rest := []) hQ hex hlocks (fun E h => ⟨1, by rw [h.1]; exact .head _, by simp [cLiftC, h.2, g_1, nc_2, g_3, nd_4]⟩) hx hb hml hown hts hT 0 (c_X3_needDancer (l := l) hl9 (v := v) hc a) cw_RX3_70 (by decide) (by decide) hz hP hI hK hS hc.1.1 (by decide) rfl rfl rfl hl.1 rfl (Nat.le_of_ble_eq_true rfl) ⟨by decide, by decide⟩ (by decide) (by decide) dX3_lift_11 (fun H locs g hz hP hS => absurd g hg_5)
  have g_5 : cOkN (sp 0) a = true := Decidable.not_not.mp hg_5
  refine e_cV (As := [.int a]) (rest := []) hx hb hml hown hts 0 (c_needD_ok (l := l) (v := v) hc a g_5) cw_RX3_70 (by decide) (by decide) hz hP hI hK hc.1.1 (by decide) rfl rfl rfl hl.1 rfl (Nat.le_of_ble_eq_true rfl) ⟨by decide, by decide⟩ dX3_lift_11 ?_
  obtain ⟨d_6, hd_6, ed_6⟩ := cOkN_nat (by omega) g_5
  have nd_6 := nN_of ed_6 (by omega)
  refine lv_aload_n hx hb dX3_lift_14 rfl (lv_at hl 0 rfl) ?_
  refine lv_iload hx hb dX3_lift_15 (lv_at hl 4 rfl) ?_
  by_cases hg_7 : ¬ (cOkN (sp 0) b = true)
  · refine e_cVX (As := [.int b]) (rest := []) hQ hex hlocks (fun E h => ⟨1, by rw [h.1]; exact .head _, by simp [cLiftC, h.2, g_1, nc_2, g_3, nd_4, g_5, nd_6]⟩) hx hb hml hown hts hT 0 (c_X3_needDancer (l := l) hl9 (v := v) hc b) cw_RX3_70 (by decide) (by decide) hz hP hI hK hS hc.1.1 (by decide) rfl rfl rfl hl.1 rfl (Nat.le_of_ble_eq_true rfl) ⟨by decide, by decide⟩ (by decide) (by decide) dX3_lift_17 (fun H locs g hz hP hS => absurd g hg_7)
  have g_7 : cOkN (sp 0) b = true := Decidable.not_not.mp hg_7
  refine e_cV (As := [.int b]) (rest := []) hx hb hml hown hts 0 (c_needD_ok (l := l) (v := v) hc b g_7) cw_RX3_70 (by decide) (by decide) hz hP hI hK hc.1.1 (by decide) rfl rfl rfl hl.1 rfl (Nat.le_of_ble_eq_true rfl) ⟨by decide, by decide⟩ dX3_lift_17 ?_
  obtain ⟨d_8, hd_8, ed_8⟩ := cOkN_nat (by omega) g_7
  have nd_8 := nN_of ed_8 (by omega)
  refine lv_iload_n hx hb dX3_lift_20 rfl (lv_at hl 2 rfl) ?_
  refine lv_iload_n hx hb dX3_lift_21 rfl (lv_at hl 3 rfl) ?_
  refine lv_icmp_eq (tgt := 37) hx hb dX3_lift_22 (by decide) (fun c_9 => ?_) (fun c_9 => ?_)
  · skip
    exact e_throw (text := "two of them are one") hQ hx hb hml hl9 hown hts hT hex hlocks hP hS tw_IA (by decide +kernel) (⟨2, .tail _ (.head _), by first | (simp [cLiftC, g_1, nc_2, g_3, nd_4, g_5, nd_6, g_7, nd_8, eq_true c_9]; done) | (simp_all [cLiftC]; done)⟩) hl.1 (by decide) (Nat.le_of_ble_eq_true rfl) (by decide) (by decide) (by decide) (by decide) dX3_lift_37 dX3_lift_40 dX3_lift_41 dX3_lift_43 dX3_lift_46
  · skip
    refine lv_iload_n hx hb dX3_lift_25 rfl (lv_at hl 2 rfl) ?_
    refine lv_iload hx hb dX3_lift_26 (lv_at hl 4 rfl) ?_
    refine lv_icmp_eq (tgt := 37) hx hb dX3_lift_28 (by decide) (fun c_10 => ?_) (fun c_10 => ?_)
    · skip
      exact e_throw (text := "two of them are one") hQ hx hb hml hl9 hown hts hT hex hlocks hP hS tw_IA (by decide +kernel) (⟨2, .tail _ (.head _), by first | (simp [cLiftC, g_1, nc_2, g_3, nd_4, g_5, nd_6, g_7, nd_8, eq_false c_9, eq_true c_10]; done) | (simp_all [cLiftC]; done)⟩) hl.1 (by decide) (Nat.le_of_ble_eq_true rfl) (by decide) (by decide) (by decide) (by decide) dX3_lift_37 dX3_lift_40 dX3_lift_41 dX3_lift_43 dX3_lift_46
    · skip
      refine lv_iload_n hx hb dX3_lift_31 rfl (lv_at hl 3 rfl) ?_
      refine lv_iload hx hb dX3_lift_32 (lv_at hl 4 rfl) ?_
      refine lv_icmp_ne (tgt := 47) hx hb dX3_lift_34 (by decide) (fun c_11 => ?_) (fun c_11 => ?_)
      · skip
        refine lv_aload_n hx hb dX3_lift_47 rfl (lv_at hl 0 rfl) ?_
        refine lv_iload_n hx hb dX3_lift_48 rfl (lv_at hl 2 rfl) ?_
        refine e_nrm (y := nI d_4) ed_4 ?_
        refine e_cV (As := [.int (nI d_4)]) (rest := []) hx hb hml hown hts 0 (c_X3_isOut (l := l) (v := v) hc hcv d_4 (by omega)) cw_RX3_126 (by decide) (by decide) hz hP hI hK hc.1.1 (by decide) rfl rfl rfl hl.1 rfl (Nat.le_of_ble_eq_true rfl) ⟨by decide, by decide⟩ dX3_lift_49 ?_
        refine lv_if_ne (tgt := 72) hx hb dX3_lift_52 (by decide) (fun c_12 => ?_) (fun c_12 => ?_)
        · have nc_12 : (cOut v d_4) = true := bI_n0.mp c_12
          exact e_throw (text := "written out") hQ hx hb hml hl9 hown hts hT hex hlocks hP hS tw_IS (by decide +kernel) (⟨3, .tail _ (.tail _ (.head _)), by first | (simp [cLiftC, g_1, nc_2, g_3, nd_4, g_5, nd_6, g_7, nd_8, eq_false c_9, eq_false c_10, eq_false c_11, nc_12]; done) | (simp_all [cLiftC]; done)⟩) hl.1 (by decide) (Nat.le_of_ble_eq_true rfl) (by decide) (by decide) (by decide) (by decide) dX3_lift_72 dX3_lift_75 dX3_lift_76 dX3_lift_78 dX3_lift_81
        · have nc_12 : (cOut v d_4) = false := bI_0.mp c_12
          refine lv_aload_n hx hb dX3_lift_55 rfl (lv_at hl 0 rfl) ?_
          refine lv_iload_n hx hb dX3_lift_56 rfl (lv_at hl 3 rfl) ?_
          refine e_nrm (y := nI d_6) ed_6 ?_
          refine e_cV (As := [.int (nI d_6)]) (rest := []) hx hb hml hown hts 0 (c_X3_isOut (l := l) (v := v) hc hcv d_6 (by omega)) cw_RX3_126 (by decide) (by decide) hz hP hI hK hc.1.1 (by decide) rfl rfl rfl hl.1 rfl (Nat.le_of_ble_eq_true rfl) ⟨by decide, by decide⟩ dX3_lift_57 ?_
          refine lv_if_ne (tgt := 72) hx hb dX3_lift_60 (by decide) (fun c_13 => ?_) (fun c_13 => ?_)
          · have nc_13 : (cOut v d_6) = true := bI_n0.mp c_13
            exact e_throw (text := "written out") hQ hx hb hml hl9 hown hts hT hex hlocks hP hS tw_IS (by decide +kernel) (⟨3, .tail _ (.tail _ (.head _)), by first | (simp [cLiftC, g_1, nc_2, g_3, nd_4, g_5, nd_6, g_7, nd_8, eq_false c_9, eq_false c_10, eq_false c_11, nc_12, nc_13]; done) | (simp_all [cLiftC]; done)⟩) hl.1 (by decide) (Nat.le_of_ble_eq_true rfl) (by decide) (by decide) (by decide) (by decide) dX3_lift_72 dX3_lift_75 dX3_lift_76 dX3_lift_78 dX3_lift_81
          · have nc_13 : (cOut v d_6) = false := bI_0.mp c_13
            refine lv_aload_n hx hb dX3_lift_63 rfl (lv_at hl 0 rfl) ?_
            refine lv_iload hx hb dX3_lift_64 (lv_at hl 4 rfl) ?_
            refine e_nrm (y := nI d_8) ed_8 ?_
            refine e_cV (As := [.int (nI d_8)]) (rest := []) hx hb hml hown hts 0 (c_X3_isOut (l := l) (v := v) hc hcv d_8 (by omega)) cw_RX3_126 (by decide) (by decide) hz hP hI hK hc.1.1 (by decide) rfl rfl rfl hl.1 rfl (Nat.le_of_ble_eq_true rfl) ⟨by decide, by decide⟩ dX3_lift_66 ?_
            refine lv_if_eq (tgt := 82) hx hb dX3_lift_69 (by decide) (fun c_14 => ?_) (fun c_14 => ?_)
            · have nc_14 : (cOut v d_8) = false := bI_0.mp c_14
              refine lv_aload_n hx hb dX3_lift_82 rfl (lv_at hl 0 rfl) ?_
              refine e_getf hx hb hts inX3 hown hK hP 0 5 hc.1.1 (by decide) rfl rfl 1 (by decide) aw_222 (fun _ h => h) rfl dX3_lift_83 ?_
              refine e_cV (As := []) (rest := []) hx hb hml hown hts 2 (c_size2 (l := l) (v := v) hc.1.2.2.1) cw_RX3_46 (by decide) (by decide) hz hP hI hK hc.1.2.2.1 (by decide) rfl rfl rfl hl.1 rfl (Nat.le_of_ble_eq_true rfl) ⟨by decide, by decide⟩ dX3_lift_86 ?_
              refine lv_bipush (v := 12) hx hb dX3_lift_89 (by decide) ?_
              refine lv_icmp_lt (tgt := 104) hx hb dX3_lift_91 (by decide) (fun c_15 => ?_) (fun c_15 => ?_)
              · have nc_15 : (sp 1) < 12 := (nI_ltI (a := (sp 1)) (b := 12) (by omega) (by omega)).mp c_15
                have hs9 : sp 1 < 12 := by omega
                refine lv_aload_n hx hb dX3_lift_104 rfl (lv_at hl 0 rfl) ?_
                refine e_getf hx hb hts inX3 hown hK hP 0 5 hc.1.1 (by decide) rfl rfl 1 (by decide) aw_222 (fun _ h => h) rfl dX3_lift_105 ?_
                refine e_new hx hb hts inX1 tyX1 tyX1_ok hown aw_223 aw_516 aw_144 hK hP hI hz hS (80 + sp 1) 4 (h80 hs9) ((ha : ad (80 + sp 1) = _).trans (by omega)) (ci := 4) rfl rfl (fun j hj => by rcases (show j = 0 ∨ j = 1 ∨ j = 2 ∨ j = 3 ∨ j = 4 by omega) with rfl | rfl | rfl | rfl | rfl <;> (simp only [e_z_s, e_rr0]; rfl)) (by decide) (by decide) dX3_lift_108 (fun H hz1 hP hI hS => ?_)
                have hsz : H.size = a0 + 1 := by omega
                have hz : z0 ≤ H.size := by omega
                refine lv_dup hx hb dX3_lift_111 rfl ?_
                refine lv_iload_n hx hb dX3_lift_112 rfl (lv_at hl 1 rfl) ?_
                refine lv_iload_n hx hb dX3_lift_113 rfl (lv_at hl 2 rfl) ?_
                refine lv_iload_n hx hb dX3_lift_114 rfl (lv_at hl 3 rfl) ?_
                refine lv_iload hx hb dX3_lift_115 (lv_at hl 4 rfl) ?_
                refine e_cIA (As := [.int c0, .int d, .int a, .int b]) (rest := [.ref (ad (80 + sp 1)), .ref (ad 2)]) hx hb hml hown hts hL (80 + sp 1) (c_X1_init (l := l) (v := (e_z v (80 + sp 1))) (80 + sp 1) c0 d a b kup_s) cwi_RX3_133 (by decide) (by decide) hz hsz hP hI hK hS rfl hl.1 rfl (Nat.le_of_ble_eq_true rfl) ⟨by decide, by decide⟩ dX3_lift_117 (fun H locs hz hz1 hP hI hS => ?_)
                have hsz : H.size = a0 + 1 := by omega
                have hz : z0 ≤ H.size := by omega
                refine e_cVA (As := [.ref (ad (80 + sp 1))]) (rest := []) hx hb hml hown hts hL 2 (c_add_L1 (l := l) (v := (e_set (e_set (e_set (e_set (e_set (e_z v (80 + sp 1)) (80 + sp 1) 4 0) (80 + sp 1) 0 c0) (80 + sp 1) 1 d) (80 + sp 1) 2 a) (80 + sp 1) 3 b)) (kup_n (by omega) hc.1.2.2.1) (fun m h => kup_u h (by decide) u6) (kup_n (by omega) (hc.2.2.1 hs8z)) (fun m h => kup_u h (by decide) u7) (by omega) (by omega) (by omega) kup_s) cw_RX3_66 (by decide) (by decide) hz hsz hP hI hK hS (kup_n (by omega) hc.1.2.2.1) (by decide) rfl rfl rfl hl.1 rfl (Nat.le_of_ble_eq_true rfl) ⟨by decide, by decide⟩ dX3_lift_120 (fun H locs hz hz1 hP hI hS => ?_)
                have hsz : H.size = a0 + 1 := by omega
                have hz : z0 ≤ H.size := by omega
                refine lv_pop hx hb dX3_lift_123 rfl ?_
                refine lv_aload_n hx hb dX3_lift_124 rfl (lv_at hl 0 rfl) ?_
                refine e_getf hx hb hts inX3 hown hK hP 0 5 (kup_n (by omega) hc.1.1) (by decide) rfl rfl 1 (by decide) aw_222 (fun _ h => h) rfl dX3_lift_125 ?_
                refine e_cV (As := []) (rest := []) hx hb hml hown hts 2 (c_size2 (l := l) (v := (e_set (e_set (e_set (e_set (e_set (e_set (e_z v (80 + sp 1)) (80 + sp 1) 4 0) (80 + sp 1) 0 c0) (80 + sp 1) 1 d) (80 + sp 1) 2 a) (80 + sp 1) 3 b) 2 0 ((e_set (e_set (e_set (e_set (e_set (e_z v (80 + sp 1)) (80 + sp 1) 4 0) (80 + sp 1) 0 c0) (80 + sp 1) 1 d) (80 + sp 1) 2 a) (80 + sp 1) 3 b) 2 0 + 1))) (kup_n (by omega) hc.1.2.2.1)) cw_RX3_46 (by decide) (by decide) hz hP hI hK (kup_n (by omega) hc.1.2.2.1) (by decide) rfl rfl rfl hl.1 rfl (Nat.le_of_ble_eq_true rfl) ⟨by decide, by decide⟩ dX3_lift_128 ?_
                refine e_nrm (y := nI (sp 1 + 1)) rfl ?_
                refine lv_iconst (v := 1) hx hb dX3_lift_131 (by decide) ?_
                refine lv_isub hx hb dX3_lift_132 ?_
                refine e_nrm (y := (nI ((sp 1 + 1) - 1))) (pk_sub (a := (sp 1 + 1)) (b := 1) (by omega)) ?_
                exact hret _ _ _ _ _ _ _ _ _ _ (show (kup kd (80 + sp 1) 4) = (kup kd (80 + sp 1) 4) from rfl) (show (upN (upN sp 8 (sp 1 + 1)) 1 (sp 1 + 1)) = upN (upN sp 8 (sp 1 + 1)) 1 (sp 1 + 1) from rfl) (show (nI ((sp 1 + 1) - 1)) = nI (sp 1) from by rw [Nat.add_sub_cancel]) (show (e_set (e_set (e_set (e_set (e_set (e_set (e_z v (80 + sp 1)) (80 + sp 1) 4 0) (80 + sp 1) 0 c0) (80 + sp 1) 1 d) (80 + sp 1) 2 a) (80 + sp 1) 3 b) 2 0 ((e_set (e_set (e_set (e_set (e_set (e_z v (80 + sp 1)) (80 + sp 1) 4 0) (80 + sp 1) 0 c0) (80 + sp 1) 1 d) (80 + sp 1) 2 a) (80 + sp 1) 3 b) 2 0 + 1)) = e_set ((e_set (e_set (e_set (e_set (e_set (e_z v (80 + sp 1)) (80 + sp 1) 4 0) (80 + sp 1) 0 c0) (80 + sp 1) 1 d) (80 + sp 1) 2 a) (80 + sp 1) 3 b)) 2 0 ((e_set (e_set (e_set (e_set (e_set (e_z v (80 + sp 1)) (80 + sp 1) 4 0) (80 + sp 1) 0 c0) (80 + sp 1) 1 d) (80 + sp 1) 2 a) (80 + sp 1) 3 b) 2 0 + 1) from rfl) (by first | (simp [cLiftC, g_1, nc_2, g_3, nd_4, g_5, nd_6, g_7, nd_8, eq_false c_9, eq_false c_10, eq_false c_11, nc_12, nc_13, nc_14, nc_15]; done) | (simp_all [cLiftC]; done)) (by decide) (by decide) hP hI hS dX3_lift_133
              · have nc_15 : ¬ (sp 1) < 12 := fun h => c_15 ((nI_ltI (a := (sp 1)) (b := 12) (by omega) (by omega)).mpr h)
                exact e_throw (text := "no more lifts") hQ hx hb hml hl9 hown hts hT hex hlocks hP hS tw_IS (by decide +kernel) (⟨3, .tail _ (.tail _ (.head _)), by first | (simp [cLiftC, g_1, nc_2, g_3, nd_4, g_5, nd_6, g_7, nd_8, eq_false c_9, eq_false c_10, eq_false c_11, nc_12, nc_13, nc_14, nc_15]; done) | (simp_all [cLiftC]; done)⟩) hl.1 (by decide) (Nat.le_of_ble_eq_true rfl) (by decide) (by decide) (by decide) (by decide) dX3_lift_94 dX3_lift_97 dX3_lift_98 dX3_lift_100 dX3_lift_103
            · have nc_14 : (cOut v d_8) = true := bI_n0.mp c_14
              exact e_throw (text := "written out") hQ hx hb hml hl9 hown hts hT hex hlocks hP hS tw_IS (by decide +kernel) (⟨3, .tail _ (.tail _ (.head _)), by first | (simp [cLiftC, g_1, nc_2, g_3, nd_4, g_5, nd_6, g_7, nd_8, eq_false c_9, eq_false c_10, eq_false c_11, nc_12, nc_13, nc_14]; done) | (simp_all [cLiftC]; done)⟩) hl.1 (by decide) (Nat.le_of_ble_eq_true rfl) (by decide) (by decide) (by decide) (by decide) dX3_lift_72 dX3_lift_75 dX3_lift_76 dX3_lift_78 dX3_lift_81
      · skip
        exact e_throw (text := "two of them are one") hQ hx hb hml hl9 hown hts hT hex hlocks hP hS tw_IA (by decide +kernel) (⟨2, .tail _ (.head _), by first | (simp [cLiftC, g_1, nc_2, g_3, nd_4, g_5, nd_6, g_7, nd_8, eq_false c_9, eq_false c_10, eq_true c_11]; done) | (simp_all [cLiftC]; done)⟩) hl.1 (by decide) (Nat.le_of_ble_eq_true rfl) (by decide) (by decide) (by decide) (by decide) dX3_lift_37 dX3_lift_40 dX3_lift_41 dX3_lift_43 dX3_lift_46

set_option maxRecDepth 100000 in
set_option maxHeartbeats 4000000 in
theorem c_lift0 {l : Launch} (hl9 : l.stackTraces = false) {X : eD} {z0 t0 mi : Nat} {ad kd sp : Nat → Nat} {v : eV} {a0 : Nat} (hc : cK kd sp) (hcv : cI sp v) (c0 d a b : Int32) (h80 : sp 1 < 12 → kd (80 + sp 1) = 0) (ha : ad (80 + sp 1) = a0) (u6 : ∀ m, kd m = 8 → m = 2) (hs8z : sp 1 = 0) (hcap : sp 3 = 10) (u7 : ∀ m, kd m ≠ 9) (h9 : kd 9 = 0) (hp : sp 6 = 11) (h11 : ad 11 = t0) (ha8 : ad 9 = a0 + 1) : eTA l yX3_lift cX3_lift 5 (some .int) 14 60 2000 [.ref (ad 0), .int c0, .int d, .int a, .int b] X z0 t0 mi ad kd sp v a0 (some (.int (nI (sp 1)))) (kup (kup kd (80 + sp 1) 4) 9 9) (upN (upN (upN sp 6 9) 8 (sp 1 + 1)) 1 (sp 1 + 1)) (e_z (e_set ((e_set (e_set (e_set (e_set (e_set (e_z v (80 + sp 1)) (80 + sp 1) 4 0) (80 + sp 1) 0 c0) (80 + sp 1) 1 d) (80 + sp 1) 2 a) (80 + sp 1) 3 b)) 2 0 ((e_set (e_set (e_set (e_set (e_set (e_z v (80 + sp 1)) (80 + sp 1) 4 0) (80 + sp 1) 0 c0) (80 + sp 1) 1 d) (80 + sp 1) 2 a) (80 + sp 1) 3 b) 2 0 + 1)) 9) (cLiftC v (sp 0) (sp 1) c0 d a b = 0) (xP [(xIO, 1), (xIA, 2), (xIS, 3)] (cLiftC v (sp 0) (sp 1) c0 d a b)) := by
  refine e_thrA (by decide +kernel) (Nat.le_of_ble_eq_true rfl) ?_
  intro p e s m args below meth c hx hb hml hown hts hW hT hex hlocks Q hQ hret ls hl
  obtain ⟨⟨hz, hP, hI, hK⟩, hsz, hL⟩ := hW
  have hl : lv_has ls 5 [(0, .ref (ad 0)), (1, .int c0), (2, .int d), (3, .int a), (4, .int b)] := hl
  have hS : va_S (e_A z0) s.heap s.heap [] := va_S.rf
  have hc0 := hc.2.2.2.2.2
  have hs8 := hc0.1
  have hs12 := hc0.2.1
  have hq2 := hc0.2.2.1
  have hq3 := hc0.2.2.2.1
  have hq4 := hc0.2.2.2.2.1
  have hq5 := hc0.2.2.2.2.2.1
  have hq6 := hc0.2.2.2.2.2.2.1
  have hq7 := hc0.2.2.2.2.2.2.2
  refine lv_iload_n hx hb dX3_lift_0 rfl (lv_at hl 1 rfl) ?_
  by_cases hg_1 : ¬ (cOkC c0 = true)
  · refine e_cSX (As := [.int c0]) (rest := []) hQ hex hlocks (fun E h => ⟨1, by rw [h.1]; exact .head _, by simp [cLiftC, h.2]⟩) hx hb hml hown hts hT (c_X3_needCount (l := l) hl9 (v := v) c0) cw_RX3_74 (by decide) (by decide) hz hP hI hK hS rfl hl.1 rfl (Nat.le_of_ble_eq_true rfl) ⟨by decide, by decide⟩ (by decide) (by decide) dX3_lift_1 (fun H locs g hz hP hS => absurd g hg_1)
  have g_1 : cOkC c0 = true := Decidable.not_not.mp hg_1
  refine e_cS (As := [.int c0]) (rest := []) hx hb hml hown hts (c_needC_ok (l := l) (v := v) c0 g_1) cw_RX3_74 (by decide) (by decide) hz hP hI hK rfl hl.1 rfl (Nat.le_of_ble_eq_true rfl) ⟨by decide, by decide⟩ dX3_lift_1 ?_
  obtain ⟨c_2, hc_2, ec_2⟩ := cOkC_nat g_1
  have nc_2 := nN_of ec_2 (by omega)
  refine lv_aload_n hx hb dX3_lift_4 rfl (lv_at hl 0 rfl) ?_
  refine lv_iload_n hx hb dX3_lift_5 rfl (lv_at hl 2 rfl) ?_
  by_cases hg_3 : ¬ (cOkN (sp 0) d = true)
  · refine e_cVX (As := [.int d]) (rest := []) hQ hex hlocks (fun E h => ⟨1, by rw [h.1]; exact .head _, by simp [cLiftC, h.2, g_1, nc_2]⟩) hx hb hml hown hts hT 0 (c_X3_needDancer (l := l) hl9 (v := v) hc d) cw_RX3_70 (by decide) (by decide) hz hP hI hK hS hc.1.1 (by decide) rfl rfl rfl hl.1 rfl (Nat.le_of_ble_eq_true rfl) ⟨by decide, by decide⟩ (by decide) (by decide) dX3_lift_6 (fun H locs g hz hP hS => absurd g hg_3)
  have g_3 : cOkN (sp 0) d = true := Decidable.not_not.mp hg_3
  refine e_cV (As := [.int d]) (rest := []) hx hb hml hown hts 0 (c_needD_ok (l := l) (v := v) hc d g_3) cw_RX3_70 (by decide) (by decide) hz hP hI hK hc.1.1 (by decide) rfl rfl rfl hl.1 rfl (Nat.le_of_ble_eq_true rfl) ⟨by decide, by decide⟩ dX3_lift_6 ?_
  obtain ⟨d_4, hd_4, ed_4⟩ := cOkN_nat (by omega) g_3
  have nd_4 := nN_of ed_4 (by omega)
  refine lv_aload_n hx hb dX3_lift_9 rfl (lv_at hl 0 rfl) ?_
  refine lv_iload_n hx hb dX3_lift_10 rfl (lv_at hl 3 rfl) ?_
  by_cases hg_5 : ¬ (cOkN (sp 0) a = true)
  · refine e_cVX (As := [.int a]) (rest := []) hQ hex hlocks (fun E h => ⟨1, by rw [h.1]; exact .head _, by simp [cLiftC, h.2, g_1, nc_2, g_3, nd_4]⟩) hx hb hml hown hts hT 0 (c_X3_needDancer (l := l) hl9 (v := v) hc a) cw_RX3_70 (by decide) (by decide) hz hP hI hK hS hc.1.1 (by decide) rfl rfl rfl hl.1 rfl (Nat.le_of_ble_eq_true rfl) ⟨by decide, by decide⟩ (by decide) (by decide) dX3_lift_11 (fun H locs g hz hP hS => absurd g hg_5)
  have g_5 : cOkN (sp 0) a = true := Decidable.not_not.mp hg_5
  refine e_cV (As := [.int a]) (rest := []) hx hb hml hown hts 0 (c_needD_ok (l := l) (v := v) hc a g_5) cw_RX3_70 (by decide) (by decide) hz hP hI hK hc.1.1 (by decide) rfl rfl rfl hl.1 rfl (Nat.le_of_ble_eq_true rfl) ⟨by decide, by decide⟩ dX3_lift_11 ?_
  obtain ⟨d_6, hd_6, ed_6⟩ := cOkN_nat (by omega) g_5
  have nd_6 := nN_of ed_6 (by omega)
  refine lv_aload_n hx hb dX3_lift_14 rfl (lv_at hl 0 rfl) ?_
  refine lv_iload hx hb dX3_lift_15 (lv_at hl 4 rfl) ?_
  by_cases hg_7 : ¬ (cOkN (sp 0) b = true)
  · refine e_cVX (As := [.int b]) (rest := []) hQ hex hlocks (fun E h => ⟨1, by rw [h.1]; exact .head _, by simp [cLiftC, h.2, g_1, nc_2, g_3, nd_4, g_5, nd_6]⟩) hx hb hml hown hts hT 0 (c_X3_needDancer (l := l) hl9 (v := v) hc b) cw_RX3_70 (by decide) (by decide) hz hP hI hK hS hc.1.1 (by decide) rfl rfl rfl hl.1 rfl (Nat.le_of_ble_eq_true rfl) ⟨by decide, by decide⟩ (by decide) (by decide) dX3_lift_17 (fun H locs g hz hP hS => absurd g hg_7)
  have g_7 : cOkN (sp 0) b = true := Decidable.not_not.mp hg_7
  refine e_cV (As := [.int b]) (rest := []) hx hb hml hown hts 0 (c_needD_ok (l := l) (v := v) hc b g_7) cw_RX3_70 (by decide) (by decide) hz hP hI hK hc.1.1 (by decide) rfl rfl rfl hl.1 rfl (Nat.le_of_ble_eq_true rfl) ⟨by decide, by decide⟩ dX3_lift_17 ?_
  obtain ⟨d_8, hd_8, ed_8⟩ := cOkN_nat (by omega) g_7
  have nd_8 := nN_of ed_8 (by omega)
  refine lv_iload_n hx hb dX3_lift_20 rfl (lv_at hl 2 rfl) ?_
  refine lv_iload_n hx hb dX3_lift_21 rfl (lv_at hl 3 rfl) ?_
  refine lv_icmp_eq (tgt := 37) hx hb dX3_lift_22 (by decide) (fun c_9 => ?_) (fun c_9 => ?_)
  · skip
    exact e_throw (text := "two of them are one") hQ hx hb hml hl9 hown hts hT hex hlocks hP hS tw_IA (by decide +kernel) (⟨2, .tail _ (.head _), by first | (simp [cLiftC, g_1, nc_2, g_3, nd_4, g_5, nd_6, g_7, nd_8, eq_true c_9]; done) | (simp_all [cLiftC]; done)⟩) hl.1 (by decide) (Nat.le_of_ble_eq_true rfl) (by decide) (by decide) (by decide) (by decide) dX3_lift_37 dX3_lift_40 dX3_lift_41 dX3_lift_43 dX3_lift_46
  · skip
    refine lv_iload_n hx hb dX3_lift_25 rfl (lv_at hl 2 rfl) ?_
    refine lv_iload hx hb dX3_lift_26 (lv_at hl 4 rfl) ?_
    refine lv_icmp_eq (tgt := 37) hx hb dX3_lift_28 (by decide) (fun c_10 => ?_) (fun c_10 => ?_)
    · skip
      exact e_throw (text := "two of them are one") hQ hx hb hml hl9 hown hts hT hex hlocks hP hS tw_IA (by decide +kernel) (⟨2, .tail _ (.head _), by first | (simp [cLiftC, g_1, nc_2, g_3, nd_4, g_5, nd_6, g_7, nd_8, eq_false c_9, eq_true c_10]; done) | (simp_all [cLiftC]; done)⟩) hl.1 (by decide) (Nat.le_of_ble_eq_true rfl) (by decide) (by decide) (by decide) (by decide) dX3_lift_37 dX3_lift_40 dX3_lift_41 dX3_lift_43 dX3_lift_46
    · skip
      refine lv_iload_n hx hb dX3_lift_31 rfl (lv_at hl 3 rfl) ?_
      refine lv_iload hx hb dX3_lift_32 (lv_at hl 4 rfl) ?_
      refine lv_icmp_ne (tgt := 47) hx hb dX3_lift_34 (by decide) (fun c_11 => ?_) (fun c_11 => ?_)
      · skip
        refine lv_aload_n hx hb dX3_lift_47 rfl (lv_at hl 0 rfl) ?_
        refine lv_iload_n hx hb dX3_lift_48 rfl (lv_at hl 2 rfl) ?_
        refine e_nrm (y := nI d_4) ed_4 ?_
        refine e_cV (As := [.int (nI d_4)]) (rest := []) hx hb hml hown hts 0 (c_X3_isOut (l := l) (v := v) hc hcv d_4 (by omega)) cw_RX3_126 (by decide) (by decide) hz hP hI hK hc.1.1 (by decide) rfl rfl rfl hl.1 rfl (Nat.le_of_ble_eq_true rfl) ⟨by decide, by decide⟩ dX3_lift_49 ?_
        refine lv_if_ne (tgt := 72) hx hb dX3_lift_52 (by decide) (fun c_12 => ?_) (fun c_12 => ?_)
        · have nc_12 : (cOut v d_4) = true := bI_n0.mp c_12
          exact e_throw (text := "written out") hQ hx hb hml hl9 hown hts hT hex hlocks hP hS tw_IS (by decide +kernel) (⟨3, .tail _ (.tail _ (.head _)), by first | (simp [cLiftC, g_1, nc_2, g_3, nd_4, g_5, nd_6, g_7, nd_8, eq_false c_9, eq_false c_10, eq_false c_11, nc_12]; done) | (simp_all [cLiftC]; done)⟩) hl.1 (by decide) (Nat.le_of_ble_eq_true rfl) (by decide) (by decide) (by decide) (by decide) dX3_lift_72 dX3_lift_75 dX3_lift_76 dX3_lift_78 dX3_lift_81
        · have nc_12 : (cOut v d_4) = false := bI_0.mp c_12
          refine lv_aload_n hx hb dX3_lift_55 rfl (lv_at hl 0 rfl) ?_
          refine lv_iload_n hx hb dX3_lift_56 rfl (lv_at hl 3 rfl) ?_
          refine e_nrm (y := nI d_6) ed_6 ?_
          refine e_cV (As := [.int (nI d_6)]) (rest := []) hx hb hml hown hts 0 (c_X3_isOut (l := l) (v := v) hc hcv d_6 (by omega)) cw_RX3_126 (by decide) (by decide) hz hP hI hK hc.1.1 (by decide) rfl rfl rfl hl.1 rfl (Nat.le_of_ble_eq_true rfl) ⟨by decide, by decide⟩ dX3_lift_57 ?_
          refine lv_if_ne (tgt := 72) hx hb dX3_lift_60 (by decide) (fun c_13 => ?_) (fun c_13 => ?_)
          · have nc_13 : (cOut v d_6) = true := bI_n0.mp c_13
            exact e_throw (text := "written out") hQ hx hb hml hl9 hown hts hT hex hlocks hP hS tw_IS (by decide +kernel) (⟨3, .tail _ (.tail _ (.head _)), by first | (simp [cLiftC, g_1, nc_2, g_3, nd_4, g_5, nd_6, g_7, nd_8, eq_false c_9, eq_false c_10, eq_false c_11, nc_12, nc_13]; done) | (simp_all [cLiftC]; done)⟩) hl.1 (by decide) (Nat.le_of_ble_eq_true rfl) (by decide) (by decide) (by decide) (by decide) dX3_lift_72 dX3_lift_75 dX3_lift_76 dX3_lift_78 dX3_lift_81
          · have nc_13 : (cOut v d_6) = false := bI_0.mp c_13
            refine lv_aload_n hx hb dX3_lift_63 rfl (lv_at hl 0 rfl) ?_
            refine lv_iload hx hb dX3_lift_64 (lv_at hl 4 rfl) ?_
            refine e_nrm (y := nI d_8) ed_8 ?_
            refine e_cV (As := [.int (nI d_8)]) (rest := []) hx hb hml hown hts 0 (c_X3_isOut (l := l) (v := v) hc hcv d_8 (by omega)) cw_RX3_126 (by decide) (by decide) hz hP hI hK hc.1.1 (by decide) rfl rfl rfl hl.1 rfl (Nat.le_of_ble_eq_true rfl) ⟨by decide, by decide⟩ dX3_lift_66 ?_
            refine lv_if_eq (tgt := 82) hx hb dX3_lift_69 (by decide) (fun c_14 => ?_) (fun c_14 => ?_)
            · have nc_14 : (cOut v d_8) = false := bI_0.mp c_14
              refine lv_aload_n hx hb dX3_lift_82 rfl (lv_at hl 0 rfl) ?_
              refine e_getf hx hb hts inX3 hown hK hP 0 5 hc.1.1 (by decide) rfl rfl 1 (by decide) aw_222 (fun _ h => h) rfl dX3_lift_83 ?_
              refine e_cV (As := []) (rest := []) hx hb hml hown hts 2 (c_size2 (l := l) (v := v) hc.1.2.2.1) cw_RX3_46 (by decide) (by decide) hz hP hI hK hc.1.2.2.1 (by decide) rfl rfl rfl hl.1 rfl (Nat.le_of_ble_eq_true rfl) ⟨by decide, by decide⟩ dX3_lift_86 ?_
              refine lv_bipush (v := 12) hx hb dX3_lift_89 (by decide) ?_
              refine lv_icmp_lt (tgt := 104) hx hb dX3_lift_91 (by decide) (fun c_15 => ?_) (fun c_15 => ?_)
              · have nc_15 : (sp 1) < 12 := (nI_ltI (a := (sp 1)) (b := 12) (by omega) (by omega)).mp c_15
                have hs9 : sp 1 < 12 := by omega
                refine lv_aload_n hx hb dX3_lift_104 rfl (lv_at hl 0 rfl) ?_
                refine e_getf hx hb hts inX3 hown hK hP 0 5 hc.1.1 (by decide) rfl rfl 1 (by decide) aw_222 (fun _ h => h) rfl dX3_lift_105 ?_
                refine e_new hx hb hts inX1 tyX1 tyX1_ok hown aw_223 aw_516 aw_144 hK hP hI hz hS (80 + sp 1) 4 (h80 hs9) ((ha : ad (80 + sp 1) = _).trans (by omega)) (ci := 4) rfl rfl (fun j hj => by rcases (show j = 0 ∨ j = 1 ∨ j = 2 ∨ j = 3 ∨ j = 4 by omega) with rfl | rfl | rfl | rfl | rfl <;> (simp only [e_z_s, e_rr0]; rfl)) (by decide) (by decide) dX3_lift_108 (fun H hz1 hP hI hS => ?_)
                have hsz : H.size = a0 + 1 := by omega
                have hz : z0 ≤ H.size := by omega
                refine lv_dup hx hb dX3_lift_111 rfl ?_
                refine lv_iload_n hx hb dX3_lift_112 rfl (lv_at hl 1 rfl) ?_
                refine lv_iload_n hx hb dX3_lift_113 rfl (lv_at hl 2 rfl) ?_
                refine lv_iload_n hx hb dX3_lift_114 rfl (lv_at hl 3 rfl) ?_
                refine lv_iload hx hb dX3_lift_115 (lv_at hl 4 rfl) ?_
                refine e_cIA (As := [.int c0, .int d, .int a, .int b]) (rest := [.ref (ad (80 + sp 1)), .ref (ad 2)]) hx hb hml hown hts hL (80 + sp 1) (c_X1_init (l := l) (v := (e_z v (80 + sp 1))) (80 + sp 1) c0 d a b kup_s) cwi_RX3_133 (by decide) (by decide) hz hsz hP hI hK hS rfl hl.1 rfl (Nat.le_of_ble_eq_true rfl) ⟨by decide, by decide⟩ dX3_lift_117 (fun H locs hz hz1 hP hI hS => ?_)
                have hsz : H.size = a0 + 1 := by omega
                have hz : z0 ≤ H.size := by omega
                refine e_cVA (As := [.ref (ad (80 + sp 1))]) (rest := []) hx hb hml hown hts hL 2 (c_add_L0 (l := l) (v := (e_set (e_set (e_set (e_set (e_set (e_z v (80 + sp 1)) (80 + sp 1) 4 0) (80 + sp 1) 0 c0) (80 + sp 1) 1 d) (80 + sp 1) 2 a) (80 + sp 1) 3 b)) (kup_n (by omega) hc.1.2.2.1) (fun m h => kup_u h (by decide) u6) (fun m h => kup_ne h (by decide) u7) (kup_n (by omega) h9) hs8z hp h11 hcap (by omega) (ha8.trans (by omega)) kup_s) cw_RX3_66 (by decide) (by decide) hz hsz hP hI hK hS (kup_n (by omega) hc.1.2.2.1) (by decide) rfl rfl rfl hl.1 rfl (Nat.le_of_ble_eq_true rfl) ⟨by decide, by decide⟩ dX3_lift_120 (fun H locs hz hz1 hP hI hS => ?_)
                have hsz : H.size = a0 + 2 := by omega
                have hz : z0 ≤ H.size := by omega
                refine lv_pop hx hb dX3_lift_123 rfl ?_
                refine lv_aload_n hx hb dX3_lift_124 rfl (lv_at hl 0 rfl) ?_
                refine e_getf hx hb hts inX3 hown hK hP 0 5 (kup_n (by omega) (kup_n (by omega) hc.1.1)) (by decide) rfl rfl 1 (by decide) aw_222 (fun _ h => h) rfl dX3_lift_125 ?_
                refine e_cV (As := []) (rest := []) hx hb hml hown hts 2 (c_size2 (l := l) (v := (e_z (e_set (e_set (e_set (e_set (e_set (e_set (e_z v (80 + sp 1)) (80 + sp 1) 4 0) (80 + sp 1) 0 c0) (80 + sp 1) 1 d) (80 + sp 1) 2 a) (80 + sp 1) 3 b) 2 0 ((e_set (e_set (e_set (e_set (e_set (e_z v (80 + sp 1)) (80 + sp 1) 4 0) (80 + sp 1) 0 c0) (80 + sp 1) 1 d) (80 + sp 1) 2 a) (80 + sp 1) 3 b) 2 0 + 1)) 9)) (kup_n (by omega) (kup_n (by omega) hc.1.2.2.1))) cw_RX3_46 (by decide) (by decide) hz hP hI hK (kup_n (by omega) (kup_n (by omega) hc.1.2.2.1)) (by decide) rfl rfl rfl hl.1 rfl (Nat.le_of_ble_eq_true rfl) ⟨by decide, by decide⟩ dX3_lift_128 ?_
                refine e_nrm (y := nI (sp 1 + 1)) rfl ?_
                refine lv_iconst (v := 1) hx hb dX3_lift_131 (by decide) ?_
                refine lv_isub hx hb dX3_lift_132 ?_
                refine e_nrm (y := (nI ((sp 1 + 1) - 1))) (pk_sub (a := (sp 1 + 1)) (b := 1) (by omega)) ?_
                exact hret _ _ _ _ _ _ _ _ _ _ (show (kup (kup kd (80 + sp 1) 4) 9 9) = (kup (kup kd (80 + sp 1) 4) 9 9) from rfl) (show (upN (upN (upN sp 6 9) 8 (sp 1 + 1)) 1 (sp 1 + 1)) = upN (upN (upN sp 6 9) 8 (sp 1 + 1)) 1 (sp 1 + 1) from rfl) (show (nI ((sp 1 + 1) - 1)) = nI (sp 1) from by rw [Nat.add_sub_cancel]) (show (e_z (e_set (e_set (e_set (e_set (e_set (e_set (e_z v (80 + sp 1)) (80 + sp 1) 4 0) (80 + sp 1) 0 c0) (80 + sp 1) 1 d) (80 + sp 1) 2 a) (80 + sp 1) 3 b) 2 0 ((e_set (e_set (e_set (e_set (e_set (e_z v (80 + sp 1)) (80 + sp 1) 4 0) (80 + sp 1) 0 c0) (80 + sp 1) 1 d) (80 + sp 1) 2 a) (80 + sp 1) 3 b) 2 0 + 1)) 9) = e_z (e_set ((e_set (e_set (e_set (e_set (e_set (e_z v (80 + sp 1)) (80 + sp 1) 4 0) (80 + sp 1) 0 c0) (80 + sp 1) 1 d) (80 + sp 1) 2 a) (80 + sp 1) 3 b)) 2 0 ((e_set (e_set (e_set (e_set (e_set (e_z v (80 + sp 1)) (80 + sp 1) 4 0) (80 + sp 1) 0 c0) (80 + sp 1) 1 d) (80 + sp 1) 2 a) (80 + sp 1) 3 b) 2 0 + 1)) 9 from rfl) (by first | (simp [cLiftC, g_1, nc_2, g_3, nd_4, g_5, nd_6, g_7, nd_8, eq_false c_9, eq_false c_10, eq_false c_11, nc_12, nc_13, nc_14, nc_15]; done) | (simp_all [cLiftC]; done)) (by decide) (by decide) hP hI hS dX3_lift_133
              · have nc_15 : ¬ (sp 1) < 12 := fun h => c_15 ((nI_ltI (a := (sp 1)) (b := 12) (by omega) (by omega)).mpr h)
                exact e_throw (text := "no more lifts") hQ hx hb hml hl9 hown hts hT hex hlocks hP hS tw_IS (by decide +kernel) (⟨3, .tail _ (.tail _ (.head _)), by first | (simp [cLiftC, g_1, nc_2, g_3, nd_4, g_5, nd_6, g_7, nd_8, eq_false c_9, eq_false c_10, eq_false c_11, nc_12, nc_13, nc_14, nc_15]; done) | (simp_all [cLiftC]; done)⟩) hl.1 (by decide) (Nat.le_of_ble_eq_true rfl) (by decide) (by decide) (by decide) (by decide) dX3_lift_94 dX3_lift_97 dX3_lift_98 dX3_lift_100 dX3_lift_103
            · have nc_14 : (cOut v d_8) = true := bI_n0.mp c_14
              exact e_throw (text := "written out") hQ hx hb hml hl9 hown hts hT hex hlocks hP hS tw_IS (by decide +kernel) (⟨3, .tail _ (.tail _ (.head _)), by first | (simp [cLiftC, g_1, nc_2, g_3, nd_4, g_5, nd_6, g_7, nd_8, eq_false c_9, eq_false c_10, eq_false c_11, nc_12, nc_13, nc_14]; done) | (simp_all [cLiftC]; done)⟩) hl.1 (by decide) (Nat.le_of_ble_eq_true rfl) (by decide) (by decide) (by decide) (by decide) dX3_lift_72 dX3_lift_75 dX3_lift_76 dX3_lift_78 dX3_lift_81
      · skip
        exact e_throw (text := "two of them are one") hQ hx hb hml hl9 hown hts hT hex hlocks hP hS tw_IA (by decide +kernel) (⟨2, .tail _ (.head _), by first | (simp [cLiftC, g_1, nc_2, g_3, nd_4, g_5, nd_6, g_7, nd_8, eq_false c_9, eq_false c_10, eq_true c_11]; done) | (simp_all [cLiftC]; done)⟩) hl.1 (by decide) (Nat.le_of_ble_eq_true rfl) (by decide) (by decide) (by decide) (by decide) dX3_lift_37 dX3_lift_40 dX3_lift_41 dX3_lift_43 dX3_lift_46

set_option maxRecDepth 100000 in
set_option maxHeartbeats 4000000 in
theorem c_lift2 {l : Launch} (hl9 : l.stackTraces = false) {X : eD} {z0 t0 mi : Nat} {ad kd sp : Nat → Nat} {v : eV} {a0 : Nat} (hc : cK kd sp) (hcv : cI sp v) (c0 d a b : Int32) (h80 : sp 1 < 12 → kd (80 + sp 1) = 0) (ha : ad (80 + sp 1) = a0) (u6 : ∀ m, kd m = 8 → m = 2) (hs8z : sp 1 = 10) (hcap : sp 3 = 10) (hp : sp 6 = 9) (h9 : kd 9 = 9) (h10 : kd 10 = 0) (u9 : ∀ m, kd m = 9 → m = 9) (u16 : ∀ m, kd m ≠ 16) (hs4 : sp 4 = 15) (hs9c : sp 9 = 0) (hel : ∀ i, i < 10 → kd (80 + i) = 4) (ha10 : ad 10 = a0 + 1) : eTA l yX3_lift cX3_lift 5 (some .int) 14 60 2000 [.ref (ad 0), .int c0, .int d, .int a, .int b] X z0 t0 mi ad kd sp v a0 (some (.int (nI (sp 1)))) (kup (kup (kup (kup kd (80 + sp 1) 4) 10 16) 9 0) 10 9) (upN (upN (upN (upN (upN sp 9 10) 6 10) 3 15) 8 (sp 1 + 1)) 1 (sp 1 + 1)) (e_z (e_set ((e_set (e_set (e_set (e_set (e_set (e_z v (80 + sp 1)) (80 + sp 1) 4 0) (80 + sp 1) 0 c0) (80 + sp 1) 1 d) (80 + sp 1) 2 a) (80 + sp 1) 3 b)) 2 0 ((e_set (e_set (e_set (e_set (e_set (e_z v (80 + sp 1)) (80 + sp 1) 4 0) (80 + sp 1) 0 c0) (80 + sp 1) 1 d) (80 + sp 1) 2 a) (80 + sp 1) 3 b) 2 0 + 1)) 10) (cLiftC v (sp 0) (sp 1) c0 d a b = 0) (xP [(xIO, 1), (xIA, 2), (xIS, 3)] (cLiftC v (sp 0) (sp 1) c0 d a b)) := by
  refine e_thrA (by decide +kernel) (Nat.le_of_ble_eq_true rfl) ?_
  intro p e s m args below meth c hx hb hml hown hts hW hT hex hlocks Q hQ hret ls hl
  obtain ⟨⟨hz, hP, hI, hK⟩, hsz, hL⟩ := hW
  have hl : lv_has ls 5 [(0, .ref (ad 0)), (1, .int c0), (2, .int d), (3, .int a), (4, .int b)] := hl
  have hS : va_S (e_A z0) s.heap s.heap [] := va_S.rf
  have hc0 := hc.2.2.2.2.2
  have hs8 := hc0.1
  have hs12 := hc0.2.1
  have hq2 := hc0.2.2.1
  have hq3 := hc0.2.2.2.1
  have hq4 := hc0.2.2.2.2.1
  have hq5 := hc0.2.2.2.2.2.1
  have hq6 := hc0.2.2.2.2.2.2.1
  have hq7 := hc0.2.2.2.2.2.2.2
  refine lv_iload_n hx hb dX3_lift_0 rfl (lv_at hl 1 rfl) ?_
  by_cases hg_1 : ¬ (cOkC c0 = true)
  · refine e_cSX (As := [.int c0]) (rest := []) hQ hex hlocks (fun E h => ⟨1, by rw [h.1]; exact .head _, by simp [cLiftC, h.2]⟩) hx hb hml hown hts hT (c_X3_needCount (l := l) hl9 (v := v) c0) cw_RX3_74 (by decide) (by decide) hz hP hI hK hS rfl hl.1 rfl (Nat.le_of_ble_eq_true rfl) ⟨by decide, by decide⟩ (by decide) (by decide) dX3_lift_1 (fun H locs g hz hP hS => absurd g hg_1)
  have g_1 : cOkC c0 = true := Decidable.not_not.mp hg_1
  refine e_cS (As := [.int c0]) (rest := []) hx hb hml hown hts (c_needC_ok (l := l) (v := v) c0 g_1) cw_RX3_74 (by decide) (by decide) hz hP hI hK rfl hl.1 rfl (Nat.le_of_ble_eq_true rfl) ⟨by decide, by decide⟩ dX3_lift_1 ?_
  obtain ⟨c_2, hc_2, ec_2⟩ := cOkC_nat g_1
  have nc_2 := nN_of ec_2 (by omega)
  refine lv_aload_n hx hb dX3_lift_4 rfl (lv_at hl 0 rfl) ?_
  refine lv_iload_n hx hb dX3_lift_5 rfl (lv_at hl 2 rfl) ?_
  by_cases hg_3 : ¬ (cOkN (sp 0) d = true)
  · refine e_cVX (As := [.int d]) (rest := []) hQ hex hlocks (fun E h => ⟨1, by rw [h.1]; exact .head _, by simp [cLiftC, h.2, g_1, nc_2]⟩) hx hb hml hown hts hT 0 (c_X3_needDancer (l := l) hl9 (v := v) hc d) cw_RX3_70 (by decide) (by decide) hz hP hI hK hS hc.1.1 (by decide) rfl rfl rfl hl.1 rfl (Nat.le_of_ble_eq_true rfl) ⟨by decide, by decide⟩ (by decide) (by decide) dX3_lift_6 (fun H locs g hz hP hS => absurd g hg_3)
  have g_3 : cOkN (sp 0) d = true := Decidable.not_not.mp hg_3
  refine e_cV (As := [.int d]) (rest := []) hx hb hml hown hts 0 (c_needD_ok (l := l) (v := v) hc d g_3) cw_RX3_70 (by decide) (by decide) hz hP hI hK hc.1.1 (by decide) rfl rfl rfl hl.1 rfl (Nat.le_of_ble_eq_true rfl) ⟨by decide, by decide⟩ dX3_lift_6 ?_
  obtain ⟨d_4, hd_4, ed_4⟩ := cOkN_nat (by omega) g_3
  have nd_4 := nN_of ed_4 (by omega)
  refine lv_aload_n hx hb dX3_lift_9 rfl (lv_at hl 0 rfl) ?_
  refine lv_iload_n hx hb dX3_lift_10 rfl (lv_at hl 3 rfl) ?_
  by_cases hg_5 : ¬ (cOkN (sp 0) a = true)
  · refine e_cVX (As := [.int a]) (rest := []) hQ hex hlocks (fun E h => ⟨1, by rw [h.1]; exact .head _, by simp [cLiftC, h.2, g_1, nc_2, g_3, nd_4]⟩) hx hb hml hown hts hT 0 (c_X3_needDancer (l := l) hl9 (v := v) hc a) cw_RX3_70 (by decide) (by decide) hz hP hI hK hS hc.1.1 (by decide) rfl rfl rfl hl.1 rfl (Nat.le_of_ble_eq_true rfl) ⟨by decide, by decide⟩ (by decide) (by decide) dX3_lift_11 (fun H locs g hz hP hS => absurd g hg_5)
  have g_5 : cOkN (sp 0) a = true := Decidable.not_not.mp hg_5
  refine e_cV (As := [.int a]) (rest := []) hx hb hml hown hts 0 (c_needD_ok (l := l) (v := v) hc a g_5) cw_RX3_70 (by decide) (by decide) hz hP hI hK hc.1.1 (by decide) rfl rfl rfl hl.1 rfl (Nat.le_of_ble_eq_true rfl) ⟨by decide, by decide⟩ dX3_lift_11 ?_
  obtain ⟨d_6, hd_6, ed_6⟩ := cOkN_nat (by omega) g_5
  have nd_6 := nN_of ed_6 (by omega)
  refine lv_aload_n hx hb dX3_lift_14 rfl (lv_at hl 0 rfl) ?_
  refine lv_iload hx hb dX3_lift_15 (lv_at hl 4 rfl) ?_
  by_cases hg_7 : ¬ (cOkN (sp 0) b = true)
  · refine e_cVX (As := [.int b]) (rest := []) hQ hex hlocks (fun E h => ⟨1, by rw [h.1]; exact .head _, by simp [cLiftC, h.2, g_1, nc_2, g_3, nd_4, g_5, nd_6]⟩) hx hb hml hown hts hT 0 (c_X3_needDancer (l := l) hl9 (v := v) hc b) cw_RX3_70 (by decide) (by decide) hz hP hI hK hS hc.1.1 (by decide) rfl rfl rfl hl.1 rfl (Nat.le_of_ble_eq_true rfl) ⟨by decide, by decide⟩ (by decide) (by decide) dX3_lift_17 (fun H locs g hz hP hS => absurd g hg_7)
  have g_7 : cOkN (sp 0) b = true := Decidable.not_not.mp hg_7
  refine e_cV (As := [.int b]) (rest := []) hx hb hml hown hts 0 (c_needD_ok (l := l) (v := v) hc b g_7) cw_RX3_70 (by decide) (by decide) hz hP hI hK hc.1.1 (by decide) rfl rfl rfl hl.1 rfl (Nat.le_of_ble_eq_true rfl) ⟨by decide, by decide⟩ dX3_lift_17 ?_
  obtain ⟨d_8, hd_8, ed_8⟩ := cOkN_nat (by omega) g_7
  have nd_8 := nN_of ed_8 (by omega)
  refine lv_iload_n hx hb dX3_lift_20 rfl (lv_at hl 2 rfl) ?_
  refine lv_iload_n hx hb dX3_lift_21 rfl (lv_at hl 3 rfl) ?_
  refine lv_icmp_eq (tgt := 37) hx hb dX3_lift_22 (by decide) (fun c_9 => ?_) (fun c_9 => ?_)
  · skip
    exact e_throw (text := "two of them are one") hQ hx hb hml hl9 hown hts hT hex hlocks hP hS tw_IA (by decide +kernel) (⟨2, .tail _ (.head _), by first | (simp [cLiftC, g_1, nc_2, g_3, nd_4, g_5, nd_6, g_7, nd_8, eq_true c_9]; done) | (simp_all [cLiftC]; done)⟩) hl.1 (by decide) (Nat.le_of_ble_eq_true rfl) (by decide) (by decide) (by decide) (by decide) dX3_lift_37 dX3_lift_40 dX3_lift_41 dX3_lift_43 dX3_lift_46
  · skip
    refine lv_iload_n hx hb dX3_lift_25 rfl (lv_at hl 2 rfl) ?_
    refine lv_iload hx hb dX3_lift_26 (lv_at hl 4 rfl) ?_
    refine lv_icmp_eq (tgt := 37) hx hb dX3_lift_28 (by decide) (fun c_10 => ?_) (fun c_10 => ?_)
    · skip
      exact e_throw (text := "two of them are one") hQ hx hb hml hl9 hown hts hT hex hlocks hP hS tw_IA (by decide +kernel) (⟨2, .tail _ (.head _), by first | (simp [cLiftC, g_1, nc_2, g_3, nd_4, g_5, nd_6, g_7, nd_8, eq_false c_9, eq_true c_10]; done) | (simp_all [cLiftC]; done)⟩) hl.1 (by decide) (Nat.le_of_ble_eq_true rfl) (by decide) (by decide) (by decide) (by decide) dX3_lift_37 dX3_lift_40 dX3_lift_41 dX3_lift_43 dX3_lift_46
    · skip
      refine lv_iload_n hx hb dX3_lift_31 rfl (lv_at hl 3 rfl) ?_
      refine lv_iload hx hb dX3_lift_32 (lv_at hl 4 rfl) ?_
      refine lv_icmp_ne (tgt := 47) hx hb dX3_lift_34 (by decide) (fun c_11 => ?_) (fun c_11 => ?_)
      · skip
        refine lv_aload_n hx hb dX3_lift_47 rfl (lv_at hl 0 rfl) ?_
        refine lv_iload_n hx hb dX3_lift_48 rfl (lv_at hl 2 rfl) ?_
        refine e_nrm (y := nI d_4) ed_4 ?_
        refine e_cV (As := [.int (nI d_4)]) (rest := []) hx hb hml hown hts 0 (c_X3_isOut (l := l) (v := v) hc hcv d_4 (by omega)) cw_RX3_126 (by decide) (by decide) hz hP hI hK hc.1.1 (by decide) rfl rfl rfl hl.1 rfl (Nat.le_of_ble_eq_true rfl) ⟨by decide, by decide⟩ dX3_lift_49 ?_
        refine lv_if_ne (tgt := 72) hx hb dX3_lift_52 (by decide) (fun c_12 => ?_) (fun c_12 => ?_)
        · have nc_12 : (cOut v d_4) = true := bI_n0.mp c_12
          exact e_throw (text := "written out") hQ hx hb hml hl9 hown hts hT hex hlocks hP hS tw_IS (by decide +kernel) (⟨3, .tail _ (.tail _ (.head _)), by first | (simp [cLiftC, g_1, nc_2, g_3, nd_4, g_5, nd_6, g_7, nd_8, eq_false c_9, eq_false c_10, eq_false c_11, nc_12]; done) | (simp_all [cLiftC]; done)⟩) hl.1 (by decide) (Nat.le_of_ble_eq_true rfl) (by decide) (by decide) (by decide) (by decide) dX3_lift_72 dX3_lift_75 dX3_lift_76 dX3_lift_78 dX3_lift_81
        · have nc_12 : (cOut v d_4) = false := bI_0.mp c_12
          refine lv_aload_n hx hb dX3_lift_55 rfl (lv_at hl 0 rfl) ?_
          refine lv_iload_n hx hb dX3_lift_56 rfl (lv_at hl 3 rfl) ?_
          refine e_nrm (y := nI d_6) ed_6 ?_
          refine e_cV (As := [.int (nI d_6)]) (rest := []) hx hb hml hown hts 0 (c_X3_isOut (l := l) (v := v) hc hcv d_6 (by omega)) cw_RX3_126 (by decide) (by decide) hz hP hI hK hc.1.1 (by decide) rfl rfl rfl hl.1 rfl (Nat.le_of_ble_eq_true rfl) ⟨by decide, by decide⟩ dX3_lift_57 ?_
          refine lv_if_ne (tgt := 72) hx hb dX3_lift_60 (by decide) (fun c_13 => ?_) (fun c_13 => ?_)
          · have nc_13 : (cOut v d_6) = true := bI_n0.mp c_13
            exact e_throw (text := "written out") hQ hx hb hml hl9 hown hts hT hex hlocks hP hS tw_IS (by decide +kernel) (⟨3, .tail _ (.tail _ (.head _)), by first | (simp [cLiftC, g_1, nc_2, g_3, nd_4, g_5, nd_6, g_7, nd_8, eq_false c_9, eq_false c_10, eq_false c_11, nc_12, nc_13]; done) | (simp_all [cLiftC]; done)⟩) hl.1 (by decide) (Nat.le_of_ble_eq_true rfl) (by decide) (by decide) (by decide) (by decide) dX3_lift_72 dX3_lift_75 dX3_lift_76 dX3_lift_78 dX3_lift_81
          · have nc_13 : (cOut v d_6) = false := bI_0.mp c_13
            refine lv_aload_n hx hb dX3_lift_63 rfl (lv_at hl 0 rfl) ?_
            refine lv_iload hx hb dX3_lift_64 (lv_at hl 4 rfl) ?_
            refine e_nrm (y := nI d_8) ed_8 ?_
            refine e_cV (As := [.int (nI d_8)]) (rest := []) hx hb hml hown hts 0 (c_X3_isOut (l := l) (v := v) hc hcv d_8 (by omega)) cw_RX3_126 (by decide) (by decide) hz hP hI hK hc.1.1 (by decide) rfl rfl rfl hl.1 rfl (Nat.le_of_ble_eq_true rfl) ⟨by decide, by decide⟩ dX3_lift_66 ?_
            refine lv_if_eq (tgt := 82) hx hb dX3_lift_69 (by decide) (fun c_14 => ?_) (fun c_14 => ?_)
            · have nc_14 : (cOut v d_8) = false := bI_0.mp c_14
              refine lv_aload_n hx hb dX3_lift_82 rfl (lv_at hl 0 rfl) ?_
              refine e_getf hx hb hts inX3 hown hK hP 0 5 hc.1.1 (by decide) rfl rfl 1 (by decide) aw_222 (fun _ h => h) rfl dX3_lift_83 ?_
              refine e_cV (As := []) (rest := []) hx hb hml hown hts 2 (c_size2 (l := l) (v := v) hc.1.2.2.1) cw_RX3_46 (by decide) (by decide) hz hP hI hK hc.1.2.2.1 (by decide) rfl rfl rfl hl.1 rfl (Nat.le_of_ble_eq_true rfl) ⟨by decide, by decide⟩ dX3_lift_86 ?_
              refine lv_bipush (v := 12) hx hb dX3_lift_89 (by decide) ?_
              refine lv_icmp_lt (tgt := 104) hx hb dX3_lift_91 (by decide) (fun c_15 => ?_) (fun c_15 => ?_)
              · have nc_15 : (sp 1) < 12 := (nI_ltI (a := (sp 1)) (b := 12) (by omega) (by omega)).mp c_15
                have hs9 : sp 1 < 12 := by omega
                refine lv_aload_n hx hb dX3_lift_104 rfl (lv_at hl 0 rfl) ?_
                refine e_getf hx hb hts inX3 hown hK hP 0 5 hc.1.1 (by decide) rfl rfl 1 (by decide) aw_222 (fun _ h => h) rfl dX3_lift_105 ?_
                refine e_new hx hb hts inX1 tyX1 tyX1_ok hown aw_223 aw_516 aw_144 hK hP hI hz hS (80 + sp 1) 4 (h80 hs9) ((ha : ad (80 + sp 1) = _).trans (by omega)) (ci := 4) rfl rfl (fun j hj => by rcases (show j = 0 ∨ j = 1 ∨ j = 2 ∨ j = 3 ∨ j = 4 by omega) with rfl | rfl | rfl | rfl | rfl <;> (simp only [e_z_s, e_rr0]; rfl)) (by decide) (by decide) dX3_lift_108 (fun H hz1 hP hI hS => ?_)
                have hsz : H.size = a0 + 1 := by omega
                have hz : z0 ≤ H.size := by omega
                refine lv_dup hx hb dX3_lift_111 rfl ?_
                refine lv_iload_n hx hb dX3_lift_112 rfl (lv_at hl 1 rfl) ?_
                refine lv_iload_n hx hb dX3_lift_113 rfl (lv_at hl 2 rfl) ?_
                refine lv_iload_n hx hb dX3_lift_114 rfl (lv_at hl 3 rfl) ?_
                refine lv_iload hx hb dX3_lift_115 (lv_at hl 4 rfl) ?_
                refine e_cIA (As := [.int c0, .int d, .int a, .int b]) (rest := [.ref (ad (80 + sp 1)), .ref (ad 2)]) hx hb hml hown hts hL (80 + sp 1) (c_X1_init (l := l) (v := (e_z v (80 + sp 1))) (80 + sp 1) c0 d a b kup_s) cwi_RX3_133 (by decide) (by decide) hz hsz hP hI hK hS rfl hl.1 rfl (Nat.le_of_ble_eq_true rfl) ⟨by decide, by decide⟩ dX3_lift_117 (fun H locs hz hz1 hP hI hS => ?_)
                have hsz : H.size = a0 + 1 := by omega
                have hz : z0 ≤ H.size := by omega
                refine e_cVA (As := [.ref (ad (80 + sp 1))]) (rest := []) hx hb hml hown hts hL 2 (c_add_L2 (l := l) (v := (e_set (e_set (e_set (e_set (e_set (e_z v (80 + sp 1)) (80 + sp 1) 4 0) (80 + sp 1) 0 c0) (80 + sp 1) 1 d) (80 + sp 1) 2 a) (80 + sp 1) 3 b)) (kup_n (by omega) hc.1.2.2.1) (fun m h => kup_u h (by decide) u6) hs8z hp (by omega) (kup_n (by omega) h9) (kup_n (by omega) h10) (fun m h => kup_u h (by decide) u9) (fun m h => kup_ne h (by decide) u16) hcap (by omega) hs4 hs9c (fun i hi => kup_n (by omega) (hel i hi)) (ha10.trans (by omega)) kup_s) cw_RX3_66 (by decide) (by decide) hz hsz hP hI hK hS (kup_n (by omega) hc.1.2.2.1) (by decide) rfl rfl rfl hl.1 rfl (Nat.le_of_ble_eq_true rfl) ⟨by decide, by decide⟩ dX3_lift_120 (fun H locs hz hz1 hP hI hS => ?_)
                have hsz : H.size = a0 + 2 := by omega
                have hz : z0 ≤ H.size := by omega
                refine lv_pop hx hb dX3_lift_123 rfl ?_
                refine lv_aload_n hx hb dX3_lift_124 rfl (lv_at hl 0 rfl) ?_
                refine e_getf hx hb hts inX3 hown hK hP 0 5 (kup_n (by omega) (kup_n (by omega) (kup_n (by omega) (kup_n (by omega) hc.1.1)))) (by decide) rfl rfl 1 (by decide) aw_222 (fun _ h => h) rfl dX3_lift_125 ?_
                refine e_cV (As := []) (rest := []) hx hb hml hown hts 2 (c_size2 (l := l) (v := (e_z (e_set (e_set (e_set (e_set (e_set (e_set (e_z v (80 + sp 1)) (80 + sp 1) 4 0) (80 + sp 1) 0 c0) (80 + sp 1) 1 d) (80 + sp 1) 2 a) (80 + sp 1) 3 b) 2 0 ((e_set (e_set (e_set (e_set (e_set (e_z v (80 + sp 1)) (80 + sp 1) 4 0) (80 + sp 1) 0 c0) (80 + sp 1) 1 d) (80 + sp 1) 2 a) (80 + sp 1) 3 b) 2 0 + 1)) 10)) (kup_n (by omega) (kup_n (by omega) (kup_n (by omega) (kup_n (by omega) hc.1.2.2.1))))) cw_RX3_46 (by decide) (by decide) hz hP hI hK (kup_n (by omega) (kup_n (by omega) (kup_n (by omega) (kup_n (by omega) hc.1.2.2.1)))) (by decide) rfl rfl rfl hl.1 rfl (Nat.le_of_ble_eq_true rfl) ⟨by decide, by decide⟩ dX3_lift_128 ?_
                refine e_nrm (y := nI (sp 1 + 1)) rfl ?_
                refine lv_iconst (v := 1) hx hb dX3_lift_131 (by decide) ?_
                refine lv_isub hx hb dX3_lift_132 ?_
                refine e_nrm (y := (nI ((sp 1 + 1) - 1))) (pk_sub (a := (sp 1 + 1)) (b := 1) (by omega)) ?_
                exact hret _ _ _ _ _ _ _ _ _ _ (show (kup (kup (kup (kup kd (80 + sp 1) 4) 10 16) 9 0) 10 9) = (kup (kup (kup (kup kd (80 + sp 1) 4) 10 16) 9 0) 10 9) from rfl) (show (upN (upN (upN (upN (upN sp 9 10) 6 10) 3 15) 8 (sp 1 + 1)) 1 (sp 1 + 1)) = upN (upN (upN (upN (upN sp 9 10) 6 10) 3 15) 8 (sp 1 + 1)) 1 (sp 1 + 1) from rfl) (show (nI ((sp 1 + 1) - 1)) = nI (sp 1) from by rw [Nat.add_sub_cancel]) (show (e_z (e_set (e_set (e_set (e_set (e_set (e_set (e_z v (80 + sp 1)) (80 + sp 1) 4 0) (80 + sp 1) 0 c0) (80 + sp 1) 1 d) (80 + sp 1) 2 a) (80 + sp 1) 3 b) 2 0 ((e_set (e_set (e_set (e_set (e_set (e_z v (80 + sp 1)) (80 + sp 1) 4 0) (80 + sp 1) 0 c0) (80 + sp 1) 1 d) (80 + sp 1) 2 a) (80 + sp 1) 3 b) 2 0 + 1)) 10) = e_z (e_set ((e_set (e_set (e_set (e_set (e_set (e_z v (80 + sp 1)) (80 + sp 1) 4 0) (80 + sp 1) 0 c0) (80 + sp 1) 1 d) (80 + sp 1) 2 a) (80 + sp 1) 3 b)) 2 0 ((e_set (e_set (e_set (e_set (e_set (e_z v (80 + sp 1)) (80 + sp 1) 4 0) (80 + sp 1) 0 c0) (80 + sp 1) 1 d) (80 + sp 1) 2 a) (80 + sp 1) 3 b) 2 0 + 1)) 10 from rfl) (by first | (simp [cLiftC, g_1, nc_2, g_3, nd_4, g_5, nd_6, g_7, nd_8, eq_false c_9, eq_false c_10, eq_false c_11, nc_12, nc_13, nc_14, nc_15]; done) | (simp_all [cLiftC]; done)) (by decide) (by decide) hP hI hS dX3_lift_133
              · have nc_15 : ¬ (sp 1) < 12 := fun h => c_15 ((nI_ltI (a := (sp 1)) (b := 12) (by omega) (by omega)).mpr h)
                exact e_throw (text := "no more lifts") hQ hx hb hml hl9 hown hts hT hex hlocks hP hS tw_IS (by decide +kernel) (⟨3, .tail _ (.tail _ (.head _)), by first | (simp [cLiftC, g_1, nc_2, g_3, nd_4, g_5, nd_6, g_7, nd_8, eq_false c_9, eq_false c_10, eq_false c_11, nc_12, nc_13, nc_14, nc_15]; done) | (simp_all [cLiftC]; done)⟩) hl.1 (by decide) (Nat.le_of_ble_eq_true rfl) (by decide) (by decide) (by decide) (by decide) dX3_lift_94 dX3_lift_97 dX3_lift_98 dX3_lift_100 dX3_lift_103
            · have nc_14 : (cOut v d_8) = true := bI_n0.mp c_14
              exact e_throw (text := "written out") hQ hx hb hml hl9 hown hts hT hex hlocks hP hS tw_IS (by decide +kernel) (⟨3, .tail _ (.tail _ (.head _)), by first | (simp [cLiftC, g_1, nc_2, g_3, nd_4, g_5, nd_6, g_7, nd_8, eq_false c_9, eq_false c_10, eq_false c_11, nc_12, nc_13, nc_14]; done) | (simp_all [cLiftC]; done)⟩) hl.1 (by decide) (Nat.le_of_ble_eq_true rfl) (by decide) (by decide) (by decide) (by decide) dX3_lift_72 dX3_lift_75 dX3_lift_76 dX3_lift_78 dX3_lift_81
      · skip
        exact e_throw (text := "two of them are one") hQ hx hb hml hl9 hown hts hT hex hlocks hP hS tw_IA (by decide +kernel) (⟨2, .tail _ (.head _), by first | (simp [cLiftC, g_1, nc_2, g_3, nd_4, g_5, nd_6, g_7, nd_8, eq_false c_9, eq_false c_10, eq_true c_11]; done) | (simp_all [cLiftC]; done)⟩) hl.1 (by decide) (Nat.le_of_ble_eq_true rfl) (by decide) (by decide) (by decide) (by decide) dX3_lift_37 dX3_lift_40 dX3_lift_41 dX3_lift_43 dX3_lift_46

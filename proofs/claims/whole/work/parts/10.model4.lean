theorem aw_95 : Cond.methodLink RX4 113 yX4_cost ∈ AW := aw_of (List.mem_of_getElem? (i := 873) (by decide +kernel)) (by decide +kernel)
theorem aw_96 : Cond.instanceMethod yX4_cost ∈ AW := aw_of (List.mem_of_getElem? (i := 875) (by decide +kernel)) (by decide +kernel)
theorem aw_97 : Cond.selects RX4 yX4_cost yX4_cost ∈ AW := aw_of (List.mem_of_getElem? (i := 37) (by decide +kernel)) (by decide +kernel)
set_option maxRecDepth 100000 in
theorem aw_98 : Cond.code yX4_cost cX4_cost 6 (some .int) ∈ AW := aw_of (List.mem_of_getElem? (i := 876) rfl) (by decide +kernel)
theorem cw_RX4_113 : e_cwV RX4 113 RX4 yX4_cost cX4_cost 6 (some .int) 3 := ⟨aw_95, aw_96, aw_97, aw_4, aw_98, rfl, by decide +kernel, by decide +kernel, by decide +kernel⟩
theorem aw_100 : Cond.methodLink RX4 117 yX4_isBusy ∈ AW := aw_of (List.mem_of_getElem? (i := 881) (by decide +kernel)) (by decide +kernel)
theorem aw_101 : Cond.instanceMethod yX4_isBusy ∈ AW := aw_of (List.mem_of_getElem? (i := 883) (by decide +kernel)) (by decide +kernel)
theorem aw_102 : Cond.selects RX4 yX4_isBusy yX4_isBusy ∈ AW := aw_of (List.mem_of_getElem? (i := 39) (by decide +kernel)) (by decide +kernel)
set_option maxRecDepth 100000 in
theorem aw_103 : Cond.code yX4_isBusy cX4_isBusy 6 (some .boolean) ∈ AW := aw_of (List.mem_of_getElem? (i := 884) rfl) (by decide +kernel)
theorem cw_RX4_117 : e_cwV RX4 117 RX4 yX4_isBusy cX4_isBusy 6 (some .boolean) 2 := ⟨aw_100, aw_101, aw_102, aw_4, aw_103, rfl, by decide +kernel, by decide +kernel, by decide +kernel⟩
theorem aw_105 : Cond.methodLink RX4 123 yX4_comes ∈ AW := aw_of (List.mem_of_getElem? (i := 905) (by decide +kernel)) (by decide +kernel)
theorem aw_106 : Cond.instanceMethod yX4_comes ∈ AW := aw_of (List.mem_of_getElem? (i := 907) (by decide +kernel)) (by decide +kernel)
theorem aw_107 : Cond.selects RX4 yX4_comes yX4_comes ∈ AW := aw_of (List.mem_of_getElem? (i := 42) (by decide +kernel)) (by decide +kernel)
set_option maxRecDepth 100000 in
theorem aw_108 : Cond.code yX4_comes cX4_comes 7 none ∈ AW := aw_of (List.mem_of_getElem? (i := 908) rfl) (by decide +kernel)
theorem cw_RX4_123 : e_cwV RX4 123 RX4 yX4_comes cX4_comes 7 none 3 := ⟨aw_105, aw_106, aw_107, aw_4, aw_108, rfl, by decide +kernel, by decide +kernel, by decide +kernel⟩
theorem aw_110 : Cond.methodLink RX4 120 yX4_canCome ∈ AW := aw_of (List.mem_of_getElem? (i := 901) (by decide +kernel)) (by decide +kernel)
theorem aw_111 : Cond.instanceMethod yX4_canCome ∈ AW := aw_of (List.mem_of_getElem? (i := 903) (by decide +kernel)) (by decide +kernel)
theorem aw_112 : Cond.selects RX4 yX4_canCome yX4_canCome ∈ AW := aw_of (List.mem_of_getElem? (i := 41) (by decide +kernel)) (by decide +kernel)
set_option maxRecDepth 100000 in
theorem aw_113 : Cond.code yX4_canCome cX4_canCome 7 (some .boolean) ∈ AW := aw_of (List.mem_of_getElem? (i := 904) rfl) (by decide +kernel)
theorem cw_RX4_120 : e_cwV RX4 120 RX4 yX4_canCome cX4_canCome 7 (some .boolean) 3 := ⟨aw_110, aw_111, aw_112, aw_4, aw_113, rfl, by decide +kernel, by decide +kernel, by decide +kernel⟩
theorem aw_115 : Cond.methodLink RX4 127 yX4_mends ∈ AW := aw_of (List.mem_of_getElem? (i := 897) (by decide +kernel)) (by decide +kernel)
theorem aw_116 : Cond.instanceMethod yX4_mends ∈ AW := aw_of (List.mem_of_getElem? (i := 899) (by decide +kernel)) (by decide +kernel)
theorem aw_117 : Cond.selects RX4 yX4_mends yX4_mends ∈ AW := aw_of (List.mem_of_getElem? (i := 40) (by decide +kernel)) (by decide +kernel)
set_option maxRecDepth 100000 in
theorem aw_118 : Cond.code yX4_mends cX4_mends 8 (some .int) ∈ AW := aw_of (List.mem_of_getElem? (i := 900) rfl) (by decide +kernel)
theorem cw_RX4_127 : e_cwV RX4 127 RX4 yX4_mends cX4_mends 8 (some .int) 2 := ⟨aw_115, aw_116, aw_117, aw_4, aw_118, rfl, by decide +kernel, by decide +kernel, by decide +kernel⟩
set_option maxRecDepth 100000 in
set_option maxHeartbeats 4000000 in
theorem c_X4_rehearse {l : Launch} {X : eD} {z0 : Nat} {ad kd sp : Nat → Nat} {v : eV} (dn ln : Nat) (hm : mK kd) (hv : mI dn ln v) (r h a b : Int32) : eMu l yX4_rehearse cX4_rehearse 11 (some .int) 3 [.ref (ad 100), .int r, .int h, .int a, .int b] X z0 ad kd sp v (some (.int (mRehV v dn ln r h a b))) (mRehS v dn ln r h a b) := by
  refine e_mutI (by decide +kernel) (Nat.le_of_ble_eq_true rfl) rfl ?_
  intro p e s m args below meth c hx hb hml hown hts hW Q hret ls hl
  obtain ⟨hz, hP, hI, hK⟩ := hW
  have hl : lv_has ls 11 [(0, .ref (ad 100)), (1, .int r), (2, .int h), (3, .int a), (4, .int b)] := hl
  have hS : va_S (e_A z0) s.heap s.heap [] := va_S.rf
  have hd8 := hv.2.2.1
  have hl12 := hv.2.2.2.1
  have J0_44 : ∀ ls : Array Slot, lv_has ls 11 [(0, .ref (ad 100)), (1, .int r), (2, .int h), (3, .int a), (4, .int b)] → W p l e (e_rm 3 0 0) s m args below meth c s.heap [] 0 0 Q (F0 m 44 ls [.int (bI (mRehT r h a b))]) := by
    intro ls hl
    refine lv_istore (lv' := [(5, .int (bI (mRehT r h a b))), (0, .ref (ad 100)), (1, .int r), (2, .int h), (3, .int a), (4, .int b)]) hx hb dX4_rehearse_44 hl (by decide) rfl (fun ls hl => ?_)
    have J46_62 : ∀ ls : Array Slot, lv_has ls 11 [(5, .int (bI (mRehT r h a b))), (0, .ref (ad 100)), (1, .int r), (2, .int h), (3, .int a), (4, .int b)] → W p l e (e_rm 3 0 0) s m args below meth c s.heap [] 0 0 Q (F0 m 62 ls [.int (bI (mRehR r h a b))]) := by
      intro ls hl
      refine lv_istore (lv' := [(6, .int (bI (mRehR r h a b))), (5, .int (bI (mRehT r h a b))), (0, .ref (ad 100)), (1, .int r), (2, .int h), (3, .int a), (4, .int b)]) hx hb dX4_rehearse_62 hl (by decide) rfl (fun ls hl => ?_)
      refine lv_iconst (v := 0) hx hb dX4_rehearse_64 (by decide) ?_
      refine lv_istore (lv' := [(7, .int 0), (6, .int (bI (mRehR r h a b))), (5, .int (bI (mRehT r h a b))), (0, .ref (ad 100)), (1, .int r), (2, .int h), (3, .int a), (4, .int b)]) hx hb dX4_rehearse_65 hl (by decide) rfl (fun ls hl => ?_)
      have J67_94 : ∀ ls : Array Slot, lv_has ls 11 [(7, .int 0), (6, .int (bI (mRehR r h a b))), (5, .int (bI (mRehT r h a b))), (0, .ref (ad 100)), (1, .int r), (2, .int h), (3, .int a), (4, .int b)] → W p l e (e_rm 3 0 0) s m args below meth c s.heap [] 0 0 Q (F0 m 94 ls [.int (bI (mRehK v r h a b))]) := by
        intro ls hl
        refine lv_istore (lv' := [(8, .int (bI (mRehK v r h a b))), (7, .int 0), (6, .int (bI (mRehR r h a b))), (5, .int (bI (mRehT r h a b))), (0, .ref (ad 100)), (1, .int r), (2, .int h), (3, .int a), (4, .int b)]) hx hb dX4_rehearse_94 hl (by decide) rfl (fun ls hl => ?_)
        refine lv_iconst (v := 0) hx hb dX4_rehearse_96 (by decide) ?_
        refine lv_istore (lv' := [(9, .int 0), (8, .int (bI (mRehK v r h a b))), (7, .int 0), (6, .int (bI (mRehR r h a b))), (5, .int (bI (mRehT r h a b))), (0, .ref (ad 100)), (1, .int r), (2, .int h), (3, .int a), (4, .int b)]) hx hb dX4_rehearse_97 hl (by decide) rfl (fun ls hl => ?_)
        have L99 : ∀ (k99 : Nat) (i : Nat) (x7 : Int32) (b8 : Bool), dn - i < k99 → (i ≤ dn) → (x7 = mWho v ln (nN a) (nN b) i) → (b8 = (mRehK v r h a b || mBars v ln (nN a) (nN b) (nN h) i)) →  ∀ ls : Array Slot, lv_has ls 11 [(9, .int (nI i)), (8, .int (bI b8)), (7, .int x7), (6, .int (bI (mRehR r h a b))), (5, .int (bI (mRehT r h a b))), (0, .ref (ad 100)), (1, .int r), (2, .int h), (3, .int a), (4, .int b)] → W p l e (e_rm 3 0 0) s m args below meth c s.heap [] 0 0 Q (F0 m 99 ls []) := by
          intro k99
          induction k99 with
          | zero => intro i x7 b8 hk; exact absurd hk (Nat.not_lt_zero _)
          | succ k99 ih99 =>
            intro i x7 b8 hk99 hi ex7 eb8 ls hl
            refine lv_iload hx hb dX4_rehearse_99 (lv_at hl 0 rfl) ?_
            refine lv_aload_n hx hb dX4_rehearse_101 rfl (lv_at hl 5 rfl) ?_
            refine e_getf hx hb hts inX4 hown hK hP 100 12 (hm 100 (by decide) (by decide)) (by decide) rfl rfl 4 (by decide) aw_0 (fun _ h => h) rfl dX4_rehearse_102 ?_
            refine e_nrm (y := nI dn) (hv.1) ?_
            refine lv_icmp_ge (tgt := 203) hx hb dX4_rehearse_105 (by decide) (fun c_1 => ?_) (fun c_1 => ?_)
            · have nc_1 : dn ≤ i := (nI_leI (a := dn) (b := i) (by omega) (by omega)).mp c_1
              have heq7 : x7 = mWho v ln (nN a) (nN b) dn := by rw [ex7, show i = dn by omega]
              have hC : mRehC0 (mRehT r h a b) (mRehR r h a b) b8 = mRehC v dn ln r h a b := by unfold mRehC; rw [eb8, show i = dn by omega]
              refine lv_aload_n hx hb dX4_rehearse_203 rfl (lv_at hl 5 rfl) ?_
              have J204_232 : ∀ ls : Array Slot, lv_has ls 11 [(9, .int (nI i)), (8, .int (bI b8)), (7, .int x7), (6, .int (bI (mRehR r h a b))), (5, .int (bI (mRehT r h a b))), (0, .ref (ad 100)), (1, .int r), (2, .int h), (3, .int a), (4, .int b)] → W p l e (e_rm 3 0 0) s m args below meth c s.heap [] 0 0 Q (F0 m 232 ls [.int (mRehC0 (mRehT r h a b) (mRehR r h a b) b8), .ref (ad 100)]) := by
                intro ls hl
                refine e_cVM (As := [.int (mRehC0 (mRehT r h a b) (mRehR r h a b) b8)]) (rest := []) hx hb hml hown hts 100 (c_X4_holds (l := l) hm (mRehC0 (mRehT r h a b) (mRehR r h a b) b8)) cw_RX4_63 (by decide) (by decide) hz hP hI hK hS (hm 100 (by decide) (by decide)) (by decide) rfl rfl rfl hl.1 rfl (Nat.le_of_ble_eq_true rfl) ⟨Nat.zero_le _, Nat.zero_le _⟩ dX4_rehearse_232 (fun H locs hz hP hS => ?_)
                refine lv_if_eq (tgt := 240) hx hb dX4_rehearse_235 (by decide) (fun c_2 => ?_) (fun c_2 => ?_)
                · have nc_2 : ¬ (0 < (mRehC0 (mRehT r h a b) (mRehR r h a b) b8)) := of_decide_eq_false (bI_0.mp c_2)
                  have nq : ¬ 0 < mRehC v dn ln r h a b := by rw [← hC]; exact nc_2
                  have q0 := mRehC0_ok nc_2
                  obtain ⟨r_3, gr_3, hr_3, er_3⟩ := e_okR (lo := 0) (hi := 2) (by decide) (by decide) rfl (by decide) ((mRehT_ok q0.1).1)
                  have nr_3 := nN_of er_3 (by omega)
                  obtain ⟨h_4, gh_4, hh_4, eh_4⟩ := e_okR (lo := 8) (hi := 20) (by decide) (by decide) rfl (by decide) ((mRehT_ok q0.1).2.1)
                  have nh_4 := nN_of eh_4 (by omega)
                  obtain ⟨a_5, ha_5, ea_5⟩ := e_okC ((mRehT_ok q0.1).2.2.1)
                  have na_5 := nN_of ea_5 (by omega)
                  obtain ⟨b_6, hb_6, eb_6⟩ := e_okC ((mRehT_ok q0.1).2.2.2)
                  have nb_6 := nN_of eb_6 (by omega)
                  rw [na_5, nb_6] at heq7
                  have hP : e_P X ad kd sp (mT v (mRehC v dn ln r h a b)) H := by rw [← hC]; exact hP
                  refine lv_iconst (v := 0) hx hb dX4_rehearse_240 (by decide) ?_
                  refine lv_istore (lv' := [(9, .int 0), (8, .int (bI b8)), (7, .int x7), (6, .int (bI (mRehR r h a b))), (5, .int (bI (mRehT r h a b))), (0, .ref (ad 100)), (1, .int r), (2, .int h), (3, .int a), (4, .int b)]) hx hb dX4_rehearse_241 hl (by decide) rfl (fun ls hl => ?_)
                  have L243 : ∀ (k243 : Nat) (i : Nat) (u : eV), dn - i < k243 → (i ≤ dn) → (u = mCharge (mT v (mRehC v dn ln r h a b)) ln x7 a_5 b_6 i) → (mI dn ln u) → ∀ (H : Heap) (locs : List Loc), z0 ≤ H.size → e_P X ad kd sp u H → va_S (e_A z0) s.heap H locs →  ∀ ls : Array Slot, lv_has ls 11 [(9, .int (nI i)), (7, .int x7), (0, .ref (ad 100)), (1, .int r), (2, .int h), (3, .int a), (4, .int b)] → W p l e (e_rm 3 0 0) s m args below meth c H locs 0 0 Q (F0 m 243 ls []) := by
                    intro k243
                    induction k243 with
                    | zero => intro i u hk; exact absurd hk (Nat.not_lt_zero _)
                    | succ k243 ih243 =>
                      intro i u hk243 hi eu hv H locs hz hP hS ls hl
                      refine lv_iload hx hb dX4_rehearse_243 (lv_at hl 0 rfl) ?_
                      refine lv_aload_n hx hb dX4_rehearse_245 rfl (lv_at hl 2 rfl) ?_
                      refine e_getf hx hb hts inX4 hown hK hP 100 12 (hm 100 (by decide) (by decide)) (by decide) rfl rfl 4 (by decide) aw_0 (fun _ h => h) rfl dX4_rehearse_246 ?_
                      refine e_nrm (y := nI dn) (hv.1) ?_
                      refine lv_icmp_ge (tgt := 292) hx hb dX4_rehearse_249 (by decide) (fun c_7 => ?_) (fun c_7 => ?_)
                      · have nc_7 : dn ≤ i := (nI_leI (a := dn) (b := i) (by omega) (by omega)).mp c_7
                        have hu9 : u = mCharge (mT v (mRehC v dn ln r h a b)) ln x7 a_5 b_6 dn := by rw [eu, show i = dn by omega]
                        refine lv_aload_n hx hb dX4_rehearse_292 rfl (lv_at hl 2 rfl) ?_
                        refine e_getf hx hb hts inX4 hown hK hP 100 12 (hm 100 (by decide) (by decide)) (by decide) rfl rfl 14 (by decide) aw_48 (fun _ h => h) rfl dX4_rehearse_293 ?_
                        refine lv_bipush (v := 13) hx hb dX4_rehearse_296 (by decide) ?_
                        refine lv_iload_n hx hb dX4_rehearse_298 rfl (lv_at hl 3 rfl) ?_
                        refine e_nrm (y := nI r_3) er_3 ?_
                        refine lv_imul hx hb dX4_rehearse_299 ?_
                        refine e_nrm (y := (nI (13 * r_3))) (pk_mul 13 r_3) ?_
                        refine lv_iload_n hx hb dX4_rehearse_300 rfl (lv_at hl 4 rfl) ?_
                        refine e_nrm (y := nI h_4) eh_4 ?_
                        refine lv_iadd hx hb dX4_rehearse_301 ?_
                        refine e_nrm (y := (nI ((13 * r_3) + h_4))) (nI_add (13 * r_3) h_4) ?_
                        refine lv_bipush (v := 8) hx hb dX4_rehearse_302 (by decide) ?_
                        refine lv_isub hx hb dX4_rehearse_304 ?_
                        refine e_nrm (y := (nI (((13 * r_3) + h_4) - 8))) (pk_sub (a := ((13 * r_3) + h_4)) (b := 8) (by omega)) ?_
                        refine lv_iload hx hb dX4_rehearse_305 (lv_at hl 1 rfl) ?_
                        refine e_iast hx hb hK hP hI hS 113 39 (hm 113 (by decide) (by decide)) (((13 * r_3) + h_4) - 8) rfl (by omega) (by omega) dX4_rehearse_307 (fun H locs hz1 hP hS => ?_)
                        have hz := Nat.le_trans hz (Nat.le_of_eq hz1.symm)
                        refine lv_iload hx hb dX4_rehearse_308 (lv_at hl 1 rfl) ?_
                        exact hret _ _ _ _ _ _ (show x7 = mRehV v dn ln r h a b from (by first | (simp [mRehV, bI, nc_1, nr_3, nh_4, na_5, nb_6, ← heq7, nq, nc_7, hu9]; done) | (exfalso; simp_all; done))) (show (e_set u 113 (((13 * r_3) + h_4) - 8) x7) = mRehS v dn ln r h a b from (by first | (simp [mRehV, bI, mRehS, nc_1, nr_3, nh_4, na_5, nb_6, ← heq7, nq, nc_7, hu9]; done) | (exfalso; simp_all; done))) hP hS dX4_rehearse_310
                      · have nc_7 : ¬ dn ≤ i := fun h => c_7 ((nI_leI (a := dn) (b := i) (by omega) (by omega)).mpr h)
                        refine lv_aload_n hx hb dX4_rehearse_252 rfl (lv_at hl 2 rfl) ?_
                        refine e_getf hx hb hts inX4 hown hK hP 100 12 (hm 100 (by decide) (by decide)) (by decide) rfl rfl 3 (by decide) aw_76 (fun _ h => h) rfl dX4_rehearse_253 ?_
                        refine lv_iload hx hb dX4_rehearse_256 (lv_at hl 0 rfl) ?_
                        refine lv_dup2_11 hx hb dX4_rehearse_258 rfl rfl ?_
                        refine e_iald hx hb hK hP 104 8 (hm 104 (by decide) (by decide)) i rfl (by omega) (by decide) dX4_rehearse_259 ?_
                        have J260_284 : ∀ ls : Array Slot, lv_has ls 11 [(9, .int (nI i)), (7, .int x7), (0, .ref (ad 100)), (1, .int r), (2, .int h), (3, .int a), (4, .int b)] → W p l e (e_rm 3 0 0) s m args below meth c H locs 0 0 Q (F0 m 284 ls [.int (if (x7 >>> ((nI i) &&& 31)) &&& 1 = 1 then mCost u ln i a_5 (b_6 + 1 - a_5) else 0), .int (u 104 i), .int (nI i), .ref (ad 104)]) := by
                          intro ls hl
                          refine lv_iadd hx hb dX4_rehearse_284 ?_
                          refine e_iast hx hb hK hP hI hS 104 8 (hm 104 (by decide) (by decide)) i rfl (by omega) (by omega) dX4_rehearse_285 (fun H locs hz1 hP hS => ?_)
                          have hz := Nat.le_trans hz (Nat.le_of_eq hz1.symm)
                          refine lv_iinc (v := (nI (i + 1))) (lv' := [(9, .int (nI (i + 1))), (7, .int x7), (0, .ref (ad 100)), (1, .int r), (2, .int h), (3, .int a), (4, .int b)]) hx hb dX4_rehearse_286 hl (k := 0) rfl (nI_add i 1) (by decide) rfl (fun ls hl => ?_)
                          refine lv_goto (tgt := 243) hx hb dX4_rehearse_289 (by decide) ?_
                          exact ih243 (i + 1) (e_set u 104 i ((u 104 i) + (if (x7 >>> ((nI i) &&& 31)) &&& 1 = 1 then mCost u ln i a_5 (b_6 + 1 - a_5) else 0))) (by omega) (by omega) (by rw [eu]; rfl) (hv) _ _ hz hP hS ls (lv_sub hl [0, 1, 2, 3, 4, 5, 6] rfl)
                        refine lv_iload hx hb dX4_rehearse_260 (lv_at hl 1 rfl) ?_
                        refine lv_iload hx hb dX4_rehearse_262 (lv_at hl 0 rfl) ?_
                        refine lv_ishr hx hb dX4_rehearse_264 ?_
                        refine lv_iconst (v := 1) hx hb dX4_rehearse_265 (by decide) ?_
                        refine lv_iand hx hb dX4_rehearse_266 ?_
                        refine lv_iconst (v := 1) hx hb dX4_rehearse_267 (by decide) ?_
                        refine lv_icmp_ne (tgt := 283) hx hb dX4_rehearse_268 (by decide) (fun c_8 => ?_) (fun c_8 => ?_)
                        · skip
                          refine lv_iconst (v := 0) hx hb dX4_rehearse_283 (by decide) ?_
                          exact e_nrm (show 0 = (if (x7 >>> ((nI i) &&& 31)) &&& 1 = 1 then mCost u ln i a_5 (b_6 + 1 - a_5) else 0) from (by first | (simp [bI, nc_1, nr_3, nh_4, na_5, nb_6, ← heq7, nq, nc_7, eq_false c_8]; done) | (exfalso; simp_all; done))) (J260_284 ls (lv_sub hl [0, 1, 2, 3, 4, 5, 6] rfl))
                        · skip
                          refine lv_aload_n hx hb dX4_rehearse_271 rfl (lv_at hl 2 rfl) ?_
                          refine lv_iload hx hb dX4_rehearse_272 (lv_at hl 0 rfl) ?_
                          refine lv_iload_n hx hb dX4_rehearse_274 rfl (lv_at hl 5 rfl) ?_
                          refine e_nrm (y := nI a_5) ea_5 ?_
                          refine lv_iload hx hb dX4_rehearse_275 (lv_at hl 6 rfl) ?_
                          refine e_nrm (y := nI b_6) eb_6 ?_
                          refine e_cV (As := [.int (nI i), .int (nI a_5), .int (nI b_6)]) (rest := [.int (u 104 i), .int (nI i), .ref (ad 104)]) hx hb hml hown hts 100 (c_X4_cost (l := l) (v := u) dn ln hm hv i a_5 b_6 (by omega) (by omega) (by omega)) cw_RX4_113 (by decide) (by decide) hz hP hI hK (hm 100 (by decide) (by decide)) (by decide) rfl rfl rfl hl.1 rfl (Nat.le_of_ble_eq_true rfl) ⟨Nat.zero_le _, Nat.zero_le _⟩ dX4_rehearse_277 ?_
                          refine lv_goto (tgt := 284) hx hb dX4_rehearse_280 (by decide) ?_
                          exact e_nrm (show (mCost u ln i a_5 (b_6 + 1 - a_5)) = (if (x7 >>> ((nI i) &&& 31)) &&& 1 = 1 then mCost u ln i a_5 (b_6 + 1 - a_5) else 0) from (by first | (simp [bI, nc_1, nr_3, nh_4, na_5, nb_6, ← heq7, nq, nc_7, eq_true c_8]; done) | (exfalso; simp_all; done))) (J260_284 ls (lv_sub hl [0, 1, 2, 3, 4, 5, 6] rfl))
                  exact L243 _ 0 (mT v (mRehC v dn ln r h a b)) (Nat.lt_succ_self _) (Nat.zero_le _) (rfl) (hv) _ _ hz hP hS ls (lv_sub hl [0, 2, 5, 6, 7, 8, 9] rfl)
                · have nc_2 : (0 < (mRehC0 (mRehT r h a b) (mRehR r h a b) b8)) := of_decide_eq_true (bI_n0.mp c_2)
                  have nq : 0 < mRehC v dn ln r h a b := by rw [← hC]; exact nc_2
                  have hP : e_P X ad kd sp (mT v (mRehC v dn ln r h a b)) H := by rw [← hC]; exact hP
                  refine lv_iconst (v := (-1)) hx hb dX4_rehearse_238 (by decide) ?_
                  exact hret _ _ _ _ _ _ (show (-1) = mRehV v dn ln r h a b from (by first | (simp [mRehV, bI, nc_1, nq]; done) | (exfalso; simp_all; done))) (show (mT v (mRehC v dn ln r h a b)) = mRehS v dn ln r h a b from (by first | (simp [mRehV, bI, mRehS, nc_1, nq]; done) | (exfalso; simp_all; done))) hP hS dX4_rehearse_239
              refine lv_iload hx hb dX4_rehearse_204 (lv_at hl 4 rfl) ?_
              refine lv_if_ne (tgt := 213) hx hb dX4_rehearse_206 (by decide) (fun c_9 => ?_) (fun c_9 => ?_)
              · have nc_9 : (mRehT r h a b) = true := bI_n0.mp c_9
                refine lv_iload hx hb dX4_rehearse_213 (lv_at hl 3 rfl) ?_
                refine lv_if_ne (tgt := 222) hx hb dX4_rehearse_215 (by decide) (fun c_10 => ?_) (fun c_10 => ?_)
                · have nc_10 : (mRehR r h a b) = true := bI_n0.mp c_10
                  refine lv_iload hx hb dX4_rehearse_222 (lv_at hl 1 rfl) ?_
                  refine lv_if_eq (tgt := 231) hx hb dX4_rehearse_224 (by decide) (fun c_11 => ?_) (fun c_11 => ?_)
                  · have nc_11 : b8 = false := bI_0.mp c_11
                    refine lv_iconst (v := 0) hx hb dX4_rehearse_231 (by decide) ?_
                    exact e_nrm (show 0 = (mRehC0 (mRehT r h a b) (mRehR r h a b) b8) from (by first | (simp [mRehC0, bI, nc_1, nc_9, nc_10, nc_11]; done) | (exfalso; simp_all; done))) (J204_232 ls (lv_sub hl [0, 1, 2, 3, 4, 5, 6, 7, 8, 9] rfl))
                  · have nc_11 : b8 = true := bI_n0.mp c_11
                    refine lv_iconst (v := 3) hx hb dX4_rehearse_227 (by decide) ?_
                    refine lv_goto (tgt := 232) hx hb dX4_rehearse_228 (by decide) ?_
                    exact e_nrm (show 3 = (mRehC0 (mRehT r h a b) (mRehR r h a b) b8) from (by first | (simp [mRehC0, bI, nc_1, nc_9, nc_10, nc_11]; done) | (exfalso; simp_all; done))) (J204_232 ls (lv_sub hl [0, 1, 2, 3, 4, 5, 6, 7, 8, 9] rfl))
                · have nc_10 : (mRehR r h a b) = false := bI_0.mp c_10
                  refine lv_iconst (v := 2) hx hb dX4_rehearse_218 (by decide) ?_
                  refine lv_goto (tgt := 232) hx hb dX4_rehearse_219 (by decide) ?_
                  exact e_nrm (show 2 = (mRehC0 (mRehT r h a b) (mRehR r h a b) b8) from (by first | (simp [mRehC0, bI, nc_1, nc_9, nc_10]; done) | (exfalso; simp_all; done))) (J204_232 ls (lv_sub hl [0, 1, 2, 3, 4, 5, 6, 7, 8, 9] rfl))
              · have nc_9 : (mRehT r h a b) = false := bI_0.mp c_9
                refine lv_iconst (v := 1) hx hb dX4_rehearse_209 (by decide) ?_
                refine lv_goto (tgt := 232) hx hb dX4_rehearse_210 (by decide) ?_
                exact e_nrm (show 1 = (mRehC0 (mRehT r h a b) (mRehR r h a b) b8) from (by first | (simp [mRehC0, bI, nc_1, nc_9]; done) | (exfalso; simp_all; done))) (J204_232 ls (lv_sub hl [0, 1, 2, 3, 4, 5, 6, 7, 8, 9] rfl))
            · have nc_1 : ¬ dn ≤ i := fun h => c_1 ((nI_leI (a := dn) (b := i) (by omega) (by omega)).mpr h)
              refine lv_iload hx hb dX4_rehearse_108 (lv_at hl 3 rfl) ?_
              refine lv_if_eq (tgt := 203) hx hb dX4_rehearse_110 (by decide) (fun c_12 => ?_) (fun c_12 => ?_)
              · have nc_12 : (mRehR r h a b) = false := bI_0.mp c_12
                have hC : mRehC0 (mRehT r h a b) (mRehR r h a b) b8 = mRehC v dn ln r h a b := by unfold mRehC; rw [nc_12]; exact mRehC0_f
                refine lv_aload_n hx hb dX4_rehearse_203 rfl (lv_at hl 5 rfl) ?_
                have J204_232 : ∀ ls : Array Slot, lv_has ls 11 [(9, .int (nI i)), (8, .int (bI b8)), (7, .int x7), (6, .int (bI (mRehR r h a b))), (5, .int (bI (mRehT r h a b))), (0, .ref (ad 100)), (1, .int r), (2, .int h), (3, .int a), (4, .int b)] → W p l e (e_rm 3 0 0) s m args below meth c s.heap [] 0 0 Q (F0 m 232 ls [.int (mRehC0 (mRehT r h a b) (mRehR r h a b) b8), .ref (ad 100)]) := by
                  intro ls hl
                  refine e_cVM (As := [.int (mRehC0 (mRehT r h a b) (mRehR r h a b) b8)]) (rest := []) hx hb hml hown hts 100 (c_X4_holds (l := l) hm (mRehC0 (mRehT r h a b) (mRehR r h a b) b8)) cw_RX4_63 (by decide) (by decide) hz hP hI hK hS (hm 100 (by decide) (by decide)) (by decide) rfl rfl rfl hl.1 rfl (Nat.le_of_ble_eq_true rfl) ⟨Nat.zero_le _, Nat.zero_le _⟩ dX4_rehearse_232 (fun H locs hz hP hS => ?_)
                  refine lv_if_eq (tgt := 240) hx hb dX4_rehearse_235 (by decide) (fun c_13 => ?_) (fun c_13 => ?_)
                  · have nc_13 : ¬ (0 < (mRehC0 (mRehT r h a b) (mRehR r h a b) b8)) := of_decide_eq_false (bI_0.mp c_13)
                    exact absurd (by rw [nc_12]; exact mRehC0_r) nc_13
                  · have nc_13 : (0 < (mRehC0 (mRehT r h a b) (mRehR r h a b) b8)) := of_decide_eq_true (bI_n0.mp c_13)
                    have nq : 0 < mRehC v dn ln r h a b := by rw [← hC]; exact nc_13
                    have hP : e_P X ad kd sp (mT v (mRehC v dn ln r h a b)) H := by rw [← hC]; exact hP
                    refine lv_iconst (v := (-1)) hx hb dX4_rehearse_238 (by decide) ?_
                    exact hret _ _ _ _ _ _ (show (-1) = mRehV v dn ln r h a b from (by first | (simp [mRehV, bI, nc_1, nc_12, nq]; done) | (exfalso; simp_all; done))) (show (mT v (mRehC v dn ln r h a b)) = mRehS v dn ln r h a b from (by first | (simp [mRehV, bI, mRehS, nc_1, nc_12, nq]; done) | (exfalso; simp_all; done))) hP hS dX4_rehearse_239
                refine lv_iload hx hb dX4_rehearse_204 (lv_at hl 4 rfl) ?_
                refine lv_if_ne (tgt := 213) hx hb dX4_rehearse_206 (by decide) (fun c_14 => ?_) (fun c_14 => ?_)
                · have nc_14 : (mRehT r h a b) = true := bI_n0.mp c_14
                  refine lv_iload hx hb dX4_rehearse_213 (lv_at hl 3 rfl) ?_
                  refine lv_if_ne (tgt := 222) hx hb dX4_rehearse_215 (by decide) (fun c_15 => ?_) (fun c_15 => ?_)
                  · have nc_15 : (mRehR r h a b) = true := bI_n0.mp c_15
                    refine lv_iload hx hb dX4_rehearse_222 (lv_at hl 1 rfl) ?_
                    refine lv_if_eq (tgt := 231) hx hb dX4_rehearse_224 (by decide) (fun c_16 => ?_) (fun c_16 => ?_)
                    · have nc_16 : b8 = false := bI_0.mp c_16
                      refine lv_iconst (v := 0) hx hb dX4_rehearse_231 (by decide) ?_
                      exact e_nrm (show 0 = (mRehC0 (mRehT r h a b) (mRehR r h a b) b8) from (by first | (simp [mRehC0, bI, nc_1, nc_12, nc_14, nc_15, nc_16]; done) | (exfalso; simp_all; done))) (J204_232 ls (lv_sub hl [0, 1, 2, 3, 4, 5, 6, 7, 8, 9] rfl))
                    · have nc_16 : b8 = true := bI_n0.mp c_16
                      refine lv_iconst (v := 3) hx hb dX4_rehearse_227 (by decide) ?_
                      refine lv_goto (tgt := 232) hx hb dX4_rehearse_228 (by decide) ?_
                      exact e_nrm (show 3 = (mRehC0 (mRehT r h a b) (mRehR r h a b) b8) from (by first | (simp [mRehC0, bI, nc_1, nc_12, nc_14, nc_15, nc_16]; done) | (exfalso; simp_all; done))) (J204_232 ls (lv_sub hl [0, 1, 2, 3, 4, 5, 6, 7, 8, 9] rfl))
                  · have nc_15 : (mRehR r h a b) = false := bI_0.mp c_15
                    refine lv_iconst (v := 2) hx hb dX4_rehearse_218 (by decide) ?_
                    refine lv_goto (tgt := 232) hx hb dX4_rehearse_219 (by decide) ?_
                    exact e_nrm (show 2 = (mRehC0 (mRehT r h a b) (mRehR r h a b) b8) from (by first | (simp [mRehC0, bI, nc_1, nc_12, nc_14, nc_15]; done) | (exfalso; simp_all; done))) (J204_232 ls (lv_sub hl [0, 1, 2, 3, 4, 5, 6, 7, 8, 9] rfl))
                · have nc_14 : (mRehT r h a b) = false := bI_0.mp c_14
                  refine lv_iconst (v := 1) hx hb dX4_rehearse_209 (by decide) ?_
                  refine lv_goto (tgt := 232) hx hb dX4_rehearse_210 (by decide) ?_
                  exact e_nrm (show 1 = (mRehC0 (mRehT r h a b) (mRehR r h a b) b8) from (by first | (simp [mRehC0, bI, nc_1, nc_12, nc_14]; done) | (exfalso; simp_all; done))) (J204_232 ls (lv_sub hl [0, 1, 2, 3, 4, 5, 6, 7, 8, 9] rfl))
              · have nc_12 : (mRehR r h a b) = true := bI_n0.mp c_12
                obtain ⟨h_17, gh_17, hh_17, eh_17⟩ := e_okR (lo := 8) (hi := 20) (by decide) (by decide) rfl (by decide) ((mRehT_ok ((mRehR_ok nc_12).1)).2.1)
                have nh_17 := nN_of eh_17 (by omega)
                obtain ⟨a_18, ha_18, ea_18⟩ := e_okC ((mRehT_ok ((mRehR_ok nc_12).1)).2.2.1)
                have na_18 := nN_of ea_18 (by omega)
                obtain ⟨b_19, hb_19, eb_19⟩ := e_okC ((mRehT_ok ((mRehR_ok nc_12).1)).2.2.2)
                have nb_19 := nN_of eb_19 (by omega)
                have J113_137 : ∀ ls : Array Slot, lv_has ls 11 [(9, .int (nI i)), (8, .int (bI b8)), (7, .int x7), (6, .int (bI (mRehR r h a b))), (5, .int (bI (mRehT r h a b))), (0, .ref (ad 100)), (1, .int r), (2, .int h), (3, .int a), (4, .int b)] → W p l e (e_rm 3 0 0) s m args below meth c s.heap [] 0 0 Q (F0 m 137 ls [.int (mCostO v ln i a_18 b_19)]) := by
                  intro ls hl
                  refine lv_istore (lv' := [(10, .int (mCostO v ln i a_18 b_19)), (9, .int (nI i)), (8, .int (bI b8)), (7, .int x7), (6, .int (bI (mRehR r h a b))), (5, .int (bI (mRehT r h a b))), (0, .ref (ad 100)), (1, .int r), (2, .int h), (3, .int a), (4, .int b)]) hx hb dX4_rehearse_137 hl (by decide) rfl (fun ls hl => ?_)
                  refine lv_iload hx hb dX4_rehearse_139 (lv_at hl 3 rfl) ?_
                  have J141_154 : ∀ ls : Array Slot, lv_has ls 11 [(10, .int (mCostO v ln i a_18 b_19)), (9, .int (nI i)), (8, .int (bI b8)), (7, .int x7), (6, .int (bI (mRehR r h a b))), (5, .int (bI (mRehT r h a b))), (0, .ref (ad 100)), (1, .int r), (2, .int h), (3, .int a), (4, .int b)] → W p l e (e_rm 3 0 0) s m args below meth c s.heap [] 0 0 Q (F0 m 154 ls [.int (mBit (mCostO v ln i a_18 b_19) i), .int x7]) := by
                    intro ls hl
                    refine lv_ior hx hb dX4_rehearse_154 ?_
                    refine lv_istore (lv' := [(7, .int (x7 ||| (mBit (mCostO v ln i a_18 b_19) i))), (10, .int (mCostO v ln i a_18 b_19)), (9, .int (nI i)), (8, .int (bI b8)), (6, .int (bI (mRehR r h a b))), (5, .int (bI (mRehT r h a b))), (0, .ref (ad 100)), (1, .int r), (2, .int h), (3, .int a), (4, .int b)]) hx hb dX4_rehearse_155 hl (by decide) rfl (fun ls hl => ?_)
                    refine lv_iload hx hb dX4_rehearse_157 (lv_at hl 3 rfl) ?_
                    have J159_194 : ∀ ls : Array Slot, lv_has ls 11 [(7, .int (x7 ||| (mBit (mCostO v ln i a_18 b_19) i))), (10, .int (mCostO v ln i a_18 b_19)), (9, .int (nI i)), (8, .int (bI b8)), (6, .int (bI (mRehR r h a b))), (5, .int (bI (mRehT r h a b))), (0, .ref (ad 100)), (1, .int r), (2, .int h), (3, .int a), (4, .int b)] → W p l e (e_rm 3 0 0) s m args below meth c s.heap [] 0 0 Q (F0 m 194 ls [.int (bI (mBar1 v ln a_18 b_19 h_17 i)), .int (bI b8)]) := by
                      intro ls hl
                      refine lv_ior hx hb dX4_rehearse_194 ?_
                      refine e_nrm (y := bI (b8 || (mBar1 v ln a_18 b_19 h_17 i))) (bI_or _ _) ?_
                      refine lv_istore (lv' := [(8, .int (bI (b8 || (mBar1 v ln a_18 b_19 h_17 i)))), (7, .int (x7 ||| (mBit (mCostO v ln i a_18 b_19) i))), (10, .int (mCostO v ln i a_18 b_19)), (9, .int (nI i)), (6, .int (bI (mRehR r h a b))), (5, .int (bI (mRehT r h a b))), (0, .ref (ad 100)), (1, .int r), (2, .int h), (3, .int a), (4, .int b)]) hx hb dX4_rehearse_195 hl (by decide) rfl (fun ls hl => ?_)
                      refine lv_iinc (v := (nI (i + 1))) (lv' := [(9, .int (nI (i + 1))), (8, .int (bI (b8 || (mBar1 v ln a_18 b_19 h_17 i)))), (7, .int (x7 ||| (mBit (mCostO v ln i a_18 b_19) i))), (10, .int (mCostO v ln i a_18 b_19)), (6, .int (bI (mRehR r h a b))), (5, .int (bI (mRehT r h a b))), (0, .ref (ad 100)), (1, .int r), (2, .int h), (3, .int a), (4, .int b)]) hx hb dX4_rehearse_197 hl (k := 3) rfl (nI_add i 1) (by decide) rfl (fun ls hl => ?_)
                      refine lv_goto (tgt := 99) hx hb dX4_rehearse_200 (by decide) ?_
                      exact ih99 (i + 1) (x7 ||| (mBit (mCostO v ln i a_18 b_19) i)) (b8 || (mBar1 v ln a_18 b_19 h_17 i)) (by omega) (by omega) (by rw [ex7, na_18, nb_19]; rfl) (by rw [eb8, na_18, nb_19, nh_17, Bool.or_assoc]; rfl)  ls (lv_sub hl [0, 1, 2, 4, 5, 6, 7, 8, 9, 10] rfl)
                    refine lv_iload hx hb dX4_rehearse_159 (lv_at hl 1 rfl) ?_
                    refine lv_if_le (tgt := 193) hx hb dX4_rehearse_161 (by decide) (fun c_20 => ?_) (fun c_20 => ?_)
                    · have nc_20 : ¬ 0 < (mCostO v ln i a_18 b_19) := Int32.not_lt.mpr c_20
                      refine lv_iconst (v := 0) hx hb dX4_rehearse_193 (by decide) ?_
                      exact e_nrm (show 0 = (bI (mBar1 v ln a_18 b_19 h_17 i)) from (by first | (simp [mBar1, bI, nc_1, nc_12, nh_17, na_18, nb_19, nc_20]; done) | (exfalso; simp_all; done))) (J159_194 ls (lv_sub hl [0, 1, 2, 3, 4, 5, 6, 7, 8, 9, 10] rfl))
                    · have nc_20 : 0 < (mCostO v ln i a_18 b_19) := Int32.not_le.mp c_20
                      refine lv_aload_n hx hb dX4_rehearse_164 rfl (lv_at hl 6 rfl) ?_
                      refine lv_iload hx hb dX4_rehearse_165 (lv_at hl 2 rfl) ?_
                      refine lv_iload_n hx hb dX4_rehearse_167 rfl (lv_at hl 8 rfl) ?_
                      refine e_nrm (y := nI h_17) eh_17 ?_
                      refine e_cV (As := [.int (nI i), .int (nI h_17)]) (rest := [.int (bI b8)]) hx hb hml hown hts 100 (c_X4_isBusy (l := l) hm i h_17 (by omega) (by omega) (by omega)) cw_RX4_117 (by decide) (by decide) hz hP hI hK (hm 100 (by decide) (by decide)) (by decide) rfl rfl rfl hl.1 rfl (Nat.le_of_ble_eq_true rfl) ⟨Nat.zero_le _, Nat.zero_le _⟩ dX4_rehearse_168 ?_
                      refine lv_if_ne (tgt := 189) hx hb dX4_rehearse_171 (by decide) (fun c_21 => ?_) (fun c_21 => ?_)
                      · have nc_21 : (mBusy v i h_17 3) = true := bI_n0.mp c_21
                        refine lv_iconst (v := 1) hx hb dX4_rehearse_189 (by decide) ?_
                        refine lv_goto (tgt := 194) hx hb dX4_rehearse_190 (by decide) ?_
                        exact e_nrm (show 1 = (bI (mBar1 v ln a_18 b_19 h_17 i)) from (by first | (simp [mBar1, bI, nc_1, nc_12, nh_17, na_18, nb_19, nc_20, nc_21]; done) | (exfalso; simp_all; done))) (J159_194 ls (lv_sub hl [0, 1, 2, 3, 4, 5, 6, 7, 8, 9, 10] rfl))
                      · have nc_21 : (mBusy v i h_17 3) = false := bI_0.mp c_21
                        refine lv_aload_n hx hb dX4_rehearse_174 rfl (lv_at hl 6 rfl) ?_
                        refine e_getf hx hb hts inX4 hown hK hP 100 12 (hm 100 (by decide) (by decide)) (by decide) rfl rfl 3 (by decide) aw_76 (fun _ h => h) rfl dX4_rehearse_175 ?_
                        refine lv_iload hx hb dX4_rehearse_178 (lv_at hl 2 rfl) ?_
                        refine e_iald hx hb hK hP 104 8 (hm 104 (by decide) (by decide)) i rfl (by omega) (by decide) dX4_rehearse_180 ?_
                        refine lv_iload hx hb dX4_rehearse_181 (lv_at hl 1 rfl) ?_
                        refine lv_iadd hx hb dX4_rehearse_183 ?_
                        refine lv_bipush (v := 60) hx hb dX4_rehearse_184 (by decide) ?_
                        refine lv_icmp_le (tgt := 193) hx hb dX4_rehearse_186 (by decide) (fun c_22 => ?_) (fun c_22 => ?_)
                        · have nc_22 : ¬ 60 < ((v 104 i) + (mCostO v ln i a_18 b_19)) := Int32.not_lt.mpr c_22
                          refine lv_iconst (v := 0) hx hb dX4_rehearse_193 (by decide) ?_
                          exact e_nrm (show 0 = (bI (mBar1 v ln a_18 b_19 h_17 i)) from (by first | (simp [mBar1, bI, nc_1, nc_12, nh_17, na_18, nb_19, nc_20, nc_21, nc_22]; done) | (exfalso; simp_all; done))) (J159_194 ls (lv_sub hl [0, 1, 2, 3, 4, 5, 6, 7, 8, 9, 10] rfl))
                        · have nc_22 : 60 < ((v 104 i) + (mCostO v ln i a_18 b_19)) := Int32.not_le.mp c_22
                          refine lv_iconst (v := 1) hx hb dX4_rehearse_189 (by decide) ?_
                          refine lv_goto (tgt := 194) hx hb dX4_rehearse_190 (by decide) ?_
                          exact e_nrm (show 1 = (bI (mBar1 v ln a_18 b_19 h_17 i)) from (by first | (simp [mBar1, bI, nc_1, nc_12, nh_17, na_18, nb_19, nc_20, nc_21, nc_22]; done) | (exfalso; simp_all; done))) (J159_194 ls (lv_sub hl [0, 1, 2, 3, 4, 5, 6, 7, 8, 9, 10] rfl))
                  refine lv_iload hx hb dX4_rehearse_141 (lv_at hl 0 rfl) ?_
                  refine lv_if_le (tgt := 153) hx hb dX4_rehearse_143 (by decide) (fun c_23 => ?_) (fun c_23 => ?_)
                  · have nc_23 : ¬ 0 < (mCostO v ln i a_18 b_19) := Int32.not_lt.mpr c_23
                    refine lv_iconst (v := 0) hx hb dX4_rehearse_153 (by decide) ?_
                    exact e_nrm (show 0 = (mBit (mCostO v ln i a_18 b_19) i) from (by first | (simp [mBit, bI, nc_1, nc_12, nh_17, na_18, nb_19, nc_23]; done) | (exfalso; simp_all; done))) (J141_154 ls (lv_sub hl [0, 1, 2, 3, 4, 5, 6, 7, 8, 9, 10] rfl))
                  · have nc_23 : 0 < (mCostO v ln i a_18 b_19) := Int32.not_le.mp c_23
                    refine lv_iconst (v := 1) hx hb dX4_rehearse_146 (by decide) ?_
                    refine lv_iload hx hb dX4_rehearse_147 (lv_at hl 1 rfl) ?_
                    refine lv_ishl hx hb dX4_rehearse_149 ?_
                    refine lv_goto (tgt := 154) hx hb dX4_rehearse_150 (by decide) ?_
                    exact e_nrm (show (1 <<< ((nI i) &&& 31)) = (mBit (mCostO v ln i a_18 b_19) i) from (by first | (simp [mBit, bI, nc_1, nc_12, nh_17, na_18, nb_19, nc_23]; done) | (exfalso; simp_all; done))) (J141_154 ls (lv_sub hl [0, 1, 2, 3, 4, 5, 6, 7, 8, 9, 10] rfl))
                refine lv_aload_n hx hb dX4_rehearse_113 rfl (lv_at hl 5 rfl) ?_
                refine e_getf hx hb hts inX4 hown hK hP 100 12 (hm 100 (by decide) (by decide)) (by decide) rfl rfl 2 (by decide) aw_49 (fun _ h => h) rfl dX4_rehearse_114 ?_
                refine lv_iload hx hb dX4_rehearse_117 (lv_at hl 0 rfl) ?_
                refine e_iald hx hb hK hP 103 8 (hm 103 (by decide) (by decide)) i rfl (by omega) (by decide) dX4_rehearse_119 ?_
                refine lv_iconst (v := 1) hx hb dX4_rehearse_120 (by decide) ?_
                refine lv_icmp_ne (tgt := 128) hx hb dX4_rehearse_121 (by decide) (fun c_24 => ?_) (fun c_24 => ?_)
                · skip
                  refine lv_aload_n hx hb dX4_rehearse_128 rfl (lv_at hl 5 rfl) ?_
                  refine lv_iload hx hb dX4_rehearse_129 (lv_at hl 0 rfl) ?_
                  refine lv_iload_n hx hb dX4_rehearse_131 rfl (lv_at hl 8 rfl) ?_
                  refine e_nrm (y := nI a_18) ea_18 ?_
                  refine lv_iload hx hb dX4_rehearse_132 (lv_at hl 9 rfl) ?_
                  refine e_nrm (y := nI b_19) eb_19 ?_
                  refine e_cV (As := [.int (nI i), .int (nI a_18), .int (nI b_19)]) (rest := []) hx hb hml hown hts 100 (c_X4_cost (l := l) dn ln hm hv i a_18 b_19 (by omega) (by omega) (by omega)) cw_RX4_113 (by decide) (by decide) hz hP hI hK (hm 100 (by decide) (by decide)) (by decide) rfl rfl rfl hl.1 rfl (Nat.le_of_ble_eq_true rfl) ⟨Nat.zero_le _, Nat.zero_le _⟩ dX4_rehearse_134 ?_
                  exact e_nrm (show (mCost v ln i a_18 (b_19 + 1 - a_18)) = (mCostO v ln i a_18 b_19) from (by first | (simp [mCostO, bI, nc_1, nc_12, nh_17, na_18, nb_19, eq_false c_24]; done) | (exfalso; simp_all; done))) (J113_137 ls (lv_sub hl [0, 1, 2, 3, 4, 5, 6, 7, 8, 9] rfl))
                · skip
                  refine lv_iconst (v := 0) hx hb dX4_rehearse_124 (by decide) ?_
                  refine lv_goto (tgt := 137) hx hb dX4_rehearse_125 (by decide) ?_
                  exact e_nrm (show 0 = (mCostO v ln i a_18 b_19) from (by first | (simp [mCostO, bI, nc_1, nc_12, nh_17, na_18, nb_19, eq_true c_24]; done) | (exfalso; simp_all; done))) (J113_137 ls (lv_sub hl [0, 1, 2, 3, 4, 5, 6, 7, 8, 9] rfl))
        exact L99 _ 0 0 (mRehK v r h a b) (Nat.lt_succ_self _) (Nat.zero_le _) (rfl) (by show _ = (_ || false); rw [Bool.or_false])  ls (lv_sub hl [0, 1, 2, 3, 4, 5, 6, 7, 8, 9] rfl)
      refine lv_iload hx hb dX4_rehearse_67 (lv_at hl 1 rfl) ?_
      refine lv_if_eq (tgt := 93) hx hb dX4_rehearse_69 (by decide) (fun c_25 => ?_) (fun c_25 => ?_)
      · have nc_25 : (mRehR r h a b) = false := bI_0.mp c_25
        refine lv_iconst (v := 0) hx hb dX4_rehearse_93 (by decide) ?_
        exact e_nrm (show 0 = (bI (mRehK v r h a b)) from (by first | (simp [mRehK, bI, nc_25]; done) | (exfalso; simp_all; done))) (J67_94 ls (lv_sub hl [0, 1, 2, 3, 4, 5, 6, 7] rfl))
      · have nc_25 : (mRehR r h a b) = true := bI_n0.mp c_25
        obtain ⟨r_26, gr_26, hr_26, er_26⟩ := e_okR (lo := 0) (hi := 2) (by decide) (by decide) rfl (by decide) ((mRehT_ok (mRehR_ok nc_25).1).1)
        have nr_26 := nN_of er_26 (by omega)
        obtain ⟨h_27, gh_27, hh_27, eh_27⟩ := e_okR (lo := 8) (hi := 20) (by decide) (by decide) rfl (by decide) ((mRehT_ok (mRehR_ok nc_25).1).2.1)
        have nh_27 := nN_of eh_27 (by omega)
        refine lv_aload_n hx hb dX4_rehearse_72 rfl (lv_at hl 3 rfl) ?_
        refine e_getf hx hb hts inX4 hown hK hP 100 12 (hm 100 (by decide) (by decide)) (by decide) rfl rfl 14 (by decide) aw_48 (fun _ h => h) rfl dX4_rehearse_73 ?_
        refine lv_bipush (v := 13) hx hb dX4_rehearse_76 (by decide) ?_
        refine lv_iload_n hx hb dX4_rehearse_78 rfl (lv_at hl 4 rfl) ?_
        refine e_nrm (y := nI r_26) er_26 ?_
        refine lv_imul hx hb dX4_rehearse_79 ?_
        refine e_nrm (y := (nI (13 * r_26))) (pk_mul 13 r_26) ?_
        refine lv_iload_n hx hb dX4_rehearse_80 rfl (lv_at hl 5 rfl) ?_
        refine e_nrm (y := nI h_27) eh_27 ?_
        refine lv_iadd hx hb dX4_rehearse_81 ?_
        refine e_nrm (y := (nI ((13 * r_26) + h_27))) (nI_add (13 * r_26) h_27) ?_
        refine lv_bipush (v := 8) hx hb dX4_rehearse_82 (by decide) ?_
        refine lv_isub hx hb dX4_rehearse_84 ?_
        refine e_nrm (y := (nI (((13 * r_26) + h_27) - 8))) (pk_sub (a := ((13 * r_26) + h_27)) (b := 8) (by omega)) ?_
        refine e_iald hx hb hK hP 113 39 (hm 113 (by decide) (by decide)) (((13 * r_26) + h_27) - 8) rfl (by omega) (by decide) dX4_rehearse_85 ?_
        refine lv_if_lt (tgt := 93) hx hb dX4_rehearse_86 (by decide) (fun c_28 => ?_) (fun c_28 => ?_)
        · skip
          refine lv_iconst (v := 0) hx hb dX4_rehearse_93 (by decide) ?_
          exact e_nrm (show 0 = (bI (mRehK v r h a b)) from (by first | (simp [mRehK, bI, nc_25, nr_26, nh_27, c_28]; done) | (exfalso; simp_all; done))) (J67_94 ls (lv_sub hl [0, 1, 2, 3, 4, 5, 6, 7] rfl))
        · skip
          refine lv_iconst (v := 1) hx hb dX4_rehearse_89 (by decide) ?_
          refine lv_goto (tgt := 94) hx hb dX4_rehearse_90 (by decide) ?_
          exact e_nrm (show 1 = (bI (mRehK v r h a b)) from (by first | (simp [mRehK, bI, nc_25, nr_26, nh_27, c_28]; done) | (exfalso; simp_all; done))) (J67_94 ls (lv_sub hl [0, 1, 2, 3, 4, 5, 6, 7] rfl))
    refine lv_iload hx hb dX4_rehearse_46 (lv_at hl 0 rfl) ?_
    refine lv_if_eq (tgt := 61) hx hb dX4_rehearse_48 (by decide) (fun c_29 => ?_) (fun c_29 => ?_)
    · have nc_29 : (mRehT r h a b) = false := bI_0.mp c_29
      refine lv_iconst (v := 0) hx hb dX4_rehearse_61 (by decide) ?_
      exact e_nrm (show 0 = (bI (mRehR r h a b)) from (by first | (simp [mRehR, bI, nc_29]; done) | (exfalso; simp_all; done))) (J46_62 ls (lv_sub hl [0, 1, 2, 3, 4, 5] rfl))
    · have nc_29 : (mRehT r h a b) = true := bI_n0.mp c_29
      refine lv_iload hx hb dX4_rehearse_51 (lv_at hl 5 rfl) ?_
      refine lv_iload_n hx hb dX4_rehearse_53 rfl (lv_at hl 4 rfl) ?_
      refine lv_icmp_lt (tgt := 61) hx hb dX4_rehearse_54 (by decide) (fun c_30 => ?_) (fun c_30 => ?_)
      · skip
        refine lv_iconst (v := 0) hx hb dX4_rehearse_61 (by decide) ?_
        exact e_nrm (show 0 = (bI (mRehR r h a b)) from (by first | (simp [mRehR, bI, nc_29, c_30]; done) | (exfalso; simp_all; done))) (J46_62 ls (lv_sub hl [0, 1, 2, 3, 4, 5] rfl))
      · skip
        refine lv_iconst (v := 1) hx hb dX4_rehearse_57 (by decide) ?_
        refine lv_goto (tgt := 62) hx hb dX4_rehearse_58 (by decide) ?_
        exact e_nrm (show 1 = (bI (mRehR r h a b)) from (by first | (simp [mRehR, bI, nc_29, c_30]; done) | (exfalso; simp_all; done))) (J46_62 ls (lv_sub hl [0, 1, 2, 3, 4, 5] rfl))
  refine lv_aload_n hx hb dX4_rehearse_0 rfl (lv_at hl 0 rfl) ?_
  refine lv_iload_n hx hb dX4_rehearse_1 rfl (lv_at hl 1 rfl) ?_
  refine lv_iconst (v := 0) hx hb dX4_rehearse_2 (by decide) ?_
  refine lv_iconst (v := 2) hx hb dX4_rehearse_3 (by decide) ?_
  refine e_cV (As := [.int r, .int 0, .int 2]) (rest := []) hx hb hml hown hts 100 (c_X4_in (l := l) hm r 0 2) cw_RX4_59 (by decide) (by decide) hz hP hI hK (hm 100 (by decide) (by decide)) (by decide) rfl rfl rfl hl.1 rfl (Nat.le_of_ble_eq_true rfl) ⟨Nat.zero_le _, Nat.zero_le _⟩ dX4_rehearse_4 ?_
  refine lv_if_eq (tgt := 43) hx hb dX4_rehearse_7 (by decide) (fun c_31 => ?_) (fun c_31 => ?_)
  · have nc_31 : (mIn r 0 2) = false := bI_0.mp c_31
    refine lv_iconst (v := 0) hx hb dX4_rehearse_43 (by decide) ?_
    exact e_nrm (show 0 = (bI (mRehT r h a b)) from (by first | (simp [mRehT, mOkC, bI, nc_31]; done) | (exfalso; simp_all; done))) (J0_44 ls (lv_sub hl [0, 1, 2, 3, 4] rfl))
  · have nc_31 : (mIn r 0 2) = true := bI_n0.mp c_31
    refine lv_aload_n hx hb dX4_rehearse_10 rfl (lv_at hl 0 rfl) ?_
    refine lv_iload_n hx hb dX4_rehearse_11 rfl (lv_at hl 2 rfl) ?_
    refine lv_bipush (v := 8) hx hb dX4_rehearse_12 (by decide) ?_
    refine lv_bipush (v := 20) hx hb dX4_rehearse_14 (by decide) ?_
    refine e_cV (As := [.int h, .int 8, .int 20]) (rest := []) hx hb hml hown hts 100 (c_X4_in (l := l) hm h 8 20) cw_RX4_59 (by decide) (by decide) hz hP hI hK (hm 100 (by decide) (by decide)) (by decide) rfl rfl rfl hl.1 rfl (Nat.le_of_ble_eq_true rfl) ⟨Nat.zero_le _, Nat.zero_le _⟩ dX4_rehearse_16 ?_
    refine lv_if_eq (tgt := 43) hx hb dX4_rehearse_19 (by decide) (fun c_32 => ?_) (fun c_32 => ?_)
    · have nc_32 : (mIn h 8 20) = false := bI_0.mp c_32
      refine lv_iconst (v := 0) hx hb dX4_rehearse_43 (by decide) ?_
      exact e_nrm (show 0 = (bI (mRehT r h a b)) from (by first | (simp [mRehT, mOkC, bI, nc_31, nc_32]; done) | (exfalso; simp_all; done))) (J0_44 ls (lv_sub hl [0, 1, 2, 3, 4] rfl))
    · have nc_32 : (mIn h 8 20) = true := bI_n0.mp c_32
      refine lv_aload_n hx hb dX4_rehearse_22 rfl (lv_at hl 0 rfl) ?_
      refine lv_iload_n hx hb dX4_rehearse_23 rfl (lv_at hl 3 rfl) ?_
      refine e_cV (As := [.int a]) (rest := []) hx hb hml hown hts 100 (c_X4_isCount (l := l) hm a) cw_RX4_70 (by decide) (by decide) hz hP hI hK (hm 100 (by decide) (by decide)) (by decide) rfl rfl rfl hl.1 rfl (Nat.le_of_ble_eq_true rfl) ⟨Nat.zero_le _, Nat.zero_le _⟩ dX4_rehearse_24 ?_
      refine lv_if_eq (tgt := 43) hx hb dX4_rehearse_27 (by decide) (fun c_33 => ?_) (fun c_33 => ?_)
      · have nc_33 : (mIn a 0 63) = false := bI_0.mp c_33
        refine lv_iconst (v := 0) hx hb dX4_rehearse_43 (by decide) ?_
        exact e_nrm (show 0 = (bI (mRehT r h a b)) from (by first | (simp [mRehT, mOkC, bI, nc_31, nc_32, nc_33]; done) | (exfalso; simp_all; done))) (J0_44 ls (lv_sub hl [0, 1, 2, 3, 4] rfl))
      · have nc_33 : (mIn a 0 63) = true := bI_n0.mp c_33
        refine lv_aload_n hx hb dX4_rehearse_30 rfl (lv_at hl 0 rfl) ?_
        refine lv_iload hx hb dX4_rehearse_31 (lv_at hl 4 rfl) ?_
        refine e_cV (As := [.int b]) (rest := []) hx hb hml hown hts 100 (c_X4_isCount (l := l) hm b) cw_RX4_70 (by decide) (by decide) hz hP hI hK (hm 100 (by decide) (by decide)) (by decide) rfl rfl rfl hl.1 rfl (Nat.le_of_ble_eq_true rfl) ⟨Nat.zero_le _, Nat.zero_le _⟩ dX4_rehearse_33 ?_
        refine lv_if_eq (tgt := 43) hx hb dX4_rehearse_36 (by decide) (fun c_34 => ?_) (fun c_34 => ?_)
        · have nc_34 : (mIn b 0 63) = false := bI_0.mp c_34
          refine lv_iconst (v := 0) hx hb dX4_rehearse_43 (by decide) ?_
          exact e_nrm (show 0 = (bI (mRehT r h a b)) from (by first | (simp [mRehT, mOkC, bI, nc_31, nc_32, nc_33, nc_34]; done) | (exfalso; simp_all; done))) (J0_44 ls (lv_sub hl [0, 1, 2, 3, 4] rfl))
        · have nc_34 : (mIn b 0 63) = true := bI_n0.mp c_34
          refine lv_iconst (v := 1) hx hb dX4_rehearse_39 (by decide) ?_
          refine lv_goto (tgt := 44) hx hb dX4_rehearse_40 (by decide) ?_
          exact e_nrm (show 1 = (bI (mRehT r h a b)) from (by first | (simp [mRehT, mOkC, bI, nc_31, nc_32, nc_33, nc_34]; done) | (exfalso; simp_all; done))) (J0_44 ls (lv_sub hl [0, 1, 2, 3, 4] rfl))

set_option maxRecDepth 100000 in
set_option maxHeartbeats 4000000 in
theorem c_X4_comes {l : Launch} {X : eD} {z0 : Nat} {ad kd sp : Nat → Nat} {v : eV} (hm : mK kd) (d h c0 : Nat) (hd : d < 8) (hh : h < 8) (hc0 : c0 < 63) : eMu l yX4_comes cX4_comes 7 none 1 [.ref (ad 100), .int (nI d), .int (nI h), .int (nI c0)] X z0 ad kd sp v none (mComes v d h c0) := by
  refine e_mutV (by decide +kernel) (Nat.le_of_ble_eq_true rfl) ?_
  intro p e s m args below meth c hx hb hml hown hts hW Q hret ls hl
  obtain ⟨hz, hP, hI, hK⟩ := hW
  have hl : lv_has ls 7 [(0, .ref (ad 100)), (1, .int (nI d)), (2, .int (nI h)), (3, .int (nI c0))] := hl
  have hS : va_S (e_A z0) s.heap s.heap [] := va_S.rf
  refine lv_aload_n hx hb dX4_comes_0 rfl (lv_at hl 0 rfl) ?_
  refine lv_iload_n hx hb dX4_comes_1 rfl (lv_at hl 2 rfl) ?_
  refine lv_iload_n hx hb dX4_comes_2 rfl (lv_at hl 3 rfl) ?_
  refine e_cV (As := [.int (nI h), .int (nI c0)]) (rest := []) hx hb hml hown hts 100 (c_X4_x (l := l) hm h (c0 + 1) (nI c0) (by omega) (by omega) (nI_1 c0)) cw_RX4_77 (by decide) (by decide) hz hP hI hK (hm 100 (by decide) (by decide)) (by decide) rfl rfl rfl hl.1 rfl (Nat.le_of_ble_eq_true rfl) ⟨Nat.zero_le _, Nat.zero_le _⟩ dX4_comes_3 ?_
  refine lv_aload_n hx hb dX4_comes_6 rfl (lv_at hl 0 rfl) ?_
  refine lv_iload_n hx hb dX4_comes_7 rfl (lv_at hl 1 rfl) ?_
  refine lv_iload_n hx hb dX4_comes_8 rfl (lv_at hl 3 rfl) ?_
  refine e_cV (As := [.int (nI d), .int (nI c0)]) (rest := [.int (mX v h (c0 + 1))]) hx hb hml hown hts 100 (c_X4_x (l := l) hm d (c0 + 1) (nI c0) (by omega) (by omega) (nI_1 c0)) cw_RX4_77 (by decide) (by decide) hz hP hI hK (hm 100 (by decide) (by decide)) (by decide) rfl rfl rfl hl.1 rfl (Nat.le_of_ble_eq_true rfl) ⟨Nat.zero_le _, Nat.zero_le _⟩ dX4_comes_9 ?_
  refine lv_isub hx hb dX4_comes_12 ?_
  refine lv_istore (lv' := [(4, .int ((mX v h (c0 + 1)) - (mX v d (c0 + 1)))), (0, .ref (ad 100)), (1, .int (nI d)), (2, .int (nI h)), (3, .int (nI c0))]) hx hb dX4_comes_13 hl (by decide) rfl (fun ls hl => ?_)
  refine lv_aload_n hx hb dX4_comes_15 rfl (lv_at hl 1 rfl) ?_
  refine lv_iload_n hx hb dX4_comes_16 rfl (lv_at hl 3 rfl) ?_
  refine lv_iload_n hx hb dX4_comes_17 rfl (lv_at hl 4 rfl) ?_
  refine e_cV (As := [.int (nI h), .int (nI c0)]) (rest := []) hx hb hml hown hts 100 (c_X4_y (l := l) hm h (c0 + 1) (nI c0) (by omega) (by omega) (nI_1 c0)) cw_RX4_73 (by decide) (by decide) hz hP hI hK (hm 100 (by decide) (by decide)) (by decide) rfl rfl rfl hl.1 rfl (Nat.le_of_ble_eq_true rfl) ⟨Nat.zero_le _, Nat.zero_le _⟩ dX4_comes_18 ?_
  refine lv_aload_n hx hb dX4_comes_21 rfl (lv_at hl 1 rfl) ?_
  refine lv_iload_n hx hb dX4_comes_22 rfl (lv_at hl 2 rfl) ?_
  refine lv_iload_n hx hb dX4_comes_23 rfl (lv_at hl 4 rfl) ?_
  refine e_cV (As := [.int (nI d), .int (nI c0)]) (rest := [.int (mY v h (c0 + 1))]) hx hb hml hown hts 100 (c_X4_y (l := l) hm d (c0 + 1) (nI c0) (by omega) (by omega) (nI_1 c0)) cw_RX4_73 (by decide) (by decide) hz hP hI hK (hm 100 (by decide) (by decide)) (by decide) rfl rfl rfl hl.1 rfl (Nat.le_of_ble_eq_true rfl) ⟨Nat.zero_le _, Nat.zero_le _⟩ dX4_comes_24 ?_
  refine lv_isub hx hb dX4_comes_27 ?_
  refine lv_istore (lv' := [(5, .int ((mY v h (c0 + 1)) - (mY v d (c0 + 1)))), (4, .int ((mX v h (c0 + 1)) - (mX v d (c0 + 1)))), (0, .ref (ad 100)), (1, .int (nI d)), (2, .int (nI h)), (3, .int (nI c0))]) hx hb dX4_comes_28 hl (by decide) rfl (fun ls hl => ?_)
  refine lv_bipush (v := 64) hx hb dX4_comes_30 (by decide) ?_
  refine lv_iload_n hx hb dX4_comes_32 rfl (lv_at hl 3 rfl) ?_
  refine lv_imul hx hb dX4_comes_33 ?_
  refine e_nrm (y := (nI (64 * d))) (pk_mul 64 d) ?_
  refine lv_iload_n hx hb dX4_comes_34 rfl (lv_at hl 5 rfl) ?_
  refine lv_iadd hx hb dX4_comes_35 ?_
  refine e_nrm (y := (nI ((64 * d) + c0))) (nI_add (64 * d) c0) ?_
  refine lv_istore (lv' := [(6, .int (nI ((64 * d) + c0))), (5, .int ((mY v h (c0 + 1)) - (mY v d (c0 + 1)))), (4, .int ((mX v h (c0 + 1)) - (mX v d (c0 + 1)))), (0, .ref (ad 100)), (1, .int (nI d)), (2, .int (nI h)), (3, .int (nI c0))]) hx hb dX4_comes_36 hl (by decide) rfl (fun ls hl => ?_)
  refine lv_aload_n hx hb dX4_comes_38 rfl (lv_at hl 3 rfl) ?_
  refine e_getf hx hb hts inX4 hown hK hP 100 12 (hm 100 (by decide) (by decide)) (by decide) rfl rfl 5 (by decide) aw_8 (fun _ h => h) rfl dX4_comes_39 ?_
  refine lv_iload hx hb dX4_comes_42 (lv_at hl 0 rfl) ?_
  refine lv_dup2_11 hx hb dX4_comes_44 rfl rfl ?_
  refine e_iald hx hb hK hP 105 512 (hm 105 (by decide) (by decide)) ((64 * d) + c0) rfl (by omega) (by decide) dX4_comes_45 ?_
  refine lv_iload hx hb dX4_comes_46 (lv_at hl 2 rfl) ?_
  refine lv_iadd hx hb dX4_comes_48 ?_
  refine e_iast hx hb hK hP hI hS 105 512 (hm 105 (by decide) (by decide)) ((64 * d) + c0) rfl (by omega) (by omega) dX4_comes_49 (fun H locs hz1 hP hS => ?_)
  have hz := Nat.le_trans hz (Nat.le_of_eq hz1.symm)
  refine lv_aload_n hx hb dX4_comes_50 rfl (lv_at hl 3 rfl) ?_
  refine e_getf hx hb hts inX4 hown hK hP 100 12 (hm 100 (by decide) (by decide)) (by decide) rfl rfl 6 (by decide) aw_10 (fun _ h => h) rfl dX4_comes_51 ?_
  refine lv_iload hx hb dX4_comes_54 (lv_at hl 0 rfl) ?_
  refine lv_dup2_11 hx hb dX4_comes_56 rfl rfl ?_
  refine e_iald hx hb hK hP 106 512 (hm 106 (by decide) (by decide)) ((64 * d) + c0) rfl (by omega) (by decide) dX4_comes_57 ?_
  refine lv_iload hx hb dX4_comes_58 (lv_at hl 1 rfl) ?_
  refine lv_iadd hx hb dX4_comes_60 ?_
  refine e_iast hx hb hK hP hI hS 106 512 (hm 106 (by decide) (by decide)) ((64 * d) + c0) rfl (by omega) (by omega) dX4_comes_61 (fun H locs hz1 hP hS => ?_)
  have hz := Nat.le_trans hz (Nat.le_of_eq hz1.symm)
  refine lv_aload_n hx hb dX4_comes_62 rfl (lv_at hl 3 rfl) ?_
  refine e_getf hx hb hts inX4 hown hK hP 100 12 (hm 100 (by decide) (by decide)) (by decide) rfl rfl 5 (by decide) aw_8 (fun _ h => h) rfl dX4_comes_63 ?_
  refine lv_iload hx hb dX4_comes_66 (lv_at hl 0 rfl) ?_
  refine lv_iconst (v := 1) hx hb dX4_comes_68 (by decide) ?_
  refine lv_iadd hx hb dX4_comes_69 ?_
  refine e_nrm (y := (nI (((64 * d) + c0) + 1))) (nI_add ((64 * d) + c0) 1) ?_
  refine lv_dup2_11 hx hb dX4_comes_70 rfl rfl ?_
  refine e_iald hx hb hK hP 105 512 (hm 105 (by decide) (by decide)) (((64 * d) + c0) + 1) rfl (by omega) (by decide) dX4_comes_71 ?_
  refine lv_iload hx hb dX4_comes_72 (lv_at hl 2 rfl) ?_
  refine lv_isub hx hb dX4_comes_74 ?_
  refine e_iast hx hb hK hP hI hS 105 512 (hm 105 (by decide) (by decide)) (((64 * d) + c0) + 1) rfl (by omega) (by omega) dX4_comes_75 (fun H locs hz1 hP hS => ?_)
  have hz := Nat.le_trans hz (Nat.le_of_eq hz1.symm)
  refine lv_aload_n hx hb dX4_comes_76 rfl (lv_at hl 3 rfl) ?_
  refine e_getf hx hb hts inX4 hown hK hP 100 12 (hm 100 (by decide) (by decide)) (by decide) rfl rfl 6 (by decide) aw_10 (fun _ h => h) rfl dX4_comes_77 ?_
  refine lv_iload hx hb dX4_comes_80 (lv_at hl 0 rfl) ?_
  refine lv_iconst (v := 1) hx hb dX4_comes_82 (by decide) ?_
  refine lv_iadd hx hb dX4_comes_83 ?_
  refine e_nrm (y := (nI (((64 * d) + c0) + 1))) (nI_add ((64 * d) + c0) 1) ?_
  refine lv_dup2_11 hx hb dX4_comes_84 rfl rfl ?_
  refine e_iald hx hb hK hP 106 512 (hm 106 (by decide) (by decide)) (((64 * d) + c0) + 1) rfl (by omega) (by decide) dX4_comes_85 ?_
  refine lv_iload hx hb dX4_comes_86 (lv_at hl 1 rfl) ?_
  refine lv_isub hx hb dX4_comes_88 ?_
  refine e_iast hx hb hK hP hI hS 106 512 (hm 106 (by decide) (by decide)) (((64 * d) + c0) + 1) rfl (by omega) (by omega) dX4_comes_89 (fun H locs hz1 hP hS => ?_)
  have hz := Nat.le_trans hz (Nat.le_of_eq hz1.symm)
  exact hret _ _ _ _ _ (show (e_set (e_set (e_set (e_set v 105 ((64 * d) + c0) ((v 105 ((64 * d) + c0)) + ((mX v h (c0 + 1)) - (mX v d (c0 + 1))))) 106 ((64 * d) + c0) (((e_set v 105 ((64 * d) + c0) ((v 105 ((64 * d) + c0)) + ((mX v h (c0 + 1)) - (mX v d (c0 + 1))))) 106 ((64 * d) + c0)) + ((mY v h (c0 + 1)) - (mY v d (c0 + 1))))) 105 (((64 * d) + c0) + 1) (((e_set (e_set v 105 ((64 * d) + c0) ((v 105 ((64 * d) + c0)) + ((mX v h (c0 + 1)) - (mX v d (c0 + 1))))) 106 ((64 * d) + c0) (((e_set v 105 ((64 * d) + c0) ((v 105 ((64 * d) + c0)) + ((mX v h (c0 + 1)) - (mX v d (c0 + 1))))) 106 ((64 * d) + c0)) + ((mY v h (c0 + 1)) - (mY v d (c0 + 1))))) 105 (((64 * d) + c0) + 1)) - ((mX v h (c0 + 1)) - (mX v d (c0 + 1))))) 106 (((64 * d) + c0) + 1) (((e_set (e_set (e_set v 105 ((64 * d) + c0) ((v 105 ((64 * d) + c0)) + ((mX v h (c0 + 1)) - (mX v d (c0 + 1))))) 106 ((64 * d) + c0) (((e_set v 105 ((64 * d) + c0) ((v 105 ((64 * d) + c0)) + ((mX v h (c0 + 1)) - (mX v d (c0 + 1))))) 106 ((64 * d) + c0)) + ((mY v h (c0 + 1)) - (mY v d (c0 + 1))))) 105 (((64 * d) + c0) + 1) (((e_set (e_set v 105 ((64 * d) + c0) ((v 105 ((64 * d) + c0)) + ((mX v h (c0 + 1)) - (mX v d (c0 + 1))))) 106 ((64 * d) + c0) (((e_set v 105 ((64 * d) + c0) ((v 105 ((64 * d) + c0)) + ((mX v h (c0 + 1)) - (mX v d (c0 + 1))))) 106 ((64 * d) + c0)) + ((mY v h (c0 + 1)) - (mY v d (c0 + 1))))) 105 (((64 * d) + c0) + 1)) - ((mX v h (c0 + 1)) - (mX v d (c0 + 1))))) 106 (((64 * d) + c0) + 1)) - ((mY v h (c0 + 1)) - (mY v d (c0 + 1))))) = mComes v d h c0 from rfl) hP hS dX4_comes_90

set_option maxRecDepth 100000 in
set_option maxHeartbeats 4000000 in
theorem c_X4_mends {l : Launch} {X : eD} {z0 : Nat} {ad kd sp : Nat → Nat} {v : eV} (dn ln : Nat) (hm : mK kd) (hv : mI dn ln v) (l9 h c0 dl : Nat) (hl9 : l9 < ln) (hh : h < 8) (hc0 : c0 < 64) (hdl : dl < dn) (ec : v 107 l9 = nI c0) (el : v 108 l9 = nI dl) : eMu l yX4_mends cX4_mends 8 (some .int) 3 [.ref (ad 100), .int (nI l9), .int (nI h)] X z0 ad kd sp v (some (.int (mMendsV v dn ln l9 c0 dl h))) (mMendsS v dn ln l9 c0 dl h) := by
  refine e_mutI (by decide +kernel) (Nat.le_of_ble_eq_true rfl) rfl ?_
  intro p e s m args below meth c hx hb hml hown hts hW Q hret ls hl
  obtain ⟨hz, hP, hI, hK⟩ := hW
  have hl : lv_has ls 8 [(0, .ref (ad 100)), (1, .int (nI l9)), (2, .int (nI h))] := hl
  have hS : va_S (e_A z0) s.heap s.heap [] := va_S.rf
  have hd8 := hv.2.2.1
  have hl12 := hv.2.2.2.1
  refine lv_aload_n hx hb dX4_mends_0 rfl (lv_at hl 0 rfl) ?_
  refine e_getf hx hb hts inX4 hown hK hP 100 12 (hm 100 (by decide) (by decide)) (by decide) rfl rfl 7 (by decide) aw_26 (fun _ h => h) rfl dX4_mends_1 ?_
  refine lv_iload_n hx hb dX4_mends_4 rfl (lv_at hl 1 rfl) ?_
  refine e_iald hx hb hK hP 107 12 (hm 107 (by decide) (by decide)) l9 rfl (by omega) (by decide) dX4_mends_5 ?_
  refine e_nrm (y := nI c0) ec ?_
  refine lv_istore_n (lv' := [(3, .int (nI c0)), (0, .ref (ad 100)), (1, .int (nI l9)), (2, .int (nI h))]) hx hb dX4_mends_6 rfl hl (by decide) rfl (fun ls hl => ?_)
  refine lv_iconst (v := (-1)) hx hb dX4_mends_7 (by decide) ?_
  refine lv_istore (lv' := [(4, .int (-1)), (3, .int (nI c0)), (0, .ref (ad 100)), (1, .int (nI l9)), (2, .int (nI h))]) hx hb dX4_mends_8 hl (by decide) rfl (fun ls hl => ?_)
  refine lv_iconst (v := (-1)) hx hb dX4_mends_10 (by decide) ?_
  refine lv_istore (lv' := [(5, .int (-1)), (4, .int (-1)), (3, .int (nI c0)), (0, .ref (ad 100)), (1, .int (nI l9)), (2, .int (nI h))]) hx hb dX4_mends_11 hl (by decide) rfl (fun ls hl => ?_)
  refine lv_aload_n hx hb dX4_mends_13 rfl (lv_at hl 3 rfl) ?_
  refine e_getf hx hb hts inX4 hown hK hP 100 12 (hm 100 (by decide) (by decide)) (by decide) rfl rfl 4 (by decide) aw_0 (fun _ h => h) rfl dX4_mends_14 ?_
  refine e_nrm (y := nI dn) (hv.1) ?_
  refine lv_iconst (v := 1) hx hb dX4_mends_17 (by decide) ?_
  refine lv_isub hx hb dX4_mends_18 ?_
  refine lv_istore (lv' := [(6, .int ((nI dn) - 1)), (5, .int (-1)), (4, .int (-1)), (3, .int (nI c0)), (0, .ref (ad 100)), (1, .int (nI l9)), (2, .int (nI h))]) hx hb dX4_mends_19 hl (by decide) rfl (fun ls hl => ?_)
  have L21 : ∀ (k21 : Nat) (i : Nat) (x4 : Int32) (x5 : Int32), i < k21 → (i ≤ dn) → (x4 = firstN (mNear v ln c0 dl) (dn - i) i) → (x5 = firstN (mFar v ln c0 h) (dn - i) i) →  ∀ ls : Array Slot, lv_has ls 8 [(6, .int ((nI i) - 1)), (5, .int x5), (4, .int x4), (3, .int (nI c0)), (0, .ref (ad 100)), (1, .int (nI l9)), (2, .int (nI h))] → W p l e (e_rm 3 0 0) s m args below meth c s.heap [] 0 0 Q (F0 m 21 ls []) := by
    intro k21
    induction k21 with
    | zero => intro i x4 x5 hk; exact absurd hk (Nat.not_lt_zero _)
    | succ k21 ih21 =>
      intro i x4 x5 hk21 hi ex4 ex5 ls hl
      refine lv_iload hx hb dX4_mends_21 (lv_at hl 0 rfl) ?_
      refine lv_if_lt (tgt := 114) hx hb dX4_mends_23 (by decide) (fun c_1 => ?_) (fun c_1 => ?_)
      · have nc_1 : i = 0 := (e_pneg (by omega)).mp c_1
        have e4 : x4 = firstN (mNear v ln c0 dl) dn 0 := by rw [ex4, show i = 0 by omega]; rfl
        have e5 : x5 = firstN (mFar v ln c0 h) dn 0 := by rw [ex5, show i = 0 by omega]; rfl
        have J114_126 : ∀ ls : Array Slot, lv_has ls 8 [(6, .int ((nI i) - 1)), (5, .int x5), (4, .int x4), (3, .int (nI c0)), (0, .ref (ad 100)), (1, .int (nI l9)), (2, .int (nI h))] → W p l e (e_rm 3 0 0) s m args below meth c s.heap [] 0 0 Q (F0 m 126 ls [.int (mPick x4 x5)]) := by
          intro ls hl
          refine lv_istore (lv' := [(6, .int (mPick x4 x5)), (5, .int x5), (4, .int x4), (3, .int (nI c0)), (0, .ref (ad 100)), (1, .int (nI l9)), (2, .int (nI h))]) hx hb dX4_mends_126 hl (by decide) rfl (fun ls hl => ?_)
          refine lv_iload hx hb dX4_mends_128 (lv_at hl 0 rfl) ?_
          refine lv_if_ge (tgt := 142) hx hb dX4_mends_130 (by decide) (fun c_2 => ?_) (fun c_2 => ?_)
          · have nc_2 : ¬ (mPick x4 x5) < 0 := Int32.not_lt.mpr c_2
            refine lv_iload hx hb dX4_mends_142 (lv_at hl 2 rfl) ?_
            refine lv_if_ge (tgt := 155) hx hb dX4_mends_144 (by decide) (fun c_3 => ?_) (fun c_3 => ?_)
            · have nc_3 : ¬ x4 < 0 := Int32.not_lt.mpr c_3
              have p4 : ¬ firstN (mNear v ln c0 dl) dn 0 < 0 := by rw [← e4]; exact nc_3
              obtain ⟨w, -, hw, ew, gw⟩ := firstN_get dn 0 (by omega) p4
              have ew9 : mPick x4 x5 = nI w := by rw [mPick_near nc_3, e4]; exact ew
              refine lv_aload_n hx hb dX4_mends_155 rfl (lv_at hl 4 rfl) ?_
              refine e_getf hx hb hts inX4 hown hK hP 100 12 (hm 100 (by decide) (by decide)) (by decide) rfl rfl 9 (by decide) aw_22 (fun _ h => h) rfl dX4_mends_156 ?_
              refine lv_iload_n hx hb dX4_mends_159 rfl (lv_at hl 5 rfl) ?_
              have J160_181 : ∀ ls : Array Slot, lv_has ls 8 [(6, .int (mPick x4 x5)), (5, .int x5), (4, .int x4), (3, .int (nI c0)), (0, .ref (ad 100)), (1, .int (nI l9)), (2, .int (nI h))] → W p l e (e_rm 3 0 0) s m args below meth c s.heap [] 0 0 Q (F0 m 181 ls [.int (if v 109 l9 = nI h then nI w else v 109 l9), .int (nI l9), .ref (ad 109)]) := by
                intro ls hl
                refine e_iast hx hb hK hP hI hS 109 12 (hm 109 (by decide) (by decide)) l9 rfl (by omega) (by omega) dX4_mends_181 (fun H locs hz1 hP hS => ?_)
                have hz := Nat.le_trans hz (Nat.le_of_eq hz1.symm)
                refine lv_aload_n hx hb dX4_mends_182 rfl (lv_at hl 4 rfl) ?_
                refine e_getf hx hb hts inX4 hown hK hP 100 12 (hm 100 (by decide) (by decide)) (by decide) rfl rfl 10 (by decide) aw_23 (fun _ h => h) rfl dX4_mends_183 ?_
                refine lv_iload_n hx hb dX4_mends_186 rfl (lv_at hl 5 rfl) ?_
                have J187_208 : ∀ ls : Array Slot, lv_has ls 8 [(6, .int (mPick x4 x5)), (5, .int x5), (4, .int x4), (3, .int (nI c0)), (0, .ref (ad 100)), (1, .int (nI l9)), (2, .int (nI h))] → W p l e (e_rm 3 0 0) s m args below meth c H locs 0 0 Q (F0 m 208 ls [.int (if (e_set v 109 l9 (if v 109 l9 = nI h then nI w else v 109 l9)) 110 l9 = nI h then nI w else (e_set v 109 l9 (if v 109 l9 = nI h then nI w else v 109 l9)) 110 l9), .int (nI l9), .ref (ad 110)]) := by
                  intro ls hl
                  refine e_iast hx hb hK hP hI hS 110 12 (hm 110 (by decide) (by decide)) l9 rfl (by omega) (by omega) dX4_mends_208 (fun H locs hz1 hP hS => ?_)
                  have hz := Nat.le_trans hz (Nat.le_of_eq hz1.symm)
                  refine lv_iload hx hb dX4_mends_209 (lv_at hl 2 rfl) ?_
                  refine lv_if_ge (tgt := 218) hx hb dX4_mends_211 (by decide) (fun c_4 => ?_) (fun c_4 => ?_)
                  · have nc_4 : ¬ x4 < 0 := Int32.not_lt.mpr c_4
                    refine lv_iconst (v := 0) hx hb dX4_mends_218 (by decide) ?_
                    exact hret _ _ _ _ _ _ (show 0 = mMendsV v dn ln l9 c0 dl h from by unfold mMendsV; rw [if_neg p4]) (show (e_set (e_set v 109 l9 (if v 109 l9 = nI h then nI w else v 109 l9)) 110 l9 (if (e_set v 109 l9 (if v 109 l9 = nI h then nI w else v 109 l9)) 110 l9 = nI h then nI w else (e_set v 109 l9 (if v 109 l9 = nI h then nI w else v 109 l9)) 110 l9)) = mMendsS v dn ln l9 c0 dl h from by unfold mMendsS; rw [if_neg p4, ew]; rfl) hP hS dX4_mends_219
                  · have nc_4 : x4 < 0 := Int32.not_le.mp c_4
                    exact absurd nc_4 nc_3
                refine lv_aload_n hx hb dX4_mends_187 rfl (lv_at hl 4 rfl) ?_
                refine e_getf hx hb hts inX4 hown hK hP 100 12 (hm 100 (by decide) (by decide)) (by decide) rfl rfl 10 (by decide) aw_23 (fun _ h => h) rfl dX4_mends_188 ?_
                refine lv_iload_n hx hb dX4_mends_191 rfl (lv_at hl 5 rfl) ?_
                refine e_iald hx hb hK hP 110 12 (hm 110 (by decide) (by decide)) l9 rfl (by omega) (by decide) dX4_mends_192 ?_
                refine lv_iload_n hx hb dX4_mends_193 rfl (lv_at hl 6 rfl) ?_
                refine lv_icmp_ne (tgt := 202) hx hb dX4_mends_194 (by decide) (fun c_5 => ?_) (fun c_5 => ?_)
                · skip
                  refine lv_aload_n hx hb dX4_mends_202 rfl (lv_at hl 4 rfl) ?_
                  refine e_getf hx hb hts inX4 hown hK hP 100 12 (hm 100 (by decide) (by decide)) (by decide) rfl rfl 10 (by decide) aw_23 (fun _ h => h) rfl dX4_mends_203 ?_
                  refine lv_iload_n hx hb dX4_mends_206 rfl (lv_at hl 5 rfl) ?_
                  refine e_iald hx hb hK hP 110 12 (hm 110 (by decide) (by decide)) l9 rfl (by omega) (by decide) dX4_mends_207 ?_
                  exact e_nrm (show ((e_set v 109 l9 (if v 109 l9 = nI h then nI w else v 109 l9)) 110 l9) = (if (e_set v 109 l9 (if v 109 l9 = nI h then nI w else v 109 l9)) 110 l9 = nI h then nI w else (e_set v 109 l9 (if v 109 l9 = nI h then nI w else v 109 l9)) 110 l9) from (by first | (simp [bI, nc_1, nc_2, nc_3, eq_false c_5]; done) | (exfalso; simp_all; done))) (J187_208 ls (lv_sub hl [0, 1, 2, 3, 4, 5, 6] rfl))
                · skip
                  refine lv_iload hx hb dX4_mends_197 (lv_at hl 0 rfl) ?_
                  refine e_nrm (y := nI w) ew9 ?_
                  refine lv_goto (tgt := 208) hx hb dX4_mends_199 (by decide) ?_
                  exact e_nrm (show (nI w) = (if (e_set v 109 l9 (if v 109 l9 = nI h then nI w else v 109 l9)) 110 l9 = nI h then nI w else (e_set v 109 l9 (if v 109 l9 = nI h then nI w else v 109 l9)) 110 l9) from (by first | (simp [bI, nc_1, nc_2, nc_3, eq_true c_5]; done) | (exfalso; simp_all; done))) (J187_208 ls (lv_sub hl [0, 1, 2, 3, 4, 5, 6] rfl))
              refine lv_aload_n hx hb dX4_mends_160 rfl (lv_at hl 4 rfl) ?_
              refine e_getf hx hb hts inX4 hown hK hP 100 12 (hm 100 (by decide) (by decide)) (by decide) rfl rfl 9 (by decide) aw_22 (fun _ h => h) rfl dX4_mends_161 ?_
              refine lv_iload_n hx hb dX4_mends_164 rfl (lv_at hl 5 rfl) ?_
              refine e_iald hx hb hK hP 109 12 (hm 109 (by decide) (by decide)) l9 rfl (by omega) (by decide) dX4_mends_165 ?_
              refine lv_iload_n hx hb dX4_mends_166 rfl (lv_at hl 6 rfl) ?_
              refine lv_icmp_ne (tgt := 175) hx hb dX4_mends_167 (by decide) (fun c_6 => ?_) (fun c_6 => ?_)
              · skip
                refine lv_aload_n hx hb dX4_mends_175 rfl (lv_at hl 4 rfl) ?_
                refine e_getf hx hb hts inX4 hown hK hP 100 12 (hm 100 (by decide) (by decide)) (by decide) rfl rfl 9 (by decide) aw_22 (fun _ h => h) rfl dX4_mends_176 ?_
                refine lv_iload_n hx hb dX4_mends_179 rfl (lv_at hl 5 rfl) ?_
                refine e_iald hx hb hK hP 109 12 (hm 109 (by decide) (by decide)) l9 rfl (by omega) (by decide) dX4_mends_180 ?_
                exact e_nrm (show (v 109 l9) = (if v 109 l9 = nI h then nI w else v 109 l9) from (by first | (simp [bI, nc_1, nc_2, nc_3, eq_false c_6]; done) | (exfalso; simp_all; done))) (J160_181 ls (lv_sub hl [0, 1, 2, 3, 4, 5, 6] rfl))
              · skip
                refine lv_iload hx hb dX4_mends_170 (lv_at hl 0 rfl) ?_
                refine e_nrm (y := nI w) ew9 ?_
                refine lv_goto (tgt := 181) hx hb dX4_mends_172 (by decide) ?_
                exact e_nrm (show (nI w) = (if v 109 l9 = nI h then nI w else v 109 l9) from (by first | (simp [bI, nc_1, nc_2, nc_3, eq_true c_6]; done) | (exfalso; simp_all; done))) (J160_181 ls (lv_sub hl [0, 1, 2, 3, 4, 5, 6] rfl))
            · have nc_3 : x4 < 0 := Int32.not_le.mp c_3
              have p4 : firstN (mNear v ln c0 dl) dn 0 < 0 := by rw [← e4]; exact nc_3
              have p5 : ¬ firstN (mFar v ln c0 h) dn 0 < 0 := by rw [← e5, ← mPick_far (b := x5) nc_3]; exact nc_2
              obtain ⟨w, -, hw, ew, gw⟩ := firstN_get dn 0 (by omega) p5
              have ew9 : mPick x4 x5 = nI w := by rw [mPick_far nc_3, e5]; exact ew
              have h63 := mFar_c gw
              refine lv_aload_n hx hb dX4_mends_147 rfl (lv_at hl 4 rfl) ?_
              refine lv_iload hx hb dX4_mends_148 (lv_at hl 0 rfl) ?_
              refine e_nrm (y := nI w) ew9 ?_
              refine lv_iload_n hx hb dX4_mends_150 rfl (lv_at hl 6 rfl) ?_
              refine lv_iload_n hx hb dX4_mends_151 rfl (lv_at hl 3 rfl) ?_
              refine e_cVM (As := [.int (nI w), .int (nI h), .int (nI c0)]) (rest := []) hx hb hml hown hts 100 (c_X4_comes (l := l) hm w h c0 (by omega) (by omega) (by omega)) cw_RX4_123 (by decide) (by decide) hz hP hI hK hS (hm 100 (by decide) (by decide)) (by decide) rfl rfl rfl hl.1 rfl (Nat.le_of_ble_eq_true rfl) ⟨Nat.zero_le _, Nat.zero_le _⟩ dX4_mends_152 (fun H locs hz hP hS => ?_)
              refine lv_aload_n hx hb dX4_mends_155 rfl (lv_at hl 4 rfl) ?_
              refine e_getf hx hb hts inX4 hown hK hP 100 12 (hm 100 (by decide) (by decide)) (by decide) rfl rfl 9 (by decide) aw_22 (fun _ h => h) rfl dX4_mends_156 ?_
              refine lv_iload_n hx hb dX4_mends_159 rfl (lv_at hl 5 rfl) ?_
              have J160_181 : ∀ ls : Array Slot, lv_has ls 8 [(6, .int (mPick x4 x5)), (5, .int x5), (4, .int x4), (3, .int (nI c0)), (0, .ref (ad 100)), (1, .int (nI l9)), (2, .int (nI h))] → W p l e (e_rm 3 0 0) s m args below meth c H locs 0 0 Q (F0 m 181 ls [.int (if (mComes v w h c0) 109 l9 = nI h then nI w else (mComes v w h c0) 109 l9), .int (nI l9), .ref (ad 109)]) := by
                intro ls hl
                refine e_iast hx hb hK hP hI hS 109 12 (hm 109 (by decide) (by decide)) l9 rfl (by omega) (by omega) dX4_mends_181 (fun H locs hz1 hP hS => ?_)
                have hz := Nat.le_trans hz (Nat.le_of_eq hz1.symm)
                refine lv_aload_n hx hb dX4_mends_182 rfl (lv_at hl 4 rfl) ?_
                refine e_getf hx hb hts inX4 hown hK hP 100 12 (hm 100 (by decide) (by decide)) (by decide) rfl rfl 10 (by decide) aw_23 (fun _ h => h) rfl dX4_mends_183 ?_
                refine lv_iload_n hx hb dX4_mends_186 rfl (lv_at hl 5 rfl) ?_
                have J187_208 : ∀ ls : Array Slot, lv_has ls 8 [(6, .int (mPick x4 x5)), (5, .int x5), (4, .int x4), (3, .int (nI c0)), (0, .ref (ad 100)), (1, .int (nI l9)), (2, .int (nI h))] → W p l e (e_rm 3 0 0) s m args below meth c H locs 0 0 Q (F0 m 208 ls [.int (if (e_set (mComes v w h c0) 109 l9 (if (mComes v w h c0) 109 l9 = nI h then nI w else (mComes v w h c0) 109 l9)) 110 l9 = nI h then nI w else (e_set (mComes v w h c0) 109 l9 (if (mComes v w h c0) 109 l9 = nI h then nI w else (mComes v w h c0) 109 l9)) 110 l9), .int (nI l9), .ref (ad 110)]) := by
                  intro ls hl
                  refine e_iast hx hb hK hP hI hS 110 12 (hm 110 (by decide) (by decide)) l9 rfl (by omega) (by omega) dX4_mends_208 (fun H locs hz1 hP hS => ?_)
                  have hz := Nat.le_trans hz (Nat.le_of_eq hz1.symm)
                  refine lv_iload hx hb dX4_mends_209 (lv_at hl 2 rfl) ?_
                  refine lv_if_ge (tgt := 218) hx hb dX4_mends_211 (by decide) (fun c_7 => ?_) (fun c_7 => ?_)
                  · have nc_7 : ¬ x4 < 0 := Int32.not_lt.mpr c_7
                    exact absurd nc_3 nc_7
                  · have nc_7 : x4 < 0 := Int32.not_le.mp c_7
                    refine lv_iconst (v := 2) hx hb dX4_mends_214 (by decide) ?_
                    refine lv_goto (tgt := 219) hx hb dX4_mends_215 (by decide) ?_
                    exact hret _ _ _ _ _ _ (show 2 = mMendsV v dn ln l9 c0 dl h from by unfold mMendsV; rw [if_pos p4, if_neg p5]) (show (e_set (e_set (mComes v w h c0) 109 l9 (if (mComes v w h c0) 109 l9 = nI h then nI w else (mComes v w h c0) 109 l9)) 110 l9 (if (e_set (mComes v w h c0) 109 l9 (if (mComes v w h c0) 109 l9 = nI h then nI w else (mComes v w h c0) 109 l9)) 110 l9 = nI h then nI w else (e_set (mComes v w h c0) 109 l9 (if (mComes v w h c0) 109 l9 = nI h then nI w else (mComes v w h c0) 109 l9)) 110 l9)) = mMendsS v dn ln l9 c0 dl h from by unfold mMendsS; rw [if_pos p4, if_neg p5, ew, nN_of rfl (by omega)]; rfl) hP hS dX4_mends_219
                refine lv_aload_n hx hb dX4_mends_187 rfl (lv_at hl 4 rfl) ?_
                refine e_getf hx hb hts inX4 hown hK hP 100 12 (hm 100 (by decide) (by decide)) (by decide) rfl rfl 10 (by decide) aw_23 (fun _ h => h) rfl dX4_mends_188 ?_
                refine lv_iload_n hx hb dX4_mends_191 rfl (lv_at hl 5 rfl) ?_
                refine e_iald hx hb hK hP 110 12 (hm 110 (by decide) (by decide)) l9 rfl (by omega) (by decide) dX4_mends_192 ?_
                refine lv_iload_n hx hb dX4_mends_193 rfl (lv_at hl 6 rfl) ?_
                refine lv_icmp_ne (tgt := 202) hx hb dX4_mends_194 (by decide) (fun c_8 => ?_) (fun c_8 => ?_)
                · skip
                  refine lv_aload_n hx hb dX4_mends_202 rfl (lv_at hl 4 rfl) ?_
                  refine e_getf hx hb hts inX4 hown hK hP 100 12 (hm 100 (by decide) (by decide)) (by decide) rfl rfl 10 (by decide) aw_23 (fun _ h => h) rfl dX4_mends_203 ?_
                  refine lv_iload_n hx hb dX4_mends_206 rfl (lv_at hl 5 rfl) ?_
                  refine e_iald hx hb hK hP 110 12 (hm 110 (by decide) (by decide)) l9 rfl (by omega) (by decide) dX4_mends_207 ?_
                  exact e_nrm (show ((e_set (mComes v w h c0) 109 l9 (if (mComes v w h c0) 109 l9 = nI h then nI w else (mComes v w h c0) 109 l9)) 110 l9) = (if (e_set (mComes v w h c0) 109 l9 (if (mComes v w h c0) 109 l9 = nI h then nI w else (mComes v w h c0) 109 l9)) 110 l9 = nI h then nI w else (e_set (mComes v w h c0) 109 l9 (if (mComes v w h c0) 109 l9 = nI h then nI w else (mComes v w h c0) 109 l9)) 110 l9) from (by first | (simp [bI, nc_1, nc_2, nc_3, eq_false c_8]; done) | (exfalso; simp_all; done))) (J187_208 ls (lv_sub hl [0, 1, 2, 3, 4, 5, 6] rfl))
                · skip
                  refine lv_iload hx hb dX4_mends_197 (lv_at hl 0 rfl) ?_
                  refine e_nrm (y := nI w) ew9 ?_
                  refine lv_goto (tgt := 208) hx hb dX4_mends_199 (by decide) ?_
                  exact e_nrm (show (nI w) = (if (e_set (mComes v w h c0) 109 l9 (if (mComes v w h c0) 109 l9 = nI h then nI w else (mComes v w h c0) 109 l9)) 110 l9 = nI h then nI w else (e_set (mComes v w h c0) 109 l9 (if (mComes v w h c0) 109 l9 = nI h then nI w else (mComes v w h c0) 109 l9)) 110 l9) from (by first | (simp [bI, nc_1, nc_2, nc_3, eq_true c_8]; done) | (exfalso; simp_all; done))) (J187_208 ls (lv_sub hl [0, 1, 2, 3, 4, 5, 6] rfl))
              refine lv_aload_n hx hb dX4_mends_160 rfl (lv_at hl 4 rfl) ?_
              refine e_getf hx hb hts inX4 hown hK hP 100 12 (hm 100 (by decide) (by decide)) (by decide) rfl rfl 9 (by decide) aw_22 (fun _ h => h) rfl dX4_mends_161 ?_
              refine lv_iload_n hx hb dX4_mends_164 rfl (lv_at hl 5 rfl) ?_
              refine e_iald hx hb hK hP 109 12 (hm 109 (by decide) (by decide)) l9 rfl (by omega) (by decide) dX4_mends_165 ?_
              refine lv_iload_n hx hb dX4_mends_166 rfl (lv_at hl 6 rfl) ?_
              refine lv_icmp_ne (tgt := 175) hx hb dX4_mends_167 (by decide) (fun c_9 => ?_) (fun c_9 => ?_)
              · skip
                refine lv_aload_n hx hb dX4_mends_175 rfl (lv_at hl 4 rfl) ?_
                refine e_getf hx hb hts inX4 hown hK hP 100 12 (hm 100 (by decide) (by decide)) (by decide) rfl rfl 9 (by decide) aw_22 (fun _ h => h) rfl dX4_mends_176 ?_
                refine lv_iload_n hx hb dX4_mends_179 rfl (lv_at hl 5 rfl) ?_
                refine e_iald hx hb hK hP 109 12 (hm 109 (by decide) (by decide)) l9 rfl (by omega) (by decide) dX4_mends_180 ?_
                exact e_nrm (show ((mComes v w h c0) 109 l9) = (if (mComes v w h c0) 109 l9 = nI h then nI w else (mComes v w h c0) 109 l9) from (by first | (simp [bI, nc_1, nc_2, nc_3, eq_false c_9]; done) | (exfalso; simp_all; done))) (J160_181 ls (lv_sub hl [0, 1, 2, 3, 4, 5, 6] rfl))
              · skip
                refine lv_iload hx hb dX4_mends_170 (lv_at hl 0 rfl) ?_
                refine e_nrm (y := nI w) ew9 ?_
                refine lv_goto (tgt := 181) hx hb dX4_mends_172 (by decide) ?_
                exact e_nrm (show (nI w) = (if (mComes v w h c0) 109 l9 = nI h then nI w else (mComes v w h c0) 109 l9) from (by first | (simp [bI, nc_1, nc_2, nc_3, eq_true c_9]; done) | (exfalso; simp_all; done))) (J160_181 ls (lv_sub hl [0, 1, 2, 3, 4, 5, 6] rfl))
          · have nc_2 : (mPick x4 x5) < 0 := Int32.not_le.mp c_2
            obtain ⟨p4, p5⟩ := mPick_neg nc_2
            rw [e4] at p4
            rw [e5] at p5
            refine lv_aload_n hx hb dX4_mends_133 rfl (lv_at hl 4 rfl) ?_
            refine e_getf hx hb hts inX4 hown hK hP 100 12 (hm 100 (by decide) (by decide)) (by decide) rfl rfl 11 (by decide) aw_25 (fun _ h => h) rfl dX4_mends_134 ?_
            refine lv_iload_n hx hb dX4_mends_137 rfl (lv_at hl 5 rfl) ?_
            refine lv_iconst (v := 1) hx hb dX4_mends_138 (by decide) ?_
            refine e_iast hx hb hK hP hI hS 111 12 (hm 111 (by decide) (by decide)) l9 rfl (by omega) (by omega) dX4_mends_139 (fun H locs hz1 hP hS => ?_)
            have hz := Nat.le_trans hz (Nat.le_of_eq hz1.symm)
            refine lv_iconst (v := 0) hx hb dX4_mends_140 (by decide) ?_
            exact hret _ _ _ _ _ _ (show 0 = mMendsV v dn ln l9 c0 dl h from by unfold mMendsV; rw [if_pos p4, if_pos p5]) (show (e_set v 111 l9 1) = mMendsS v dn ln l9 c0 dl h from by unfold mMendsS; rw [if_pos p4, if_pos p5]) hP hS dX4_mends_141
        refine lv_iload hx hb dX4_mends_114 (lv_at hl 2 rfl) ?_
        refine lv_if_lt (tgt := 124) hx hb dX4_mends_116 (by decide) (fun c_10 => ?_) (fun c_10 => ?_)
        · skip
          refine lv_iload hx hb dX4_mends_124 (lv_at hl 1 rfl) ?_
          exact e_nrm (show x5 = (mPick x4 x5) from (by first | (simp [mPick, bI, nc_1, c_10]; done) | (exfalso; simp_all; done))) (J114_126 ls (lv_sub hl [0, 1, 2, 3, 4, 5, 6] rfl))
        · skip
          refine lv_iload hx hb dX4_mends_119 (lv_at hl 2 rfl) ?_
          refine lv_goto (tgt := 126) hx hb dX4_mends_121 (by decide) ?_
          exact e_nrm (show x4 = (mPick x4 x5) from (by first | (simp [mPick, bI, nc_1, c_10]; done) | (exfalso; simp_all; done))) (J114_126 ls (lv_sub hl [0, 1, 2, 3, 4, 5, 6] rfl))
      · have nc_1 : ¬ i = 0 := fun h => c_1 ((e_pneg (by omega)).mpr h)
        have J26_51 : ∀ ls : Array Slot, lv_has ls 8 [(6, .int ((nI i) - 1)), (5, .int x5), (4, .int x4), (3, .int (nI c0)), (0, .ref (ad 100)), (1, .int (nI l9)), (2, .int (nI h))] → W p l e (e_rm 3 0 0) s m args below meth c s.heap [] 0 0 Q (F0 m 51 ls [.int (bI (mFree v (i - 1) ln c0))]) := by
          intro ls hl
          refine lv_istore (lv' := [(7, .int (bI (mFree v (i - 1) ln c0))), (6, .int ((nI i) - 1)), (5, .int x5), (4, .int x4), (3, .int (nI c0)), (0, .ref (ad 100)), (1, .int (nI l9)), (2, .int (nI h))]) hx hb dX4_mends_51 hl (by decide) rfl (fun ls hl => ?_)
          have J53_81 : ∀ ls : Array Slot, lv_has ls 8 [(7, .int (bI (mFree v (i - 1) ln c0))), (6, .int ((nI i) - 1)), (5, .int x5), (4, .int x4), (3, .int (nI c0)), (0, .ref (ad 100)), (1, .int (nI l9)), (2, .int (nI h))] → W p l e (e_rm 3 0 0) s m args below meth c s.heap [] 0 0 Q (F0 m 81 ls [.int (if mNear v ln c0 dl (i - 1) = true then nI (i - 1) else x4)]) := by
            intro ls hl
            refine lv_istore (lv' := [(4, .int (if mNear v ln c0 dl (i - 1) = true then nI (i - 1) else x4)), (7, .int (bI (mFree v (i - 1) ln c0))), (6, .int ((nI i) - 1)), (5, .int x5), (3, .int (nI c0)), (0, .ref (ad 100)), (1, .int (nI l9)), (2, .int (nI h))]) hx hb dX4_mends_81 hl (by decide) rfl (fun ls hl => ?_)
            have J83_106 : ∀ ls : Array Slot, lv_has ls 8 [(4, .int (if mNear v ln c0 dl (i - 1) = true then nI (i - 1) else x4)), (7, .int (bI (mFree v (i - 1) ln c0))), (6, .int ((nI i) - 1)), (5, .int x5), (3, .int (nI c0)), (0, .ref (ad 100)), (1, .int (nI l9)), (2, .int (nI h))] → W p l e (e_rm 3 0 0) s m args below meth c s.heap [] 0 0 Q (F0 m 106 ls [.int (if mFar v ln c0 h (i - 1) = true then nI (i - 1) else x5)]) := by
              intro ls hl
              refine lv_istore (lv' := [(5, .int (if mFar v ln c0 h (i - 1) = true then nI (i - 1) else x5)), (4, .int (if mNear v ln c0 dl (i - 1) = true then nI (i - 1) else x4)), (7, .int (bI (mFree v (i - 1) ln c0))), (6, .int ((nI i) - 1)), (3, .int (nI c0)), (0, .ref (ad 100)), (1, .int (nI l9)), (2, .int (nI h))]) hx hb dX4_mends_106 hl (by decide) rfl (fun ls hl => ?_)
              refine lv_iinc (v := ((nI (i - 1)) - 1)) (lv' := [(6, .int ((nI (i - 1)) - 1)), (5, .int (if mFar v ln c0 h (i - 1) = true then nI (i - 1) else x5)), (4, .int (if mNear v ln c0 dl (i - 1) = true then nI (i - 1) else x4)), (7, .int (bI (mFree v (i - 1) ln c0))), (3, .int (nI c0)), (0, .ref (ad 100)), (1, .int (nI l9)), (2, .int (nI h))]) hx hb dX4_mends_108 hl (k := 3) rfl (by rw [e_ppr (by omega)]; exact e_m1) (by decide) rfl (fun ls hl => ?_)
              refine lv_goto (tgt := 21) hx hb dX4_mends_111 (by decide) ?_
              exact ih21 (i - 1) (if mNear v ln c0 dl (i - 1) = true then nI (i - 1) else x4) (if mFar v ln c0 h (i - 1) = true then nI (i - 1) else x5) (by omega) (by omega) (by rw [firstN_step (by omega : i - 1 < dn), show i - 1 + 1 = i by omega, ex4]) (by rw [firstN_step (by omega : i - 1 < dn), show i - 1 + 1 = i by omega, ex5])  ls (lv_sub hl [0, 1, 2, 4, 5, 6, 7] rfl)
            refine lv_iload hx hb dX4_mends_83 (lv_at hl 1 rfl) ?_
            refine lv_if_eq (tgt := 104) hx hb dX4_mends_85 (by decide) (fun c_11 => ?_) (fun c_11 => ?_)
            · have nc_11 : (mFree v (i - 1) ln c0) = false := bI_0.mp c_11
              refine lv_iload hx hb dX4_mends_104 (lv_at hl 3 rfl) ?_
              exact e_nrm (show x5 = (if mFar v ln c0 h (i - 1) = true then nI (i - 1) else x5) from (by first | (simp [mFar, bI, nc_1, nc_11]; done) | (exfalso; simp_all; done))) (J83_106 ls (lv_sub hl [0, 1, 2, 3, 4, 5, 6, 7] rfl))
            · have nc_11 : (mFree v (i - 1) ln c0) = true := bI_n0.mp c_11
              refine lv_aload_n hx hb dX4_mends_88 rfl (lv_at hl 5 rfl) ?_
              refine lv_iload hx hb dX4_mends_89 (lv_at hl 2 rfl) ?_
              refine e_nrm (y := nI (i - 1)) (e_ppr (by omega)) ?_
              refine lv_iload_n hx hb dX4_mends_91 rfl (lv_at hl 7 rfl) ?_
              refine lv_iload_n hx hb dX4_mends_92 rfl (lv_at hl 4 rfl) ?_
              refine e_cV (As := [.int (nI (i - 1)), .int (nI h), .int (nI c0)]) (rest := []) hx hb hml hown hts 100 (c_X4_canCome (l := l) hm (i - 1) h c0 (by omega) (by omega) (by omega)) cw_RX4_120 (by decide) (by decide) hz hP hI hK (hm 100 (by decide) (by decide)) (by decide) rfl rfl rfl hl.1 rfl (Nat.le_of_ble_eq_true rfl) ⟨Nat.zero_le _, Nat.zero_le _⟩ dX4_mends_93 ?_
              refine lv_if_eq (tgt := 104) hx hb dX4_mends_96 (by decide) (fun c_12 => ?_) (fun c_12 => ?_)
              · have nc_12 : (mCanCome v (i - 1) h c0) = false := bI_0.mp c_12
                refine lv_iload hx hb dX4_mends_104 (lv_at hl 3 rfl) ?_
                exact e_nrm (show x5 = (if mFar v ln c0 h (i - 1) = true then nI (i - 1) else x5) from (by first | (simp [mFar, bI, nc_1, nc_11, nc_12]; done) | (exfalso; simp_all; done))) (J83_106 ls (lv_sub hl [0, 1, 2, 3, 4, 5, 6, 7] rfl))
              · have nc_12 : (mCanCome v (i - 1) h c0) = true := bI_n0.mp c_12
                refine lv_iload hx hb dX4_mends_99 (lv_at hl 2 rfl) ?_
                refine e_nrm (y := nI (i - 1)) (e_ppr (by omega)) ?_
                refine lv_goto (tgt := 106) hx hb dX4_mends_101 (by decide) ?_
                exact e_nrm (show (nI (i - 1)) = (if mFar v ln c0 h (i - 1) = true then nI (i - 1) else x5) from (by first | (simp [mFar, bI, nc_1, nc_11, nc_12]; done) | (exfalso; simp_all; done))) (J83_106 ls (lv_sub hl [0, 1, 2, 3, 4, 5, 6, 7] rfl))
          refine lv_iload hx hb dX4_mends_53 (lv_at hl 0 rfl) ?_
          refine lv_if_eq (tgt := 79) hx hb dX4_mends_55 (by decide) (fun c_13 => ?_) (fun c_13 => ?_)
          · have nc_13 : (mFree v (i - 1) ln c0) = false := bI_0.mp c_13
            refine lv_iload hx hb dX4_mends_79 (lv_at hl 3 rfl) ?_
            exact e_nrm (show x4 = (if mNear v ln c0 dl (i - 1) = true then nI (i - 1) else x4) from (by first | (simp [mNear, bI, nc_1, nc_13]; done) | (exfalso; simp_all; done))) (J53_81 ls (lv_sub hl [0, 1, 2, 3, 4, 5, 6, 7] rfl))
          · have nc_13 : (mFree v (i - 1) ln c0) = true := bI_n0.mp c_13
            refine lv_aload_n hx hb dX4_mends_58 rfl (lv_at hl 5 rfl) ?_
            refine lv_iload hx hb dX4_mends_59 (lv_at hl 1 rfl) ?_
            refine e_nrm (y := nI (i - 1)) (e_ppr (by omega)) ?_
            refine lv_aload_n hx hb dX4_mends_61 rfl (lv_at hl 5 rfl) ?_
            refine e_getf hx hb hts inX4 hown hK hP 100 12 (hm 100 (by decide) (by decide)) (by decide) rfl rfl 8 (by decide) aw_21 (fun _ h => h) rfl dX4_mends_62 ?_
            refine lv_iload_n hx hb dX4_mends_65 rfl (lv_at hl 6 rfl) ?_
            refine e_iald hx hb hK hP 108 12 (hm 108 (by decide) (by decide)) l9 rfl (by omega) (by decide) dX4_mends_66 ?_
            refine e_nrm (y := nI dl) el ?_
            refine lv_iload_n hx hb dX4_mends_67 rfl (lv_at hl 4 rfl) ?_
            refine e_cV (As := [.int (nI (i - 1)), .int (nI dl), .int (nI c0)]) (rest := []) hx hb hml hown hts 100 (c_X4_isBeside (l := l) hm (i - 1) dl c0 (by omega) (by omega) (by omega)) cw_RX4_95 (by decide) (by decide) hz hP hI hK (hm 100 (by decide) (by decide)) (by decide) rfl rfl rfl hl.1 rfl (Nat.le_of_ble_eq_true rfl) ⟨Nat.zero_le _, Nat.zero_le _⟩ dX4_mends_68 ?_
            refine lv_if_eq (tgt := 79) hx hb dX4_mends_71 (by decide) (fun c_14 => ?_) (fun c_14 => ?_)
            · have nc_14 : (mBeside v (i - 1) dl c0) = false := bI_0.mp c_14
              refine lv_iload hx hb dX4_mends_79 (lv_at hl 3 rfl) ?_
              exact e_nrm (show x4 = (if mNear v ln c0 dl (i - 1) = true then nI (i - 1) else x4) from (by first | (simp [mNear, bI, nc_1, nc_13, nc_14]; done) | (exfalso; simp_all; done))) (J53_81 ls (lv_sub hl [0, 1, 2, 3, 4, 5, 6, 7] rfl))
            · have nc_14 : (mBeside v (i - 1) dl c0) = true := bI_n0.mp c_14
              refine lv_iload hx hb dX4_mends_74 (lv_at hl 1 rfl) ?_
              refine e_nrm (y := nI (i - 1)) (e_ppr (by omega)) ?_
              refine lv_goto (tgt := 81) hx hb dX4_mends_76 (by decide) ?_
              exact e_nrm (show (nI (i - 1)) = (if mNear v ln c0 dl (i - 1) = true then nI (i - 1) else x4) from (by first | (simp [mNear, bI, nc_1, nc_13, nc_14]; done) | (exfalso; simp_all; done))) (J53_81 ls (lv_sub hl [0, 1, 2, 3, 4, 5, 6, 7] rfl))
        refine lv_aload_n hx hb dX4_mends_26 rfl (lv_at hl 4 rfl) ?_
        refine e_getf hx hb hts inX4 hown hK hP 100 12 (hm 100 (by decide) (by decide)) (by decide) rfl rfl 2 (by decide) aw_49 (fun _ h => h) rfl dX4_mends_27 ?_
        refine lv_iload hx hb dX4_mends_30 (lv_at hl 0 rfl) ?_
        refine e_nrm (y := nI (i - 1)) (e_ppr (by omega)) ?_
        refine e_iald hx hb hK hP 103 8 (hm 103 (by decide) (by decide)) (i - 1) rfl (by omega) (by decide) dX4_mends_32 ?_
        refine lv_if_ne (tgt := 50) hx hb dX4_mends_33 (by decide) (fun c_15 => ?_) (fun c_15 => ?_)
        · skip
          refine lv_iconst (v := 0) hx hb dX4_mends_50 (by decide) ?_
          exact e_nrm (show 0 = (bI (mFree v (i - 1) ln c0)) from (by first | (simp [mFree, bI, nc_1, c_15]; done) | (exfalso; simp_all; done))) (J26_51 ls (lv_sub hl [0, 1, 2, 3, 4, 5, 6] rfl))
        · skip
          refine lv_aload_n hx hb dX4_mends_36 rfl (lv_at hl 4 rfl) ?_
          refine lv_iload hx hb dX4_mends_37 (lv_at hl 0 rfl) ?_
          refine e_nrm (y := nI (i - 1)) (e_ppr (by omega)) ?_
          refine lv_iload_n hx hb dX4_mends_39 rfl (lv_at hl 3 rfl) ?_
          refine e_cV (As := [.int (nI (i - 1)), .int (nI c0)]) (rest := []) hx hb hml hown hts 100 (c_X4_liftsOf (l := l) dn ln hm hv (nI (i - 1)) (nI c0)) cw_RX4_98 (by decide) (by decide) hz hP hI hK (hm 100 (by decide) (by decide)) (by decide) rfl rfl rfl hl.1 rfl (Nat.le_of_ble_eq_true rfl) ⟨Nat.zero_le _, Nat.zero_le _⟩ dX4_mends_40 ?_
          refine lv_if_ne (tgt := 50) hx hb dX4_mends_43 (by decide) (fun c_16 => ?_) (fun c_16 => ?_)
          · skip
            refine lv_iconst (v := 0) hx hb dX4_mends_50 (by decide) ?_
            exact e_nrm (show 0 = (bI (mFree v (i - 1) ln c0)) from (by first | (simp [mFree, bI, nc_1, c_15, c_16]; done) | (exfalso; simp_all; done))) (J26_51 ls (lv_sub hl [0, 1, 2, 3, 4, 5, 6] rfl))
          · skip
            refine lv_iconst (v := 1) hx hb dX4_mends_46 (by decide) ?_
            refine lv_goto (tgt := 51) hx hb dX4_mends_47 (by decide) ?_
            exact e_nrm (show 1 = (bI (mFree v (i - 1) ln c0)) from (by first | (simp [mFree, bI, nc_1, c_15, c_16]; done) | (exfalso; simp_all; done))) (J26_51 ls (lv_sub hl [0, 1, 2, 3, 4, 5, 6] rfl))
  exact L21 _ dn (-1) (-1) (Nat.lt_succ_self _) (Nat.le_refl _) (by rw [firstN_end (Nat.le_refl _)]) (by rw [firstN_end (Nat.le_refl _)])  ls (lv_sub hl [0, 1, 2, 3, 4, 5, 6] rfl)

set_option maxRecDepth 100000 in
set_option maxHeartbeats 4000000 in
theorem c_X4_hurt {l : Launch} {X : eD} {z0 : Nat} {ad kd sp : Nat → Nat} {v : eV} (dn ln : Nat) (hm : mK kd) (hv : mI dn ln v) (d : Int32) : eMu l yX4_hurt cX4_hurt 4 (some .int) 4 [.ref (ad 100), .int d] X z0 ad kd sp v (some (.int (mHurtV v dn ln d))) (mHurtS v dn ln d) := by
  refine e_mutI (by decide +kernel) (Nat.le_of_ble_eq_true rfl) rfl ?_
  intro p e s m args below meth c hx hb hml hown hts hW Q hret ls hl
  obtain ⟨hz, hP, hI, hK⟩ := hW
  have hl : lv_has ls 4 [(0, .ref (ad 100)), (1, .int d)] := hl
  have hS : va_S (e_A z0) s.heap s.heap [] := va_S.rf
  have hd8 := hv.2.2.1
  have hl12 := hv.2.2.2.1
  refine lv_aload_n hx hb dX4_hurt_0 rfl (lv_at hl 0 rfl) ?_
  have J1_28 : ∀ ls : Array Slot, lv_has ls 4 [(0, .ref (ad 100)), (1, .int d)] → W p l e (e_rm 4 0 0) s m args below meth c s.heap [] 0 0 Q (F0 m 28 ls [.int (mHurtC v dn d), .ref (ad 100)]) := by
    intro ls hl
    refine e_cVM (As := [.int (mHurtC v dn d)]) (rest := []) hx hb hml hown hts 100 (c_X4_holds (l := l) hm (mHurtC v dn d)) cw_RX4_63 (by decide) (by decide) hz hP hI hK hS (hm 100 (by decide) (by decide)) (by decide) rfl rfl rfl hl.1 rfl (Nat.le_of_ble_eq_true rfl) ⟨Nat.zero_le _, Nat.zero_le _⟩ dX4_hurt_28 (fun H locs hz hP hS => ?_)
    refine lv_if_eq (tgt := 36) hx hb dX4_hurt_31 (by decide) (fun c_1 => ?_) (fun c_1 => ?_)
    · have nc_1 : ¬ (0 < (mHurtC v dn d)) := of_decide_eq_false (bI_0.mp c_1)
      obtain ⟨d_2, hd_2, ed_2⟩ := e_okD hd8 (mHurtC_ok nc_1)
      have nd_2 := nN_of ed_2 (by omega)
      refine lv_aload_n hx hb dX4_hurt_36 rfl (lv_at hl 0 rfl) ?_
      refine e_getf hx hb hts inX4 hown hK hP 100 12 (hm 100 (by decide) (by decide)) (by decide) rfl rfl 2 (by decide) aw_49 (fun _ h => h) rfl dX4_hurt_37 ?_
      refine lv_iload_n hx hb dX4_hurt_40 rfl (lv_at hl 1 rfl) ?_
      refine e_nrm (y := nI d_2) ed_2 ?_
      refine lv_iconst (v := 1) hx hb dX4_hurt_41 (by decide) ?_
      refine e_iast hx hb hK hP hI hS 103 8 (hm 103 (by decide) (by decide)) d_2 rfl (by omega) (by omega) dX4_hurt_42 (fun H locs hz1 hP hS => ?_)
      have hz := Nat.le_trans hz (Nat.le_of_eq hz1.symm)
      refine lv_iconst (v := 0) hx hb dX4_hurt_43 (by decide) ?_
      refine lv_istore_n (lv' := [(2, .int 0), (0, .ref (ad 100)), (1, .int d)]) hx hb dX4_hurt_44 rfl hl (by decide) rfl (fun ls hl => ?_)
      have L45 : ∀ (k45 : Nat) (i : Nat) (u : eV), ln - i < k45 → (i ≤ ln) → (u = mDrop (e_set (mT v (mHurtC v dn d)) 103 d_2 1) (nI d_2) i) → (mI dn ln u) → ∀ (H : Heap) (locs : List Loc), z0 ≤ H.size → e_P X ad kd sp u H → va_S (e_A z0) s.heap H locs →  ∀ ls : Array Slot, lv_has ls 4 [(2, .int (nI i)), (0, .ref (ad 100)), (1, .int d)] → W p l e (e_rm 4 0 0) s m args below meth c H locs 0 0 Q (F0 m 45 ls []) := by
        intro k45
        induction k45 with
        | zero => intro i u hk; exact absurd hk (Nat.not_lt_zero _)
        | succ k45 ih45 =>
          intro i u hk45 hi eu hv H locs hz hP hS ls hl
          refine lv_iload_n hx hb dX4_hurt_45 rfl (lv_at hl 0 rfl) ?_
          refine lv_aload_n hx hb dX4_hurt_46 rfl (lv_at hl 1 rfl) ?_
          refine e_getf hx hb hts inX4 hown hK hP 100 12 (hm 100 (by decide) (by decide)) (by decide) rfl rfl 12 (by decide) aw_24 (fun _ h => h) rfl dX4_hurt_47 ?_
          refine e_nrm (y := nI ln) (hv.2.1) ?_
          refine lv_icmp_ge (tgt := 85) hx hb dX4_hurt_50 (by decide) (fun c_3 => ?_) (fun c_3 => ?_)
          · have nc_3 : ln ≤ i := (nI_leI (a := ln) (b := i) (by omega) (by omega)).mp c_3
            refine lv_iconst (v := 0) hx hb dX4_hurt_85 (by decide) ?_
            refine lv_istore_n (lv' := [(2, .int 0), (0, .ref (ad 100)), (1, .int d)]) hx hb dX4_hurt_86 rfl hl (by decide) rfl (fun ls hl => ?_)
            refine lv_iconst (v := 0) hx hb dX4_hurt_87 (by decide) ?_
            refine lv_istore_n (lv' := [(3, .int 0), (2, .int 0), (0, .ref (ad 100)), (1, .int d)]) hx hb dX4_hurt_88 rfl hl (by decide) rfl (fun ls hl => ?_)
            have L89 : ∀ (k89 : Nat) (j : Nat) (u2 : eV) (y2 : Int32), ln - j < k89 → (j ≤ ln) → (mMendAll (mDrop (e_set (mT v (mHurtC v dn d)) 103 d_2 1) (nI d_2) ln) dn ln d_2 j = (u2, y2)) → (mI dn ln u2) → ∀ (H : Heap) (locs : List Loc), z0 ≤ H.size → e_P X ad kd sp u2 H → va_S (e_A z0) s.heap H locs →  ∀ ls : Array Slot, lv_has ls 4 [(3, .int (nI j)), (2, .int y2), (0, .ref (ad 100)), (1, .int d)] → W p l e (e_rm 4 0 0) s m args below meth c H locs 0 0 Q (F0 m 89 ls []) := by
              intro k89
              induction k89 with
              | zero => intro j u2 y2 hk; exact absurd hk (Nat.not_lt_zero _)
              | succ k89 ih89 =>
                intro j u2 y2 hk89 hj ep hv H locs hz hP hS ls hl
                refine lv_iload_n hx hb dX4_hurt_89 rfl (lv_at hl 0 rfl) ?_
                refine lv_aload_n hx hb dX4_hurt_90 rfl (lv_at hl 2 rfl) ?_
                refine e_getf hx hb hts inX4 hown hK hP 100 12 (hm 100 (by decide) (by decide)) (by decide) rfl rfl 12 (by decide) aw_24 (fun _ h => h) rfl dX4_hurt_91 ?_
                refine e_nrm (y := nI ln) (hv.2.1) ?_
                refine lv_icmp_ge (tgt := 134) hx hb dX4_hurt_94 (by decide) (fun c_4 => ?_) (fun c_4 => ?_)
                · have nc_4 : ln ≤ j := (nI_leI (a := ln) (b := j) (by omega) (by omega)).mp c_4
                  refine lv_iload_n hx hb dX4_hurt_134 rfl (lv_at hl 1 rfl) ?_
                  exact hret _ _ _ _ _ _ (show y2 = mHurtV v dn ln d from by have e9 : j = ln := (by omega); rw [e9] at ep; unfold mHurtV mHurt0; rw [if_neg nc_1, nd_2, ep]) (show u2 = mHurtS v dn ln d from by have e9 : j = ln := (by omega); rw [e9] at ep; unfold mHurtS mHurt0; rw [if_neg nc_1, nd_2, ep]) hP hS dX4_hurt_135
                · have nc_4 : ¬ ln ≤ j := fun h => c_4 ((nI_leI (a := ln) (b := j) (by omega) (by omega)).mpr h)
                  refine lv_iload_n hx hb dX4_hurt_97 rfl (lv_at hl 1 rfl) ?_
                  refine lv_aload_n hx hb dX4_hurt_98 rfl (lv_at hl 2 rfl) ?_
                  refine e_getf hx hb hts inX4 hown hK hP 100 12 (hm 100 (by decide) (by decide)) (by decide) rfl rfl 11 (by decide) aw_25 (fun _ h => h) rfl dX4_hurt_99 ?_
                  refine lv_iload_n hx hb dX4_hurt_102 rfl (lv_at hl 0 rfl) ?_
                  refine e_iald hx hb hK hP 111 12 (hm 111 (by decide) (by decide)) j rfl (by omega) (by decide) dX4_hurt_103 ?_
                  refine lv_if_ne (tgt := 125) hx hb dX4_hurt_104 (by decide) (fun c_5 => ?_) (fun c_5 => ?_)
                  · skip
                    refine lv_iconst (v := 0) hx hb dX4_hurt_125 (by decide) ?_
                    refine lv_iadd hx hb dX4_hurt_126 ?_
                    refine lv_istore_n (lv' := [(2, .int (y2 + 0)), (3, .int (nI j)), (0, .ref (ad 100)), (1, .int d)]) hx hb dX4_hurt_127 rfl hl (by decide) rfl (fun ls hl => ?_)
                    refine lv_iinc (v := (nI (j + 1))) (lv' := [(3, .int (nI (j + 1))), (2, .int (y2 + 0)), (0, .ref (ad 100)), (1, .int d)]) hx hb dX4_hurt_128 hl (k := 1) rfl (nI_add j 1) (by decide) rfl (fun ls hl => ?_)
                    refine lv_goto (tgt := 89) hx hb dX4_hurt_131 (by decide) ?_
                    exact ih89 (j + 1) u2 (y2 + 0) (by omega) (by omega) (mMendAll_miss ep (by simp [mHit, nc_1, nd_2, nc_3, nc_4, c_5])) (hv) _ _ hz hP hS ls (lv_sub hl [0, 1, 2, 3] rfl)
                  · skip
                    refine lv_aload_n hx hb dX4_hurt_107 rfl (lv_at hl 2 rfl) ?_
                    refine lv_iload_n hx hb dX4_hurt_108 rfl (lv_at hl 0 rfl) ?_
                    refine lv_iload_n hx hb dX4_hurt_109 rfl (lv_at hl 3 rfl) ?_
                    refine e_nrm (y := nI d_2) ed_2 ?_
                    refine e_cV (As := [.int (nI j), .int (nI d_2)]) (rest := [.int y2]) hx hb hml hown hts 100 (c_X4_isOf (l := l) (v := u2) hm j (nI d_2) (by omega)) cw_RX4_91 (by decide) (by decide) hz hP hI hK (hm 100 (by decide) (by decide)) (by decide) rfl rfl rfl hl.1 rfl (Nat.le_of_ble_eq_true rfl) ⟨Nat.zero_le _, Nat.zero_le _⟩ dX4_hurt_110 ?_
                    refine lv_if_eq (tgt := 125) hx hb dX4_hurt_113 (by decide) (fun c_6 => ?_) (fun c_6 => ?_)
                    · have nc_6 : (mOf u2 j (nI d_2)) = false := bI_0.mp c_6
                      refine lv_iconst (v := 0) hx hb dX4_hurt_125 (by decide) ?_
                      refine lv_iadd hx hb dX4_hurt_126 ?_
                      refine lv_istore_n (lv' := [(2, .int (y2 + 0)), (3, .int (nI j)), (0, .ref (ad 100)), (1, .int d)]) hx hb dX4_hurt_127 rfl hl (by decide) rfl (fun ls hl => ?_)
                      refine lv_iinc (v := (nI (j + 1))) (lv' := [(3, .int (nI (j + 1))), (2, .int (y2 + 0)), (0, .ref (ad 100)), (1, .int d)]) hx hb dX4_hurt_128 hl (k := 1) rfl (nI_add j 1) (by decide) rfl (fun ls hl => ?_)
                      refine lv_goto (tgt := 89) hx hb dX4_hurt_131 (by decide) ?_
                      exact ih89 (j + 1) u2 (y2 + 0) (by omega) (by omega) (mMendAll_miss ep (by simp [mHit, nc_1, nd_2, nc_3, nc_4, c_5, nc_6])) (hv) _ _ hz hP hS ls (lv_sub hl [0, 1, 2, 3] rfl)
                    · have nc_6 : (mOf u2 j (nI d_2)) = true := bI_n0.mp c_6
                      have hit : mHit u2 j d_2 = true := by simp [mHit, nc_1, nd_2, nc_3, nc_4, c_5, nc_6]
                      obtain ⟨c0, hc0, ec⟩ := hv.2.2.2.2.1 j (by omega)
                      obtain ⟨dl, hdl, el⟩ := hv.2.2.2.2.2.1 j (by omega)
                      refine lv_aload_n hx hb dX4_hurt_116 rfl (lv_at hl 2 rfl) ?_
                      refine lv_iload_n hx hb dX4_hurt_117 rfl (lv_at hl 0 rfl) ?_
                      refine lv_iload_n hx hb dX4_hurt_118 rfl (lv_at hl 3 rfl) ?_
                      refine e_nrm (y := nI d_2) ed_2 ?_
                      refine e_cVM (As := [.int (nI j), .int (nI d_2)]) (rest := [.int y2]) hx hb hml hown hts 100 (c_X4_mends (l := l) (v := u2) dn ln hm hv j d_2 c0 dl (by omega) (by omega) (by omega) (by omega) ec el) cw_RX4_127 (by decide) (by decide) hz hP hI hK hS (hm 100 (by decide) (by decide)) (by decide) rfl rfl rfl hl.1 rfl (Nat.le_of_ble_eq_true rfl) ⟨Nat.zero_le _, Nat.zero_le _⟩ dX4_hurt_119 (fun H locs hz hP hS => ?_)
                      refine lv_goto (tgt := 126) hx hb dX4_hurt_122 (by decide) ?_
                      refine lv_iadd hx hb dX4_hurt_126 ?_
                      refine lv_istore_n (lv' := [(2, .int (y2 + (mMendsV u2 dn ln j c0 dl d_2))), (3, .int (nI j)), (0, .ref (ad 100)), (1, .int d)]) hx hb dX4_hurt_127 rfl hl (by decide) rfl (fun ls hl => ?_)
                      refine lv_iinc (v := (nI (j + 1))) (lv' := [(3, .int (nI (j + 1))), (2, .int (y2 + (mMendsV u2 dn ln j c0 dl d_2))), (0, .ref (ad 100)), (1, .int d)]) hx hb dX4_hurt_128 hl (k := 1) rfl (nI_add j 1) (by decide) rfl (fun ls hl => ?_)
                      refine lv_goto (tgt := 89) hx hb dX4_hurt_131 (by decide) ?_
                      exact ih89 (j + 1) (mMendsS u2 dn ln j c0 dl d_2) (y2 + (mMendsV u2 dn ln j c0 dl d_2)) (by omega) (by omega) (mMendAll_hit ep hit ec el (by omega) (by omega)) (mI_mends hv) _ _ hz hP hS ls (lv_sub hl [0, 1, 2, 3] rfl)
            exact L89 _ 0 u 0 (Nat.lt_succ_self _) (Nat.zero_le _) (by rw [eu, show i = ln by omega]; rfl) (hv) _ _ hz hP hS ls (lv_sub hl [0, 1, 2, 3] rfl)
          · have nc_3 : ¬ ln ≤ i := fun h => c_3 ((nI_leI (a := ln) (b := i) (by omega) (by omega)).mpr h)
            refine lv_aload_n hx hb dX4_hurt_53 rfl (lv_at hl 1 rfl) ?_
            refine e_getf hx hb hts inX4 hown hK hP 100 12 (hm 100 (by decide) (by decide)) (by decide) rfl rfl 11 (by decide) aw_25 (fun _ h => h) rfl dX4_hurt_54 ?_
            refine lv_iload_n hx hb dX4_hurt_57 rfl (lv_at hl 0 rfl) ?_
            have J58_78 : ∀ ls : Array Slot, lv_has ls 4 [(2, .int (nI i)), (0, .ref (ad 100)), (1, .int d)] → W p l e (e_rm 4 0 0) s m args below meth c H locs 0 0 Q (F0 m 78 ls [.int (if u 108 i = nI d_2 then 1 else u 111 i), .int (nI i), .ref (ad 111)]) := by
              intro ls hl
              refine e_iast hx hb hK hP hI hS 111 12 (hm 111 (by decide) (by decide)) i rfl (by omega) (by omega) dX4_hurt_78 (fun H locs hz1 hP hS => ?_)
              have hz := Nat.le_trans hz (Nat.le_of_eq hz1.symm)
              refine lv_iinc (v := (nI (i + 1))) (lv' := [(2, .int (nI (i + 1))), (0, .ref (ad 100)), (1, .int d)]) hx hb dX4_hurt_79 hl (k := 0) rfl (nI_add i 1) (by decide) rfl (fun ls hl => ?_)
              refine lv_goto (tgt := 45) hx hb dX4_hurt_82 (by decide) ?_
              exact ih45 (i + 1) (e_set u 111 i (if u 108 i = nI d_2 then 1 else u 111 i)) (by omega) (by omega) (by rw [eu]; rfl) (hv) _ _ hz hP hS ls (lv_sub hl [0, 1, 2] rfl)
            refine lv_aload_n hx hb dX4_hurt_58 rfl (lv_at hl 1 rfl) ?_
            refine e_getf hx hb hts inX4 hown hK hP 100 12 (hm 100 (by decide) (by decide)) (by decide) rfl rfl 8 (by decide) aw_21 (fun _ h => h) rfl dX4_hurt_59 ?_
            refine lv_iload_n hx hb dX4_hurt_62 rfl (lv_at hl 0 rfl) ?_
            refine e_iald hx hb hK hP 108 12 (hm 108 (by decide) (by decide)) i rfl (by omega) (by decide) dX4_hurt_63 ?_
            refine lv_iload_n hx hb dX4_hurt_64 rfl (lv_at hl 2 rfl) ?_
            refine e_nrm (y := nI d_2) ed_2 ?_
            refine lv_icmp_ne (tgt := 72) hx hb dX4_hurt_65 (by decide) (fun c_7 => ?_) (fun c_7 => ?_)
            · skip
              refine lv_aload_n hx hb dX4_hurt_72 rfl (lv_at hl 1 rfl) ?_
              refine e_getf hx hb hts inX4 hown hK hP 100 12 (hm 100 (by decide) (by decide)) (by decide) rfl rfl 11 (by decide) aw_25 (fun _ h => h) rfl dX4_hurt_73 ?_
              refine lv_iload_n hx hb dX4_hurt_76 rfl (lv_at hl 0 rfl) ?_
              refine e_iald hx hb hK hP 111 12 (hm 111 (by decide) (by decide)) i rfl (by omega) (by decide) dX4_hurt_77 ?_
              exact e_nrm (show (u 111 i) = (if u 108 i = nI d_2 then 1 else u 111 i) from (by first | (simp [bI, nc_1, nd_2, nc_3, eq_false c_7]; done) | (exfalso; simp_all; done))) (J58_78 ls (lv_sub hl [0, 1, 2] rfl))
            · skip
              refine lv_iconst (v := 1) hx hb dX4_hurt_68 (by decide) ?_
              refine lv_goto (tgt := 78) hx hb dX4_hurt_69 (by decide) ?_
              exact e_nrm (show 1 = (if u 108 i = nI d_2 then 1 else u 111 i) from (by first | (simp [bI, nc_1, nd_2, nc_3, eq_true c_7]; done) | (exfalso; simp_all; done))) (J58_78 ls (lv_sub hl [0, 1, 2] rfl))
      exact L45 _ 0 (e_set (mT v (mHurtC v dn d)) 103 d_2 1) (Nat.lt_succ_self _) (Nat.zero_le _) (rfl) (hv) _ _ hz hP hS ls (lv_sub hl [0, 1, 2] rfl)
    · have nc_1 : (0 < (mHurtC v dn d)) := of_decide_eq_true (bI_n0.mp c_1)
      refine lv_iconst (v := (-1)) hx hb dX4_hurt_34 (by decide) ?_
      exact hret _ _ _ _ _ _ (show (-1) = mHurtV v dn ln d from (by first | (simp [mHurtV, bI, nc_1]; done) | (exfalso; simp_all; done))) (show (mT v (mHurtC v dn d)) = mHurtS v dn ln d from (by first | (simp [mHurtV, bI, mHurtS, nc_1]; done) | (exfalso; simp_all; done))) hP hS dX4_hurt_35
  refine lv_aload_n hx hb dX4_hurt_1 rfl (lv_at hl 0 rfl) ?_
  refine lv_iload_n hx hb dX4_hurt_2 rfl (lv_at hl 1 rfl) ?_
  refine e_cV (As := [.int d]) (rest := [.ref (ad 100)]) hx hb hml hown hts 100 (c_X4_isDancer (l := l) dn ln hm hv d) cw_RX4_67 (by decide) (by decide) hz hP hI hK (hm 100 (by decide) (by decide)) (by decide) rfl rfl rfl hl.1 rfl (Nat.le_of_ble_eq_true rfl) ⟨Nat.zero_le _, Nat.zero_le _⟩ dX4_hurt_3 ?_
  refine lv_if_ne (tgt := 13) hx hb dX4_hurt_6 (by decide) (fun c_8 => ?_) (fun c_8 => ?_)
  · have nc_8 : (mIn d 0 (nI dn - 1)) = true := bI_n0.mp c_8
    obtain ⟨d_9, hd_9, ed_9⟩ := e_okD hd8 ((show mOkD dn d = true from nc_8))
    have nd_9 := nN_of ed_9 (by omega)
    refine lv_aload_n hx hb dX4_hurt_13 rfl (lv_at hl 0 rfl) ?_
    refine e_getf hx hb hts inX4 hown hK hP 100 12 (hm 100 (by decide) (by decide)) (by decide) rfl rfl 2 (by decide) aw_49 (fun _ h => h) rfl dX4_hurt_14 ?_
    refine lv_iload_n hx hb dX4_hurt_17 rfl (lv_at hl 1 rfl) ?_
    refine e_nrm (y := nI d_9) ed_9 ?_
    refine e_iald hx hb hK hP 103 8 (hm 103 (by decide) (by decide)) d_9 rfl (by omega) (by decide) dX4_hurt_18 ?_
    refine lv_iconst (v := 1) hx hb dX4_hurt_19 (by decide) ?_
    refine lv_icmp_ne (tgt := 27) hx hb dX4_hurt_20 (by decide) (fun c_10 => ?_) (fun c_10 => ?_)
    · skip
      refine lv_iconst (v := 0) hx hb dX4_hurt_27 (by decide) ?_
      exact e_nrm (show 0 = (mHurtC v dn d) from (by first | (simp [mHurtC, mOkD, bI, nc_8, nd_9, eq_false c_10]; done) | (exfalso; simp_all; done))) (J1_28 ls (lv_sub hl [0, 1] rfl))
    · skip
      refine lv_iconst (v := 2) hx hb dX4_hurt_23 (by decide) ?_
      refine lv_goto (tgt := 28) hx hb dX4_hurt_24 (by decide) ?_
      exact e_nrm (show 2 = (mHurtC v dn d) from (by first | (simp [mHurtC, mOkD, bI, nc_8, nd_9, eq_true c_10]; done) | (exfalso; simp_all; done))) (J1_28 ls (lv_sub hl [0, 1] rfl))
  · have nc_8 : (mIn d 0 (nI dn - 1)) = false := bI_0.mp c_8
    refine lv_iconst (v := 1) hx hb dX4_hurt_9 (by decide) ?_
    refine lv_goto (tgt := 28) hx hb dX4_hurt_10 (by decide) ?_
    exact e_nrm (show 1 = (mHurtC v dn d) from (by first | (simp [mHurtC, mOkD, bI, nc_8]; done) | (exfalso; simp_all; done))) (J1_28 ls (lv_sub hl [0, 1] rfl))

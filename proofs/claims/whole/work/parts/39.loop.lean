/-! THE LAW'S LOOP -/
theorem and15 (x : Int32) : ∃ j, j < 16 ∧ x &&& 15 = nI j := by
  refine ⟨(x &&& 15).toBitVec.toNat, ?_, ?_⟩
  · rw [Int32.toBitVec_and, BitVec.toNat_and]
    exact Nat.lt_of_le_of_lt Nat.and_le_right (by decide)
  · apply Int32.toBitVec_inj.1
    show _ = BitVec.ofNat 32 _
    simp
set_option maxHeartbeats 4000000 in
theorem law_next {p : Program} {l : Launch} {e : Env} {s : State} {m : MethodId} {below : List Frame} {meth : Method} {c : Code} {b L : Nat} {xs : Nat → Int32} {X : eD} {t0 mi i k : Nat} (F : lFix p l s m c b L xs X t0 mi) (ih : lGo p l e s m below meth c b X t0 (i + 5) k 23) : lGo p l e s m below meth c b X t0 i k 1102 := by
  intro dn ln ad v H locs ls hWd hl
  obtain ⟨hx, hb, hml, hown, hts, hX, hbl, hl9, hK, hT, hL, hN, hL0⟩ := F
  refine lv_iinc (v := nI (i + 5)) (lv' := [(4, .int (nI (i + 5))), (0, .ref b), (1, .ref (ad 0)), (2, .ref (ad 100)), (3, .ref (ad 120))]) hx hb dL_law_1102 hl (k := 4) rfl (nI_add i 5) (by decide) rfl (fun ls hl => ?_)
  refine lv_goto (tgt := 23) hx hb dL_law_1105 (by decide) ?_
  exact ih dn ln ad v H locs ls hWd (lv_sub hl [1, 2, 3, 4, 0] rfl)
set_option maxRecDepth 100000 in
set_option maxHeartbeats 4000000 in
theorem law_case {p : Program} {l : Launch} {e : Env} {s : State} {m : MethodId} {below : List Frame} {meth : Method} {c : Code} {b L : Nat} {xs : Nat → Int32} {X : eD} {t0 mi i k : Nat} (F : lFix p l s m c b L xs X t0 mi) (hi : i + 4 < L) (hk : k < 599) (next : lGo p l e s m below meth c b X t0 i (k + 1) 1102) : lGo p l e s m below meth c b X t0 i k 32 := by
  intro dn ln ad v H locs ls hWd hl
  obtain ⟨hx, hb, hml, hown, hts, hX, hbl, hl9, hK, hT, hL, hN, hL0⟩ := id F
  refine lv_aload_n hx hb dL_law_32 rfl (lv_at hl 0 rfl) ?_
  refine lv_iload hx hb dL_law_33 (lv_at hl 4 rfl) ?_
  refine va_sld (A := e_A s.heap.size) (H0 := s.heap) hx hb hX hbl (Nat.not_le.mpr hbl) hWd.2.2.2.1 (vp_in_nI (show i < L by omega) (by omega)) dL_law_35 ?_
  refine lv_bipush (v := 15) hx hb dL_law_36 (by decide) ?_
  refine lv_iand hx hb dL_law_38 ?_
  obtain ⟨j, hj, ej⟩ := and15 (xs (nI i).toNatClampNeg)
  refine e_nrm ej ?_
  rcases (show j = 0 ∨ j = 1 ∨ j = 2 ∨ j = 3 ∨ j = 4 ∨ j = 5 ∨ j = 6 ∨ j = 7 ∨ j = 8 ∨ j = 9 ∨ j = 10 ∨ j = 11 ∨ j = 12 ∨ j = 13 ∨ j = 14 ∨ j = 15 by omega) with rfl | rfl | rfl | rfl | rfl | rfl | rfl | rfl | rfl | rfl | rfl | rfl | rfl | rfl | rfl | rfl
  · exact lv_tableIn (off := 73) (tgt := 112) hx hb dL_law_39 (by decide) (by decide) (by decide) (by decide) (law_dancer F hi hk next dn ln ad v H locs ls hWd hl)
  · exact lv_tableIn (off := 141) (tgt := 180) hx hb dL_law_39 (by decide) (by decide) (by decide) (by decide) (law_move F hi hk next dn ln ad v H locs ls hWd hl)
  · exact lv_tableIn (off := 233) (tgt := 272) hx hb dL_law_39 (by decide) (by decide) (by decide) (by decide) (law_place F hi hk next dn ln ad v H locs ls hWd hl)
  · exact lv_tableIn (off := 329) (tgt := 368) hx hb dL_law_39 (by decide) (by decide) (by decide) (by decide) (law_placeAnew F hi hk next dn ln ad v H locs ls hWd hl)
  · exact lv_tableIn (off := 425) (tgt := 464) hx hb dL_law_39 (by decide) (by decide) (by decide) (by decide) (law_clashes F hi hk next dn ln ad v H locs ls hWd hl)
  · exact lv_tableIn (off := 481) (tgt := 520) hx hb dL_law_39 (by decide) (by decide) (by decide) (by decide) (law_firstClash F hi hk next dn ln ad v H locs ls hWd hl)
  · exact lv_tableIn (off := 494) (tgt := 533) hx hb dL_law_39 (by decide) (by decide) (by decide) (by decide) (law_lift F hi hk next dn ln ad v H locs ls hWd hl)
  · exact lv_tableIn (off := 586) (tgt := 625) hx hb dL_law_39 (by decide) (by decide) (by decide) (by decide) (law_ofLift F hi hk next dn ln ad v H locs ls hWd hl)
  · exact lv_tableIn (off := 654) (tgt := 693) hx hb dL_law_39 (by decide) (by decide) (by decide) (by decide) (law_tempo F hi hk next dn ln ad v H locs ls hWd hl)
  · exact lv_tableIn (off := 722) (tgt := 761) hx hb dL_law_39 (by decide) (by decide) (by decide) (by decide) (law_begins F hi hk next dn ln ad v H locs ls hWd hl)
  · exact lv_tableIn (off := 778) (tgt := 817) hx hb dL_law_39 (by decide) (by decide) (by decide) (by decide) (law_rehearse F hi hk next dn ln ad v H locs ls hWd hl)
  · exact lv_tableIn (off := 870) (tgt := 909) hx hb dL_law_39 (by decide) (by decide) (by decide) (by decide) (law_rehearsal F hi hk next dn ln ad v H locs ls hWd hl)
  · exact lv_tableIn (off := 938) (tgt := 977) hx hb dL_law_39 (by decide) (by decide) (by decide) (by decide) (law_knees F hi hk next dn ln ad v H locs ls hWd hl)
  · exact lv_tableIn (off := 994) (tgt := 1033) hx hb dL_law_39 (by decide) (by decide) (by decide) (by decide) (law_hurt F hi hk next dn ln ad v H locs ls hWd hl)
  · exact lv_tableIn (off := 1050) (tgt := 1089) hx hb dL_law_39 (by decide) (by decide) (by decide) (by decide) (law_sleep F hi hk next dn ln ad v H locs ls hWd hl)
  · refine lv_tableOut (tgt := 1102) hx hb dL_law_39 (Or.inr (by decide)) (by decide) ?_
    refine W.widen (k := 40 + 60 * (k + 1)) (n := 2000 + 2000 * (k + 1)) (by omega) (by omega) ?_
    exact next dn ln ad v H locs ls hWd hl
set_option maxHeartbeats 4000000 in
theorem law_loop {p : Program} {l : Launch} {e : Env} {s : State} {m : MethodId} {below : List Frame} {meth : Method} {c : Code} {b L : Nat} {xs : Nat → Int32} {X : eD} {t0 mi : Nat} (F : lFix p l s m c b L xs X t0 mi) (hr : meth.sig.returnType = ret) (hlocks : meth.locks = false) : ∀ (n i k : Nat), L < i + n → i = 5 * k → i ≤ L → lGo p l e s m below meth c b X t0 i k 23
  | 0, i, k, h1, h2, h3 => absurd h1 (by omega)
  | n + 1, i, k, h1, h2, h3 => by
    intro dn ln ad v H locs ls hWd hl
    obtain ⟨hx, hb, hml, hown, hts, hX, hbl, hl9, hK, hT, hL, hN, hL0⟩ := id F
    have e5 : (nI L - nI 5).toInt = (L : Int) - 5 := pk_sub_toInt (by omega) (by decide)
    refine lv_iload hx hb dL_law_23 (lv_at hl 4 rfl) ?_
    refine lv_aload_n hx hb dL_law_25 rfl (lv_at hl 0 rfl) ?_
    refine va_slen (A := e_A s.heap.size) (H0 := s.heap) hx hb hX hbl (Nat.not_le.mpr hbl) hWd.2.2.2.1 dL_law_26 ?_
    refine lv_iconst (v := nI 5) hx hb dL_law_27 (by decide) ?_
    refine lv_isub hx hb dL_law_28 ?_
    refine lv_icmp_gt (tgt := 1108) hx hb dL_law_29 (by decide) (fun g => ?_) (fun g => ?_)
    · refine lv_iconst (v := 1) hx hb dL_law_1108 (by decide) ?_
      refine va_forget (fun q hq => hWd.2.2.2.1.2.2 q hq) ?_
      refine W.widen (k := 603072) (n := 7219306) (by omega) (by omega) ?_
      exact lw_ret hx hb hr hlocks dL_law_1109
    · have g' : ¬ nI L - nI 5 < nI i := g
      rw [Int32.lt_iff_toInt_lt, e5, nI_toInt (by omega)] at g'
      exact law_case F (by omega) (by omega) (law_next F (law_loop F hr hlocks n (i + 5) (k + 1) (by omega) (by omega) (by omega))) dn ln ad v H locs ls hWd hl

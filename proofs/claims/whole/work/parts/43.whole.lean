-- ===== YOUR PART BEGINS =====
theorem l_traces {l : Launch} (hflags : l.flags = flags0) : l.stackTraces = false := by
  show (!l.flags.contains noTraceFlag) = false
  rw [hflags]
  decide +kernel
set_option maxRecDepth 100000 in
set_option maxHeartbeats 4000000 in
theorem whole_start {p : Program} {e : Env} {s : State} {m : MethodId} {below : List Frame} {meth : Method} {c : Code} (l : Launch) (hflags : l.flags = flags0) {b L : Nat} {xs : Nat → Int32} (hL : L ≤ 2560) (C0 : lw_At p s m meth c b L xs) : W p l e room_1 s m #[Value.ref b] below meth c s.heap [] 0 0 (lw_Z below #[Value.ref b] s) (entryFrame m ([Value.ref b] : List Value).toArray 7) := by
  obtain ⟨hx, hb, hr, hml, hown0, hts0, hX, hbl, hlocks, hgv⟩ := C0
  have hown : s.vm.findClass RL = some m.cls := hown0
  have hts : ∀ w ∈ AW, w.before #[Value.ref b] s = true := fun w hw => hts0 w (aw_tbl w hw)
  have hl9 := l_traces hflags
  obtain ⟨X, hK⟩ := g_S hts0
  have hT := g_T hts0 hgv
  obtain ⟨t0, mi, hEL⟩ := g_L hts0 hgv
  have hN := g_N hgv
  have F : lFix p l s m c b L xs X t0 mi := ⟨hx, hb, hml, hown, hts, hX, hbl, hl9, hK, hT, hEL, hN, hL⟩
  have hl := lv_entry ([.ref b]) (n := 7) (Nat.le_of_ble_eq_true rfl)
  rw [lg_entry_eq]
  generalize (lg_sl ([.ref b]) ++ List.replicate (7 - (lg_sl ([.ref b])).length) Slot.unset).toArray = ls at hl ⊢
  have hl : lv_has ls 7 [(0, .ref b)] := hl
  have hS : va_S (e_A s.heap.size) s.heap s.heap [] := va_S.rf
  obtain ⟨ad, had11, hadn⟩ : ∃ ad : Nat → Nat, ad 11 = t0 ∧ ∀ n, n < 11 → ad n = s.heap.size + n := ⟨fun n => if n = 11 then t0 else s.heap.size + n, if_pos rfl, fun n hn => if_neg (by omega)⟩
  have hP : e_P X ad (fun _ => 0) (SP 0 0) (fun _ _ => 0) s.heap := fun n hn => absurd rfl hn
  have hI : e_I s.heap.size ad (fun _ => 0) := ⟨fun n m hn => absurd rfl hn, fun n hn => absurd rfl hn⟩
  refine e_new hx hb hts inX3 tyX3 tyX3_ok hown aw_733 aw_734 aw_162 hK hP hI (Nat.le_refl _) hS 0 18 rfl (hadn 0 (by decide)) (ci := 6) rfl rfl (fun j hj => by rcases (show j = 0 ∨ j = 1 ∨ j = 2 ∨ j = 3 ∨ j = 4 by omega) with rfl | rfl | rfl | rfl | rfl <;> (simp only [e_z_s, e_rr0]; rfl)) (by decide) (by decide) dL_law_0 (fun H hz1 hP hI hS => ?_)
  have hz : s.heap.size ≤ H.size := by omega
  refine lv_dup hx hb dL_law_3 rfl ?_
  refine e_cIS (As := []) (rest := [.ref (ad 0)]) hx hb hml hown hts hEL 0 (c_X3_init (l := l) (v := e_z (fun _ _ => 0) 0) (t0 := t0) (mi := mi) (a0 := H.size) rfl (fun n hn => kup_n hn rfl) had11 (fun j hj => by rw [hadn _ (by omega)]; omega) rfl rfl rfl rfl rfl rfl rfl rfl rfl) cwi_RL_60 (Nat.le_of_ble_eq_true rfl) (Nat.le_of_ble_eq_true rfl) hz rfl hP hI hK hS rfl hl.1 rfl (Nat.le_of_ble_eq_true rfl) ⟨by decide, by decide⟩ dL_law_4 (fun a1 H1 locs ha1 hz hP hI hS => ?_)
  have hP : e_P X a1 k1 (SP 0 0) vA H1 := hP
  have hI : e_I s.heap.size a1 k1 := hI
  refine lv_astore_n (lv' := [(1, .ref (ad 0)), (0, .ref b)]) hx hb dL_law_7 rfl hl (by decide) rfl (fun ls hl => ?_)
  obtain ⟨a2, h2l, h2h⟩ : ∃ a2 : Nat → Nat, (∀ q, q < 100 → a2 q = a1 q) ∧ ∀ q, 100 ≤ q → a2 q = if q = 120 then H1.size + 14 else H1.size + (q - 100) := ⟨fun q => if q < 100 then a1 q else if q = 120 then H1.size + 14 else H1.size + (q - 100), fun q hq => if_pos hq, fun q hq => if_neg (by omega)⟩
  obtain ⟨hP, hI⟩ := hP.ad1 hI h2l
  have e0 : ad 0 = a2 0 := by rw [h2l 0 (by decide), ha1 0 (by decide)]
  have e11 : a2 11 = t0 := by rw [h2l 11 (by decide), ha1 11 (by decide), had11]
  rw [e0] at hl
  clear ha1 had11 hadn h2l
  refine e_new hx hb hts inX4 tyX4 tyX4_ok hown aw_735 aw_736 aw_4 hK hP hI hz hS 100 19 (by decide +kernel) (by rw [h2h 100 (by decide), if_neg (by decide)]; rfl) (ci := 7) rfl rfl (fun j hj => by rcases (show j = 0 ∨ j = 1 ∨ j = 2 ∨ j = 3 ∨ j = 4 ∨ j = 5 ∨ j = 6 ∨ j = 7 ∨ j = 8 ∨ j = 9 ∨ j = 10 ∨ j = 11 ∨ j = 12 ∨ j = 13 ∨ j = 14 ∨ j = 15 ∨ j = 16 by omega) with rfl | rfl | rfl | rfl | rfl | rfl | rfl | rfl | rfl | rfl | rfl | rfl | rfl | rfl | rfl | rfl | rfl <;> (simp only [e_z_s, e_rr0]; rfl)) (by decide) (by decide) dL_law_8 (fun H hz1 hP hI hS => ?_)
  have hz2 : s.heap.size ≤ H.size := by omega
  refine lv_dup hx hb dL_law_11 rfl ?_
  refine e_cIA (As := []) (rest := [.ref (a2 100)]) hx hb hml hown hts hEL 100 (c_X4_init (l := l) (v := e_z vA 100) (t0 := t0) (mi := mi) (a0 := H.size) kup_s (fun j hj => (by decide +kernel : ∀ j, j < 13 → kup k1 100 19 (101 + j) = 0) j hj) (fun j hj => by rw [h2h _ (by omega), if_neg (by omega)]; omega)) cwi_RL_63 (Nat.le_of_ble_eq_true rfl) (Nat.le_of_ble_eq_true rfl) hz2 rfl hP hI hK hS rfl hl.1 rfl (Nat.le_of_ble_eq_true rfl) ⟨by decide, by decide⟩ dL_law_12 (fun H2 locs hz3 hsz hP hI hS => ?_)
  have hP : e_P X a2 k2 (SP 0 0) vB H2 := hP
  have hI : e_I s.heap.size a2 k2 := hI
  refine lv_astore_n (lv' := [(2, .ref (a2 100)), (1, .ref (a2 0)), (0, .ref b)]) hx hb dL_law_15 rfl hl (by decide) rfl (fun ls hl => ?_)
  refine lv_iconst (v := 1) hx hb dL_law_16 (by decide) ?_
  refine e_newl hx hb hts aw_737 hK hP hI hz3 hS 120 (by decide +kernel) (by rw [h2h 120 (by decide), if_pos rfl]; omega) (by decide) (by decide) dL_law_17 (fun H3 hz4 hP hI hS => ?_)
  rw [k2_KD] at hP hI
  refine lv_astore_n (lv' := [(3, .ref (a2 120)), (2, .ref (a2 100)), (1, .ref (a2 0)), (0, .ref b)]) hx hb dL_law_19 rfl hl (by decide) rfl (fun ls hl => ?_)
  refine lv_iconst (v := 0) hx hb dL_law_20 (by decide) ?_
  refine lv_istore (lv' := [(4, .int 0), (3, .ref (a2 120)), (2, .ref (a2 100)), (1, .ref (a2 0)), (0, .ref b)]) hx hb dL_law_21 hl (by decide) rfl (fun ls hl => ?_)
  refine W.widen (k := 40 + 60 * 0) (n := 2000 + 2000 * 0) (by decide) (by decide) ?_
  exact law_loop F hr hlocks (L + 1) 0 0 (by omega) rfl (Nat.zero_le _) 0 0 a2 (e_z vB 120) H3 locs ls ⟨by omega, hP, hI, hS, RR_start, e11⟩ (lv_sub hl [4, 3, 2, 1, 0] rfl)

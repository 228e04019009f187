/-! THE LAW'S BODY: rows for its calls, its script, its tail -/
def e_cwH (own : String) (idx : Nat) (y : MethodName) (b : ByteArray) (n : Nat) (hh : List (Nat × Nat × Nat × Nat)) (k : Nat) : Prop := Cond.methodLink own idx y ∈ AW ∧ Cond.static y ∈ AW ∧ Cond.initialized y.cls ∈ AW ∧ Cond.codeWith y b n (some .int) hh ∈ AW ∧ y.cls ≠ "java/lang/invoke/MethodHandle" ∧ y.cls ≠ "java/lang/invoke/VarHandle" ∧ (parseMethodDescriptor y.desc).map (fun d => d.parameters.length) = some k
theorem aw_inH {w0 : Cond} (h : w0 ∈ AW) : GoodIn AW (w0 :: AW) := fun w hw => (List.mem_cons.mp hw).elim (fun e => by subst e; exact ⟨h, aw_good h⟩) (fun hw => ⟨hw, aw_good hw⟩)
section LR
variable {p : Program} {l : Launch} {e : Env} {R : Room} {s : State} {m : MethodId} {args : Array Value} {below : List Frame} {meth : Method} {c : Code} {H : Heap} {locs : List Loc} {cells slots : Nat} {Q : State → Prop}
variable {cc : ByteArray} {pc nL : Nat} {ls : Array Slot} {rest st : List Value} {X : eD} {z0 t0 mi : Nat} {ad kd sp kd' sp' : Nat → Nat} {v v' : eV} {H0 : Heap}
theorem e_cSH {ov : Option Value} {mc' ms' : Nat} {hh : List (Nat × Nat × Nat × Nat)} (hx : p.tables.exec = Jvm.exec) (hb : c.code = cc) (hml : c.maxLocals = nL) {own : String} (hown : s.vm.findClass own = some m.cls) (hts : ∀ w ∈ AW, w.before args s = true) (hT : e_T z0 s) (hL : e_L z0 t0 mi s) (hN : e_N s) {y : MethodName} {b : ByteArray} {n idx k d : Nat} {As : List Value} (hM : eHp l y b n hh d mc' ms' As X z0 t0 mi ad kd sp v H.size ov kd' sp' v') (cw : e_cwH own idx y b n hh k) (hf : d + 1 ≤ R.frames) (hlo : 8 + (n + 11) + 60 * d ≤ R.locals) (hz : z0 ≤ H.size) (hP : e_P X ad kd sp v H) (hI : e_I z0 ad kd) (hK : e_S X s) (hS : va_S (e_A z0) s.heap H locs) (hn : As.length = k) (hsz : ls.size = nL) (hst : st = As.reverse ++ rest) (hW : (rest.map fun v => v.category).sum ≤ 8) (hfc : cells + mc' ≤ R.cells ∧ slots + ms' ≤ R.slots) (hdg : decode cc pc = .ok (.invokestatic idx, 3))
    (kk : ∀ (H1 : Heap) (locs1 : List Loc), H.size ≤ H1.size → e_P X ad kd' sp' v' H1 → e_I z0 ad kd' → va_S (e_A z0) s.heap H1 locs1 → W p l e R s m args below meth c H1 locs1 (cells + mc') (slots + ms') Q (F0 m (pc + 3) ls (ov.toList ++ rest))) : W p l e R s m args below meth c H locs cells slots Q (F0 m pc ls st) := by
  obtain ⟨a1, a2, a4, a5, a7, a8, a9⟩ := cw
  have hr := vx_runSX (g := F0 m pc ls st) (As := As) (rest := rest) (p := p) (l := l) (e := e) (R := R) (below := below) (meth := meth) (H := H) (locs := locs) (cells := cells) (slots := slots) ⟨hx, hb, hml, hown, hts⟩ hM ⟨⟨rfl, rfl, hf, hlo, pay_in hts (aw_inH a5), List.mem_cons_self⟩, hts _ a5, hts _ a4, ⟨a7, a8⟩, fun sig h => by rw [h] at a9; simpa using a9.symm, hts _ a1, hts _ a2⟩ ⟨fun a U g mk q => ⟨q.1, q.2.1.call g mk a, q.2.2.1.call g mk a, q.2.2.2.call g mk a⟩, fun U hU hW => ⟨rfl, ⟨⟨by rw [hU]; exact hz, by rw [hU]; exact hP, hI, hK.warm hW⟩, by rw [hU], hL.warm hW hU hS⟩, hT.warm hW hU hS, hN.warm hW⟩⟩ rfl hn hsz hst (lv_room hW) hdg hfc
  refine e_runH (Q := Q) (G := True) (P' := fun _ => False) (kd := kd) (sp := sp) (v := v) (kd' := kd') (sp' := sp') (v' := v') (ov := ov) (a := As.toArray) ?_ hS (fun H1 locs1 _ h1 h2 h3 h4 => kk H1 locs1 h1 h2 h3 h4) (fun _ _ _ _ _ h => h.elim)
  intro T hT' X0
  rcases hr T hT' X0 with h | ⟨q, st₀, t, T', L, E, ce, h0, X', hL, e1, e2, hX, h⟩
  · exact Or.inl h
  · exact hX.elim
end LR
def lFix (p : Program) (l : Launch) (s : State) (m : MethodId) (c : Code) (b L : Nat) (xs : Nat → Int32) (X : eD) (t0 mi : Nat) : Prop := p.tables.exec = Jvm.exec ∧ c.code = code ∧ c.maxLocals = 7 ∧ s.vm.findClass RL = some m.cls ∧ (∀ w ∈ AW, w.before #[Value.ref b] s = true) ∧ va_X b L xs s s.heap ∧ b < s.heap.size ∧ l.stackTraces = false ∧ e_S X s ∧ e_T s.heap.size s ∧ e_L s.heap.size t0 mi s ∧ e_N s ∧ L ≤ 2560
def lWld (s : State) (X : eD) (t0 : Nat) (ad : Nat → Nat) (dn ln : Nat) (v : eV) (H : Heap) (locs : List Loc) : Prop := s.heap.size ≤ H.size ∧ e_P X ad (KD dn ln) (SP dn ln) v H ∧ e_I s.heap.size ad (KD dn ln) ∧ va_S (e_A s.heap.size) s.heap H locs ∧ RR dn ln v v ∧ ad 11 = t0
abbrev lLoc (ad : Nat → Nat) (b i : Nat) : List (Nat × Value) := [(0, .ref b), (1, .ref (ad 0)), (2, .ref (ad 100)), (3, .ref (ad 120)), (4, .int (nI i))]
abbrev lW (p : Program) (l : Launch) (e : Env) (s : State) (m : MethodId) (below : List Frame) (meth : Method) (c : Code) (b : Nat) (H : Heap) (locs : List Loc) (k pc : Nat) (ls : Array Slot) (st : List Value) : Prop := W p l e room_1 s m #[Value.ref b] below meth c H locs (40 + 60 * k) (2000 + 2000 * k) (lw_Z below #[Value.ref b] s) (F0 m pc ls st)
abbrev lGo (p : Program) (l : Launch) (e : Env) (s : State) (m : MethodId) (below : List Frame) (meth : Method) (c : Code) (b : Nat) (X : eD) (t0 i k pc : Nat) : Prop := ∀ (dn ln : Nat) (ad : Nat → Nat) (v : eV) (H : Heap) (locs : List Loc) (ls : Array Slot), lWld s X t0 ad dn ln v H locs → lv_has ls 7 (lLoc ad b i) → lW p l e s m below meth c b H locs k pc ls []
section LB
variable {p : Program} {l : Launch} {e : Env} {s : State} {m : MethodId} {below : List Frame} {meth : Method} {c : Code} {b L : Nat} {xs : Nat → Int32} {X : eD} {t0 mi : Nat} {ad kd sp : Nat → Nat} {v : eV} {H : Heap} {locs : List Loc} {ls : Array Slot} {st : List Value} {i k : Nat}
/-- script[i + j] on the stack -/
theorem l_arg (F : lFix p l s m c b L xs X t0 mi) {pc j : Nat} (d0 : decode code pc = .ok (.aload_n 0, 1)) (d1 : decode code (pc + 1) = .ok (.iload 4, 2)) (d3 : decode code (pc + 3) = .ok (.iconst (j : Int), 1)) (d4 : decode code (pc + 4) = .ok (.iadd, 1)) (d5 : decode code (pc + 5) = .ok (.iaload, 1)) (hj : j < 5) (hi : i + 4 < L) {lv : List (Nat × Value)} (hl : lv_has ls 7 lv) (h0 : lv_has ls 7 [(0, .ref b), (4, .int (nI i))]) (hS : va_S (e_A s.heap.size) s.heap H locs)
    (kk : lW p l e s m below meth c b H locs k (pc + 6) ls (.int (xs (i + j)) :: st)) : lW p l e s m below meth c b H locs k pc ls st := by
  obtain ⟨hx, hb, hml, hown, hts, hX, hbl, hl9, hK, hT, hL, hN, hL0⟩ := F
  refine lv_aload_n hx hb d0 rfl (lv_at h0 0 rfl) ?_
  refine lv_iload hx hb d1 (lv_at h0 1 rfl) ?_
  refine lv_iconst (v := nI j) hx hb d3 (by rcases (show j = 0 ∨ j = 1 ∨ j = 2 ∨ j = 3 ∨ j = 4 by omega) with rfl | rfl | rfl | rfl | rfl <;> decide) ?_
  refine lv_iadd hx hb d4 ?_
  refine e_nrm (nI_add i j) ?_
  refine va_sld (A := e_A s.heap.size) (H0 := s.heap) hx hb hX hbl (Nat.not_le.mpr hbl) hS (vp_in_nI (show i + j < L by omega) (by omega)) d5 ?_
  refine e_nrm (y := xs (i + j)) (congrArg xs (nI_clamp (by omega))) ?_
  exact kk
/-- script[i + 3] != 0 on the stack -/
def sB (x : Int32) : Int32 := if x = 0 then 0 else 1
theorem l_argB (F : lFix p l s m c b L xs X t0 mi) {pc : Nat} (d0 : decode code pc = .ok (.aload_n 0, 1)) (d1 : decode code (pc + 1) = .ok (.iload 4, 2)) (d3 : decode code (pc + 3) = .ok (.iconst 3, 1)) (d4 : decode code (pc + 4) = .ok (.iadd, 1)) (d5 : decode code (pc + 5) = .ok (.iaload, 1)) (d6 : decode code (pc + 6) = .ok (.ifCond .eq 7, 3)) (d9 : decode code (pc + 9) = .ok (.iconst 1, 1)) (d10 : decode code (pc + 10) = .ok (.goto 4, 3)) (d13 : decode code (pc + 13) = .ok (.iconst 0, 1)) (hi : i + 4 < L) (h0 : lv_has ls 7 [(0, .ref b), (4, .int (nI i))]) (hS : va_S (e_A s.heap.size) s.heap H locs)
    (kk : lW p l e s m below meth c b H locs k (pc + 14) ls (.int (sB (xs (i + 3))) :: st)) : lW p l e s m below meth c b H locs k pc ls st := by
  refine l_arg (j := 3) F d0 d1 d3 d4 d5 (by decide) hi h0 h0 hS ?_
  obtain ⟨hx, hb, hml, hown, hts, hX, hbl, hl9, hK, hT, hL, hN, hL0⟩ := F
  refine lv_if_eq (tgt := pc + 13) hx hb d6 (by omega) (fun g => ?_) (fun g => ?_)
  · refine lv_iconst (v := 0) hx hb d13 (by decide) ?_
    rw [show sB (xs (i + 3)) = 0 from if_pos g] at kk
    exact kk
  · refine lv_iconst (v := 1) hx hb d9 (by decide) ?_
    refine lv_goto (tgt := pc + 14) hx hb d10 (by omega) ?_
    rw [show sB (xs (i + 3)) = 1 from if_neg g] at kk
    exact kk
theorem lg_cmp_self (x : Int64) : lg_cmp x x = 0 := by
  unfold lg_cmp
  simp
/-- behind both calls: the codes and the answers are the same -/
theorem l_tail (F : lFix p l s m c b L xs X t0 mi) {pc : Nat} {off : Int} (d0 : decode code pc = .ok (.aload_n 2, 1)) (d1 : decode code (pc + 1) = .ok (.invokevirtual 70, 3)) (d4 : decode code (pc + 4) = .ok (.iload 5, 2)) (d6 : decode code (pc + 6) = .ok (.if_icmp .eq 5, 3)) (d11 : decode code (pc + 11) = .ok (.iload 5, 2)) (d13 : decode code (pc + 13) = .ok (.ifCond .ne 15, 3)) (d16 : decode code (pc + 16) = .ok (.aload_n 3, 1)) (d17 : decode code (pc + 17) = .ok (.iconst 0, 1)) (d18 : decode code (pc + 18) = .ok (.laload, 1)) (d19 : decode code (pc + 19) = .ok (.iload 6, 2)) (d21 : decode code (pc + 21) = .ok (.i2l, 1)) (d22 : decode code (pc + 22) = .ok (.lcmp, 1)) (d23 : decode code (pc + 23) = .ok (.ifCond .eq 5, 3)) (d28 : decode code (pc + 28) = .ok (.goto off, 3)) (ho : ((pc + 28 : Nat) : Int) + off = ((1102 : Nat) : Int)) (hk : k < 600)
    (cw : e_cwV RL 70 RX4 yX4_thrown cX4_thrown 1 (some .int) 0) (hz : s.heap.size ≤ H.size) (hP : e_P X ad kd sp v H) (hI : e_I s.heap.size ad kd) (hm : mK kd) (h120 : kd 120 = 17) {q a : Int32} (h1 : v 100 16 = q) (h2 : q = 0 → v 120 0 = a) (hl : lv_has ls 7 [(6, .int a), (5, .int q), (2, .ref (ad 100)), (3, .ref (ad 120))])
    (kk : lW p l e s m below meth c b H locs k 1102 ls []) : lW p l e s m below meth c b H locs k pc ls [] := by
  obtain ⟨hx, hb, hml, hown, hts, hX, hbl, hl9, hK, hT, hL, hN, hL0⟩ := F
  refine lv_aload_n hx hb d0 rfl (lv_at hl 2 rfl) ?_
  refine e_cV (As := []) (rest := []) hx hb hml hown hts 100 (c_X4_thrown (l := l) (v := v) hm) cw (Nat.le_of_ble_eq_true rfl) (Nat.le_of_ble_eq_true rfl) hz hP hI hK (hm 100 (by decide) (by decide)) (by decide) rfl rfl rfl hl.1 rfl (Nat.le_of_ble_eq_true rfl) ⟨by show 40 + 60 * k + 0 ≤ 603072; omega, by show 2000 + 2000 * k + 0 ≤ 7219306; omega⟩ d1 ?_
  refine lv_iload hx hb d4 (lv_at hl 1 rfl) ?_
  refine lv_icmp_eq (tgt := pc + 11) hx hb d6 (by omega) (fun _ => ?_) (fun g => absurd h1 g)
  refine lv_iload hx hb d11 (lv_at hl 1 rfl) ?_
  refine lv_if_ne (tgt := pc + 28) hx hb d13 (by omega) (fun _ => ?_) (fun g => ?_)
  · exact lv_goto (tgt := 1102) hx hb d28 ho kk
  · refine lv_aload_n hx hb d16 rfl (lv_at hl 3 rfl) ?_
    refine lv_iconst (v := 0) hx hb d17 (by decide) ?_
    refine e_lald hx hb hK hP 120 h120 d18 ?_
    refine lv_iload hx hb d19 (lv_at hl 0 rfl) ?_
    refine lv_i2l hx hb d21 rfl ?_
    refine W.lcmp hx hb d22 ?_
    refine e_nrm (y := 0) (by rw [h2 g]; exact lg_cmp_self _) ?_
    refine lv_if_eq (tgt := pc + 28) hx hb d23 (by omega) (fun _ => ?_) (fun g => absurd rfl g)
    exact lv_goto (tgt := 1102) hx hb d28 ho kk
end LB

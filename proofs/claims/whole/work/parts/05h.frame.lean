/-! THE LAW'S HELPERS: a call of the class's, what it throws caught and told by a number -/
def e_ncs : List (String × String) := [(xIS, xIO), (xIA, xIO), (xIS, xIA), (xAR, xIO)]
def e_N (U : State) : Prop := ∀ q ∈ e_ncs, va_Nc q.1 q.2 U
theorem e_N.warm {s U : State} (h : e_N s) (hW : s.WarmedH U.vm) : e_N U := fun q hq => va_Nc.moved hW.alike (h q hq)
theorem e_N.call {U : State} (h : e_N U) (g : JFrame) (mk : MethodId) (a : Array Value) : e_N (U.calling g mk a) := fun q hq => va_Nc.moved (u := U) (U := U.calling g mk a) (Vm.Alike.refl U.vm) (h q hq)
def eWh (X : eD) (z0 t0 mi : Nat) (ad kd sp : Nat → Nat) (v : eV) (a0 : Nat) (U : State) : Prop := eWa X z0 t0 mi ad kd sp v a0 U ∧ e_T z0 U ∧ e_N U
abbrev eHp (l : Launch) (y : MethodName) (b : ByteArray) (n : Nat) (hh : List (Nat × Nat × Nat × Nat)) (d mc ms : Nat) (av : List Value) (X : eD) (z0 t0 mi : Nat) (ad kd sp : Nat → Nat) (v : eV) (a0 : Nat) (ov : Option Value) (kd' sp' : Nat → Nat) (v' : eV) : Prop := vx_Met l y (.codeWith y b n (some .int) hh :: AW) (e_rm d mc ms) (va_Pc av (eWh X z0 t0 mi ad kd sp v a0)) (eNA X z0 ad kd' sp' ov v' True) (fun _ _ _ => False) mc ms (e_A z0)
theorem e_hlp {l : Launch} {y : MethodName} {cc : ByteArray} {n d mc ms : Nat} {hh : List (Nat × Nat × Nat × Nat)} {av : List Value} {X : eD} {z0 t0 mi : Nat} {ad kd sp kd' sp' : Nat → Nat} {v v' : eV} {a0 : Nat} {val : Int32} (hy : plainName y.cls = true) (hav : (lg_sl av).length ≤ n)
    (body : ∀ (p : Program) (e : Env) (s : State) (m : MethodId) (args : Array Value) (below : List Frame) (meth : Method) (c : Code), p.tables.exec = Jvm.exec → c.code = cc → c.maxLocals = n → s.vm.findClass y.cls = some m.cls → (∀ w ∈ AW, w.before args s = true) → eWh X z0 t0 mi ad kd sp v a0 s → c.exceptionTable.toList = tableOf hh → ∀ Q : State → Prop, (∀ (H : Heap) (locs : List Loc) (pc : Nat) (ls : Array Slot) (k9 s9 : Nat → Nat) (w : eV) (r : Int32) (k u : Nat), k9 = kd' → s9 = sp' → w = v' → r = val → k ≤ mc → u ≤ ms → e_P X ad k9 s9 w H → e_I z0 ad k9 → va_S (e_A z0) s.heap H locs → decode cc pc = .ok (.ireturn, 1) → W p l e (e_rm d mc ms) s m args below meth c H locs k u Q (F0 m pc ls [.int r])) → ∀ ls : Array Slot, lv_has ls n (lv_args 0 av) → W p l e (e_rm d mc ms) s m args below meth c s.heap [] 0 0 Q (F0 m 0 ls [])) : eHp l y cc n hh d mc ms av X z0 t0 mi ad kd sp v a0 (some (.int val)) kd' sp' v' := by
  refine vx_ofWH (cc := cc) (maxL := n) (ret := some .int) (hh := hh) hy rfl ?_
  intro p e s m args below meth c s₁ Bd hml hv
  obtain ⟨rfl, hB⟩ := hv
  have hts := atoms_spec (ws := .codeWith y cc n (some .int) hh :: AW) Bd.pre
  have hlocks := Bd.notSynchronized
  have htab := vx_table (x := y) Bd (hts _ List.mem_cons_self)
  rw [lg_entry_eq]
  exact body p e s m _ below meth c Bd.exec Bd.bytes hml (findClass_of_methodNamed Bd.named) (fun w hw => hts w (List.mem_cons_of_mem _ hw)) hB htab _ (fun H locs pc ls k9 s9 w r k u e1 e2 hw hr h1 h2 hP hI hS hd => by subst e1; subst e2; subst hr; subst hw; exact W.widen h1 h2 (vx_ret (W.iret Bd.exec Bd.bytes Bd.returns (fun t ht _ => ⟨rfl, trivial, by rw [ht]; exact hP, hI, hS.F ht⟩) hS.2.2 hd hlocks))) _ (lv_entry av hav)
section EI
variable {p : Program} {l : Launch} {e : Env} {R : Room} {s : State} {m : MethodId} {args : Array Value} {below : List Frame} {meth : Method} {c : Code} {H : Heap} {locs : List Loc} {cells slots : Nat} {Q : State → Prop}
variable {cc : ByteArray} {pc nL : Nat} {ls : Array Slot} {rest st : List Value} {X : eD} {z0 t0 mi : Nat} {ad kd sp kd' sp' : Nat → Nat} {v v' : eV} {H0 : Heap} {P' : String → Prop} {G : Prop}
theorem e_last (hexec : p.tables.exec = Jvm.exec) (hb : c.code = cc) (hK : e_S X s) (hP : e_P X ad kd sp v H) (hI : e_I z0 ad kd) (hS : va_S (e_A z0) H0 H locs) (n : Nat) (hk : kd n = 17) {x : Int32} (hdg : decode cc pc = .ok (.lastore, 1))
    (kk : ∀ (H1 : Heap) (locs1 : List Loc), H1.size = H.size → e_P X ad kd sp (e_set v n 0 x) H1 → va_S (e_A z0) H0 H1 locs1 → W p l e R s m args below meth c H1 locs1 cells slots Q (F0 m (pc + 1) ls rest)) : W p l e R s m args below meth c H locs cells slots Q (F0 m pc ls (.long x.toInt64 :: .int 0 :: .ref (ad n) :: rest)) := by
  have hn0 : kd n ≠ 0 := by rw [hk]; decide
  have hat : H[ad n]? = some (vp_cell (X.2 3) (1, .inr (.inl (fun _ => (v n 0).toInt64)))) := by have h := hP n hn0; rw [hk] at h; exact h
  refine W.last hexec hb hat ((hK.1.2 3 _ rfl).1 1 (fun _ => .long (v n 0).toInt64)) (fun q => by cases q) (by show ¬ (_ ∨ (arrV _ _ _).slots.size ≤ _); rw [arrV_size]; show ¬ ((0 : Int32) < 0 ∨ 1 ≤ (0 : Int32).toNatClampNeg); decide) rfl rfl hdg fun H1 e1 z oq => ?_
  refine kk H1 _ z (hP.put hI hn0 ?_ oq) (hS.put z oq (hI.2 n hn0))
  rw [hk]
  show H1[ad n]? = some (vp_cell (X.2 3) (1, .inr (.inl (fun _ => (e_set v n 0 x n 0).toInt64))))
  rw [e1, vp_cell_l, vp_cell_l, arrV_store]
  unfold arrV
  congr 2
  refine congrArg Array.ofFn (funext fun j => ?_)
  have hj : j.1 = 0 := by omega
  have h0 : (0 : Int32).toNatClampNeg = 0 := by decide
  rw [h0]
  show updV _ 0 _ j.1 = _
  rw [hj]
  simp [updV, e_set, upd]
theorem e_lald (hexec : p.tables.exec = Jvm.exec) (hb : c.code = cc) (hK : e_S X s) (hP : e_P X ad kd sp v H) (n : Nat) (hk : kd n = 17) (hdg : decode cc pc = .ok (.laload, 1))
    (kk : W p l e R s m args below meth c H locs cells slots Q (F0 m (pc + 1) ls (.long (v n 0).toInt64 :: rest))) : W p l e R s m args below meth c H locs cells slots Q (F0 m pc ls (.int 0 :: .ref (ad n) :: rest)) :=
  va_lald (D := X.1) (cl := vwCl) (tys := e_tys X) (ws := [(ad n, e_sh X ad sp v 17 n)]) (n := 1) (f := fun _ => (v n 0).toInt64) hexec hb hK.1 (e_one hP hk (by decide)) 0 3 rfl rfl (vp_in_nI (n := 0) (by decide) (by decide)) hdg kk
theorem e_runH {ov : Option Value} {a : Array Value} {st0 : List Value} {mc' ms' : Nat} (hr : vx_Run p l e R s m args below meth c H locs cells slots mc' ms' (F0 m pc ls st0) rest (eNA X z0 ad kd' sp' ov v' G a) (eX X z0 ad kd sp v P') (e_A z0)) (hS : va_S (e_A z0) H0 H locs)
    (kk : ∀ (H1 : Heap) (locs1 : List Loc), G → H.size ≤ H1.size → e_P X ad kd' sp' v' H1 → e_I z0 ad kd' → va_S (e_A z0) H0 H1 locs1 → W p l e R s m args below meth c H1 locs1 (cells + mc') (slots + ms') Q (F0 m (pc + 3) ls (ov.toList ++ rest)))
    (kx : ∀ (H1 : Heap) (locs1 : List Loc) (E : String) (ce : Cell) (q : Nat), P' E → H.size ≤ H1.size → e_P X ad kd sp v H1 → va_S (e_A z0) H0 H1 locs1 → H1[q]? = some ce → ce.vm = .none → s.vm.findClass E = some ce.cls → vx_W p l e R s m args below meth c H1 locs1 (cells + mc') (slots + ms') Q (F0 m pc ls rest) q) : W p l e R s m args below meth c H locs cells slots Q (F0 m pc ls st0) := by
  intro T hT X0
  rcases hr T hT X0 with ⟨v, st₀, t, T', L, h0, X', hL, e1, -, ⟨hv, hG, hh, hI, hF⟩, st⟩ | ⟨q, st₀, t, T', L, E, ce, h0, X', hL, e1, -, ⟨hPE, hh, hF⟩, hce, hcv, hcl, st⟩
  · cases hv
    obtain ⟨hz1, hk⟩ := hF
    rw [h0] at hz1 hk
    obtain ⟨t2, a1, b1⟩ := kk T'.heap (locs ++ L) hG (by rw [e1]; exact hz1) (by rw [e1]; exact hh) hI ⟨Nat.le_trans hS.1 (by rw [e1]; exact hz1), fun q h1 h2 => by rw [e1, hk q (Nat.lt_of_lt_of_le h1 hS.1) h2]; exact hS.2.1 q h1 h2, fun q hq => (List.mem_append.mp hq).elim (hS.2.2 q) (hL q)⟩ T' rfl X'
    exact ⟨t2, st t2 a1, b1⟩
  · obtain ⟨hz1, hk⟩ := hF
    rw [h0] at hz1 hk
    obtain ⟨t2, a1, b1⟩ := kx T'.heap (locs ++ L) E ce q hPE (by rw [e1]; exact hz1) (by rw [e1]; exact hh) ⟨Nat.le_trans hS.1 (by rw [e1]; exact hz1), fun q h1 h2 => by rw [e1, hk q (Nat.lt_of_lt_of_le h1 hS.1) h2]; exact hS.2.1 q h1 h2, fun q hq => (List.mem_append.mp hq).elim (hS.2.2 q) (hL q)⟩ (by rw [e1]; exact hce) hcv hcl T' rfl X'
    exact ⟨t2, st.trans a1, b1⟩
/-- one of the class's calls that make nothing, inside a helper -/
theorem e_cVH {ov : Option Value} {mc' ms' : Nat} (hx : p.tables.exec = Jvm.exec) (hb : c.code = cc) (hml : c.maxLocals = nL) {own : String} (hown : s.vm.findClass own = some m.cls) (hts : ∀ w ∈ AW, w.before args s = true) (hT : e_T z0 s) {y : MethodName} {b : ByteArray} {n idx k d : Nat} {r : Option FieldType} {C : String} {As : List Value} (nm : Nat) (hM : eTh l y b n r d mc' ms' (.ref (ad nm) :: As) X z0 ad kd sp v ov v' G P') (cw : e_cwV own idx C y b n r k) (hf : d + 1 ≤ R.frames) (hlo : 8 + (n + 11) + 60 * d ≤ R.locals) (hz : z0 ≤ H.size) (hP : e_P X ad kd sp v H) (hI : e_I z0 ad kd) (hK : e_S X s) (hS : va_S (e_A z0) s.heap H locs) {K : Nat} (hk : kd nm = K) (h0 : K ≠ 0) {ci : Nat} {fs : List Value} (he : e_sh X ad sp v K nm = .inr (ci, fs)) {T : u_T} {N : Nat} (hc : vwCl[ci]? = some (C, T, N)) (hn : As.length = k) (hsz : ls.size = nL) (hst : st = As.reverse ++ .ref (ad nm) :: rest) (hW : (rest.map fun v => v.category).sum ≤ 8) (hfc : cells + mc' ≤ R.cells ∧ slots + ms' ≤ R.slots) (hdg : decode cc pc = .ok (.invokevirtual idx, 3))
    (kk : ∀ (H1 : Heap) (locs1 : List Loc), G → H.size ≤ H1.size → e_P X ad kd sp v' H1 → e_I z0 ad kd → va_S (e_A z0) s.heap H1 locs1 → W p l e R s m args below meth c H1 locs1 (cells + mc') (slots + ms') Q (F0 m (pc + 3) ls (ov.toList ++ rest)))
    (kx : ∀ (H1 : Heap) (locs1 : List Loc) (E : String) (ce : Cell) (q : Nat), P' E → H.size ≤ H1.size → e_P X ad kd sp v H1 → va_S (e_A z0) s.heap H1 locs1 → H1[q]? = some ce → ce.vm = .none → s.vm.findClass E = some ce.cls → vx_W p l e R s m args below meth c H1 locs1 (cells + mc') (slots + ms') Q (F0 m pc ls rest) q) : W p l e R s m args below meth c H locs cells slots Q (F0 m pc ls st) := by
  have hr := vx_runV (g := F0 m pc ls st) (As := As) (rest := rest) (p := p) (l := l) (e := e) (R := R) (below := below) (meth := meth) (H := H) (locs := locs) (cells := cells) (slots := slots) ⟨hx, hb, hml, hown, hts⟩ hM (cw.use hts rfl rfl hf hlo) ⟨fun a U g mk q => ⟨q.1, q.2.1.call g mk a, q.2.2.call g mk a⟩, e_recv hK hP hk h0 he hc, fun U hU hW => ⟨rfl, ⟨by rw [hU]; exact hz, by rw [hU]; exact hP, hI, hK.warm hW⟩, hT.warm hW hU hS⟩⟩ rfl hn hsz hst (lv_room hW) hdg hfc
  refine e_runH (Q := Q) (G := G) (kd' := kd) (sp' := sp) (v' := v') (ov := ov) (a := (Value.ref (ad nm) :: As).toArray) ?_ hS kk kx
  intro T hT' X0
  rcases hr T hT' X0 with ⟨v, st₀, t, T', L, h0, X', hL, e1, e2, ⟨hv, hG, hh, hF⟩, st⟩ | h
  · exact Or.inl ⟨v, st₀, t, T', L, h0, X', hL, e1, e2, ⟨hv, hG, hh, hI, hF⟩, st⟩
  · exact Or.inr h
theorem e_cVHA {ov : Option Value} {mc' ms' a0 : Nat} (hx : p.tables.exec = Jvm.exec) (hb : c.code = cc) (hml : c.maxLocals = nL) {own : String} (hown : s.vm.findClass own = some m.cls) (hts : ∀ w ∈ AW, w.before args s = true) (hT : e_T z0 s) (hL : e_L z0 t0 mi s) {y : MethodName} {b : ByteArray} {n idx k d : Nat} {r : Option FieldType} {C : String} {As : List Value} (nm : Nat) (hM : eTA l y b n r d mc' ms' (.ref (ad nm) :: As) X z0 t0 mi ad kd sp v a0 ov kd' sp' v' G P') (cw : e_cwV own idx C y b n r k) (hf : d + 1 ≤ R.frames) (hlo : 8 + (n + 11) + 60 * d ≤ R.locals) (hz : z0 ≤ H.size) (ha : H.size = a0) (hP : e_P X ad kd sp v H) (hI : e_I z0 ad kd) (hK : e_S X s) (hS : va_S (e_A z0) s.heap H locs) {K : Nat} (hk : kd nm = K) (h0 : K ≠ 0) {ci : Nat} {fs : List Value} (he : e_sh X ad sp v K nm = .inr (ci, fs)) {T : u_T} {N : Nat} (hc : vwCl[ci]? = some (C, T, N)) (hn : As.length = k) (hsz : ls.size = nL) (hst : st = As.reverse ++ .ref (ad nm) :: rest) (hW : (rest.map fun v => v.category).sum ≤ 8) (hfc : cells + mc' ≤ R.cells ∧ slots + ms' ≤ R.slots) (hdg : decode cc pc = .ok (.invokevirtual idx, 3))
    (kk : ∀ (H1 : Heap) (locs1 : List Loc), G → H.size ≤ H1.size → e_P X ad kd' sp' v' H1 → e_I z0 ad kd' → va_S (e_A z0) s.heap H1 locs1 → W p l e R s m args below meth c H1 locs1 (cells + mc') (slots + ms') Q (F0 m (pc + 3) ls (ov.toList ++ rest)))
    (kx : ∀ (H1 : Heap) (locs1 : List Loc) (E : String) (ce : Cell) (q : Nat), P' E → H.size ≤ H1.size → e_P X ad kd sp v H1 → va_S (e_A z0) s.heap H1 locs1 → H1[q]? = some ce → ce.vm = .none → s.vm.findClass E = some ce.cls → vx_W p l e R s m args below meth c H1 locs1 (cells + mc') (slots + ms') Q (F0 m pc ls rest) q) : W p l e R s m args below meth c H locs cells slots Q (F0 m pc ls st) :=
  e_runH (vx_runV (As := As) (rest := rest) ⟨hx, hb, hml, hown, hts⟩ hM (cw.use hts rfl rfl hf hlo) ⟨fun a U g mk q => ⟨q.1, q.2.1.call g mk a, q.2.2.call g mk a⟩, e_recv hK hP hk h0 he hc, fun U hU hW => ⟨rfl, ⟨⟨by rw [hU]; exact hz, by rw [hU]; exact hP, hI, hK.warm hW⟩, by rw [hU]; exact ha, hL.warm hW hU hS⟩, hT.warm hW hU hS⟩⟩ rfl hn hsz hst (lv_room hW) hdg hfc) hS kk kx
end EI

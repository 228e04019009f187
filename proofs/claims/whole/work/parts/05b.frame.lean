/-! METHODS THAT WRITE, and make no cell: the numbers behind them are v' -/
def eM (X : eD) (z0 : Nat) (ad kd sp : Nat → Nat) (ov : Option Value) (v' : eV) : Array Value → State → Outcome → State → Prop := fun _ st o t => o = .returned ov ∧ e_P X ad kd sp v' t.heap ∧ va_F (e_A z0) st t
abbrev eMu (l : Launch) (y : MethodName) (b : ByteArray) (n : Nat) (r : Option FieldType) (d : Nat) (av : List Value) (X : eD) (z0 : Nat) (ad kd sp : Nat → Nat) (v : eV) (ov : Option Value) (v' : eV) : Prop := Met l y (.code y b n r :: AW) (e_rm d 0 0) (va_Pc av (e_W X z0 ad kd sp v)) (eM X z0 ad kd sp ov v') 0 0 (e_A z0)
theorem e_mutI {l : Launch} {y : MethodName} {cc : ByteArray} {n d : Nat} {ty : FieldType} {av : List Value} {X : eD} {z0 : Nat} {ad kd sp : Nat → Nat} {v v' : eV} {val : Int32} (hy : plainName y.cls = true) (hav : (lg_sl av).length ≤ n) (hn : narrow ty (.int val) = .int val)
    (body : ∀ (p : Program) (e : Env) (s : State) (m : MethodId) (args : Array Value) (below : List Frame) (meth : Method) (c : Code), p.tables.exec = Jvm.exec → c.code = cc → c.maxLocals = n → s.vm.findClass y.cls = some m.cls → (∀ w ∈ AW, w.before args s = true) → e_W X z0 ad kd sp v s → ∀ Q : State → Prop, (∀ (H : Heap) (locs : List Loc) (pc : Nat) (ls : Array Slot) (w : eV) (r : Int32), r = val → w = v' → e_P X ad kd sp w H → va_S (e_A z0) s.heap H locs → decode cc pc = .ok (.ireturn, 1) → W p l e (e_rm d 0 0) s m args below meth c H locs 0 0 Q (F0 m pc ls [.int r])) → ∀ ls : Array Slot, lv_has ls n (lv_args 0 av) → W p l e (e_rm d 0 0) s m args below meth c s.heap [] 0 0 Q (F0 m 0 ls [])) : eMu l y cc n (some ty) d av X z0 ad kd sp v (some (.int val)) v' := by
  refine Met.ofW (cc := cc) (maxL := n) (ret := some ty) hy rfl ?_
  intro p e s m args below meth c s₁ Bd hml hv
  obtain ⟨rfl, hB⟩ := hv
  have hts := atoms_spec (ws := .code y cc n (some ty) :: AW) Bd.pre
  have hlocks := Bd.notSynchronized
  rw [lg_entry_eq]
  exact body p e s m _ below meth c Bd.exec Bd.bytes hml (findClass_of_methodNamed Bd.named) (fun w hw => hts w (List.mem_cons_of_mem _ hw)) hB _ (fun H locs pc ls w r hr hw hP hS hd => by subst hr; subst hw; exact W.zret Bd.exec Bd.bytes Bd.returns hn (fun t ht _ => ⟨rfl, by rw [ht]; exact hP, hS.F ht⟩) hS.2.2 hd hlocks) _ (lv_entry av hav)
theorem e_mutV {l : Launch} {y : MethodName} {cc : ByteArray} {n d : Nat} {av : List Value} {X : eD} {z0 : Nat} {ad kd sp : Nat → Nat} {v v' : eV} (hy : plainName y.cls = true) (hav : (lg_sl av).length ≤ n)
    (body : ∀ (p : Program) (e : Env) (s : State) (m : MethodId) (args : Array Value) (below : List Frame) (meth : Method) (c : Code), p.tables.exec = Jvm.exec → c.code = cc → c.maxLocals = n → s.vm.findClass y.cls = some m.cls → (∀ w ∈ AW, w.before args s = true) → e_W X z0 ad kd sp v s → ∀ Q : State → Prop, (∀ (H : Heap) (locs : List Loc) (pc : Nat) (ls : Array Slot) (w : eV), w = v' → e_P X ad kd sp w H → va_S (e_A z0) s.heap H locs → decode cc pc = .ok (.return_, 1) → W p l e (e_rm d 0 0) s m args below meth c H locs 0 0 Q (F0 m pc ls [])) → ∀ ls : Array Slot, lv_has ls n (lv_args 0 av) → W p l e (e_rm d 0 0) s m args below meth c s.heap [] 0 0 Q (F0 m 0 ls [])) : eMu l y cc n none d av X z0 ad kd sp v none v' := by
  refine Met.ofW (cc := cc) (maxL := n) (ret := none) hy rfl ?_
  intro p e s m args below meth c s₁ Bd hml hv
  obtain ⟨rfl, hB⟩ := hv
  have hts := atoms_spec (ws := .code y cc n none :: AW) Bd.pre
  have hlocks := Bd.notSynchronized
  rw [lg_entry_eq]
  exact body p e s m _ below meth c Bd.exec Bd.bytes hml (findClass_of_methodNamed Bd.named) (fun w hw => hts w (List.mem_cons_of_mem _ hw)) hB _ (fun H locs pc ls w hw hP hS hd => by subst hw; exact W.vret Bd.exec Bd.bytes Bd.returns (fun t ht _ => ⟨rfl, by rw [ht]; exact hP, hS.F ht⟩) hS.2.2 hd hlocks) _ (lv_entry av hav)
section EM
variable {p : Program} {l : Launch} {e : Env} {R : Room} {s : State} {m : MethodId} {args : Array Value} {below : List Frame} {meth : Method} {c : Code} {H : Heap} {locs : List Loc} {cells slots : Nat} {Q : State → Prop}
variable {cc : ByteArray} {pc nL : Nat} {ls : Array Slot} {rest st : List Value} {X : eD} {z0 : Nat} {ad kd sp : Nat → Nat} {v v' : eV} {H0 : Heap}
theorem e_runM {ov : Option Value} {a : Array Value} {st0 : List Value} (hr : va_Run p l e R s m args below meth c H locs cells slots 0 0 (F0 m pc ls st0) rest (eM X z0 ad kd sp ov v' a) (e_A z0)) (hz : z0 ≤ H.size) (hS : va_S (e_A z0) H0 H locs)
    (kk : ∀ (H1 : Heap) (locs1 : List Loc), z0 ≤ H1.size → e_P X ad kd sp v' H1 → va_S (e_A z0) H0 H1 locs1 → W p l e R s m args below meth c H1 locs1 cells slots Q (F0 m (pc + 3) ls (ov.toList ++ rest))) : W p l e R s m args below meth c H locs cells slots Q (F0 m pc ls st0) := by
  intro T hT X
  obtain ⟨v, st₀, t, T', L, h0, X', hL, e1, -, ⟨hv, hh, hF⟩, st⟩ := hr T hT X
  cases hv
  obtain ⟨hz1, hk⟩ := hF
  rw [h0] at hz1 hk
  obtain ⟨t2, a1, b1⟩ := kk T'.heap (locs ++ L) (by rw [e1]; exact Nat.le_trans hz hz1) (by rw [e1]; exact hh) ⟨Nat.le_trans hS.1 (by rw [e1]; exact hz1), fun q h1 h2 => by rw [e1, hk q (Nat.lt_of_lt_of_le h1 hS.1) h2]; exact hS.2.1 q h1 h2, fun q hq => (List.mem_append.mp hq).elim (hS.2.2 q) (hL q)⟩ T' rfl X'
  exact ⟨t2, st t2 a1, b1⟩
theorem e_cVM (hx : p.tables.exec = Jvm.exec) (hb : c.code = cc) (hml : c.maxLocals = nL) {own : String} (hown : s.vm.findClass own = some m.cls) (hts : ∀ w ∈ AW, w.before args s = true) {y : MethodName} {b : ByteArray} {n idx k d : Nat} {r : Option FieldType} {C : String} {As : List Value} {ov : Option Value} (nm : Nat) (hM : eMu l y b n r d (.ref (ad nm) :: As) X z0 ad kd sp v ov v') (cw : e_cwV own idx C y b n r k) (hf : d + 1 ≤ R.frames) (hlo : 8 + (n + 11) + 60 * d ≤ R.locals) (hz : z0 ≤ H.size) (hP : e_P X ad kd sp v H) (hI : e_I z0 ad kd) (hK : e_S X s) (hS : va_S (e_A z0) H0 H locs) {K : Nat} (hk : kd nm = K) (h0 : K ≠ 0) {ci : Nat} {fs : List Value} (he : e_sh X ad sp v K nm = .inr (ci, fs)) {T : u_T} {N : Nat} (hc : vwCl[ci]? = some (C, T, N)) (hn : As.length = k) (hsz : ls.size = nL) (hst : st = As.reverse ++ .ref (ad nm) :: rest) (hW : (rest.map fun v => v.category).sum ≤ 8) (hfc : cells + 0 ≤ R.cells ∧ slots + 0 ≤ R.slots) (hdg : decode cc pc = .ok (.invokevirtual idx, 3))
    (kk : ∀ (H1 : Heap) (locs1 : List Loc), z0 ≤ H1.size → e_P X ad kd sp v' H1 → va_S (e_A z0) H0 H1 locs1 → W p l e R s m args below meth c H1 locs1 cells slots Q (F0 m (pc + 3) ls (ov.toList ++ rest))) : W p l e R s m args below meth c H locs cells slots Q (F0 m pc ls st) :=
  e_runM (va_runV (As := As) (rest := rest) ⟨hx, hb, hml, hown, hts⟩ hM (cw.use hts rfl rfl hf hlo) ⟨fun a U g mk q => ⟨q.1, q.2.call g mk a⟩, e_recv hK hP hk h0 he hc, fun U hU hW => ⟨rfl, by rw [hU]; exact hz, by rw [hU]; exact hP, hI, hK.warm hW⟩⟩ rfl hn hsz hst (lv_room hW) hdg hfc) hz hS kk
end EM

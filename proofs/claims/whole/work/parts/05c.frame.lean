theorem e_dec {i : Nat} (h : 1 ≤ i) : nI i + Int32.ofInt (-1) = nI (i - 1) := by
  rw [← pk_sub (a := i) (b := 1) h, Int32.sub_eq_add_neg]
  rfl
theorem e_pureL {l : Launch} {y : MethodName} {cc : ByteArray} {n d : Nat} {av : List Value} {B : State → Prop} {val : Int64} (hy : plainName y.cls = true) (hav : (lg_sl av).length ≤ n)
    (body : ∀ (p : Program) (e : Env) (s : State) (m : MethodId) (args : Array Value) (below : List Frame) (meth : Method) (c : Code), p.tables.exec = Jvm.exec → c.code = cc → c.maxLocals = n → s.vm.findClass y.cls = some m.cls → (∀ w ∈ AW, w.before args s = true) → B s → ∀ Q : State → Prop, (∀ (pc : Nat) (ls : Array Slot), decode cc pc = .ok (.lreturn, 1) → W p l e (e_rm d 0 0) s m args below meth c s.heap [] 0 0 Q (F0 m pc ls [.long val])) → ∀ ls : Array Slot, lv_has ls n (lv_args 0 av) → W p l e (e_rm d 0 0) s m args below meth c s.heap [] 0 0 Q (F0 m 0 ls [])) : ePu l y cc n (some .long) d av B (some (.long val)) := by
  refine Met.ofW (cc := cc) (maxL := n) (ret := some .long) hy rfl ?_
  intro p e s m args below meth c s₁ Bd hml hv
  obtain ⟨rfl, hB⟩ := hv
  have hts := atoms_spec (ws := .code y cc n (some .long) :: AW) Bd.pre
  have hlocks := Bd.notSynchronized
  rw [lg_entry_eq]
  exact body p e s m _ below meth c Bd.exec Bd.bytes hml (findClass_of_methodNamed Bd.named) (fun w hw => hts w (List.mem_cons_of_mem _ hw)) hB _ (fun pc ls hd => W.lret Bd.exec Bd.bytes Bd.returns (fun t ht _ => ⟨rfl, ht⟩) (fun _ h => by cases h) hd hlocks) _ (lv_entry av hav)
section EF
variable {p : Program} {l : Launch} {e : Env} {R : Room} {s : State} {m : MethodId} {args : Array Value} {below : List Frame} {meth : Method} {c : Code} {H : Heap} {locs : List Loc} {cells slots : Nat} {Q : State → Prop}
variable {cc : ByteArray} {pc nL : Nat} {ls : Array Slot} {rest st : List Value} {X : eD} {z0 : Nat} {ad kd sp : Nat → Nat} {v v' : eV} {H0 : Heap}
theorem e_nrml {x y : Int64} (h : x = y) (k : W p l e R s m args below meth c H locs cells slots Q (F0 m pc ls (.long y :: rest))) : W p l e R s m args below meth c H locs cells slots Q (F0 m pc ls (.long x :: rest)) := h ▸ k
/-- an array of references, read -/
theorem e_aald (hexec : p.tables.exec = Jvm.exec) (hb : c.code = cc) (hK : e_S X s) (hP : e_P X ad kd sp v H) (n K : Nat) (hk : kd n = K) (h0 : K ≠ 0) {cA : ClassId} {N : Nat} {f : Nat → Option Nat} (he : e_sh X ad sp v K n = .inl (cA, N, .inr (.inr (.inr (.inr f))))) (t0 : Nat) {ty : FieldType} (ht : (e_tys X)[t0]? = some (cA, ty)) (hty : ty = .object "java/lang/Object" ∨ ty = .array .int) {i : Int32} (j : Nat) (hi : i = nI j) (hj : j < N) (hN : N < 2 ^ 31) {q : Nat} (hq : f j = some q) (hdg : decode cc pc = .ok (.aaload, 1))
    (kk : W p l e R s m args below meth c H locs cells slots Q (F0 m (pc + 1) ls (.ref q :: rest))) : W p l e R s m args below meth c H locs cells slots Q (F0 m pc ls (.int i :: .ref (ad n) :: rest)) := by
  subst hi
  have hat := e_one hP hk h0 0 _ rfl
  rw [he] at hat
  have hcl : (nI j).toNatClampNeg = j := nI_clamp (by omega)
  have hrd : (vp_cell cA (N, .inr (.inr (.inr (.inr f))))).slots[(nI j).toNatClampNeg]? = some (.ref q) := by
    rw [hcl]
    show (arrV _ _ _).slots[_]? = _
    rw [arrV_read _ _ hj]
    show some (va_rf (f j)) = _
    rw [hq]
    rfl
  have hin : ¬ (nI j < 0 ∨ (vp_cell cA (N, .inr (.inr (.inr (.inr f))))).slots.size ≤ (nI j).toNatClampNeg) := by
    show ¬ (_ ∨ (arrV _ _ _).slots.size ≤ _)
    rw [arrV_size]
    exact vp_in_nI hj hN
  rcases hty with rfl | rfl
  · exact W.aald (v := .ref q) (ty := .object "java/lang/Object") hexec hb hat ((hK.1.2 t0 _ ht).1 N (fun j => va_rf (f j))) rfl (fun z => by cases z) hin hrd rfl rfl hdg kk
  · exact W.aald (v := .ref q) (ty := .array .int) hexec hb hat ((hK.1.2 t0 _ ht).1 N (fun j => va_rf (f j))) rfl (fun z => by cases z) hin hrd rfl rfl hdg kk
theorem e_alen (hexec : p.tables.exec = Jvm.exec) (hb : c.code = cc) (hK : e_S X s) (hP : e_P X ad kd sp v H) (n N : Nat) (hk : kd n = N + 20) (hdg : decode cc pc = .ok (.arraylength, 1))
    (kk : W p l e R s m args below meth c H locs cells slots Q (F0 m (pc + 1) ls (.int (nI N) :: rest))) : W p l e R s m args below meth c H locs cells slots Q (F0 m pc ls (.ref (ad n) :: rest)) := by
  refine va_alen (D := X.1) (cl := vwCl) (tys := e_tys X) (cA := X.2 0) (x := (N, .inl (v n))) hexec hb hK.1 (ws := [(ad n, e_sh X ad sp v (N + 20) n)]) (e_one hP hk (by omega)) 0 0 rfl rfl rfl hdg ?_
  exact kk
theorem e_cast (hexec : p.tables.exec = Jvm.exec) (hb : c.code = cc) (hts : ∀ w ∈ AW, w.before args s = true) {own nm : String} {index : Nat} (hown : s.vm.findClass own = some m.cls) (hK : e_S X s) (hP : e_P X ad kd sp v H) (n K : Nat) (hk : kd n = K) (h0 : K ≠ 0) {ci : Nat} {fs : List Value} (he : e_sh X ad sp v K n = .inr (ci, fs)) {T : u_T} {N : Nat} (hc : vwCl[ci]? = some (nm, T, N)) (hlink : Cond.classLink own index nm ∈ AW) (hdg : decode cc pc = .ok (.checkcast index, 3))
    (kk : W p l e R s m args below meth c H locs cells slots Q (F0 m (pc + 3) ls (.ref (ad n) :: rest))) : W p l e R s m args below meth c H locs cells slots Q (F0 m pc ls (.ref (ad n) :: rest)) :=
  va_castS hexec hb hown (hts _ hlink) (hK.1.1 ci _ hc).2 (e_recv hK hP hk h0 he hc) hdg kk
theorem e_cSM (hx : p.tables.exec = Jvm.exec) (hb : c.code = cc) (hml : c.maxLocals = nL) {own : String} (hown : s.vm.findClass own = some m.cls) (hts : ∀ w ∈ AW, w.before args s = true) {y : MethodName} {b : ByteArray} {n idx k d : Nat} {r : Option FieldType} {As : List Value} {ov : Option Value} (hM : eMu l y b n r d As X z0 ad kd sp v ov v') (cw : e_cwS own idx y b n r k) (hf : d + 1 ≤ R.frames) (hlo : 8 + (n + 11) + 60 * d ≤ R.locals) (hz : z0 ≤ H.size) (hP : e_P X ad kd sp v H) (hI : e_I z0 ad kd) (hK : e_S X s) (hS : va_S (e_A z0) H0 H locs) (hn : As.length = k) (hsz : ls.size = nL) (hst : st = As.reverse ++ rest) (hW : (rest.map fun v => v.category).sum ≤ 8) (hfc : cells + 0 ≤ R.cells ∧ slots + 0 ≤ R.slots) (hdg : decode cc pc = .ok (.invokestatic idx, 3))
    (kk : ∀ (H1 : Heap) (locs1 : List Loc), z0 ≤ H1.size → e_P X ad kd sp v' H1 → va_S (e_A z0) H0 H1 locs1 → W p l e R s m args below meth c H1 locs1 cells slots Q (F0 m (pc + 3) ls (ov.toList ++ rest))) : W p l e R s m args below meth c H locs cells slots Q (F0 m pc ls st) :=
  e_runM (va_runS (As := As) (rest := rest) ⟨hx, hb, hml, hown, hts⟩ hM (cw.use hts rfl rfl hf hlo) ⟨fun a U g mk q => ⟨q.1, q.2.call g mk a⟩, fun U hU hW => ⟨rfl, by rw [hU]; exact hz, by rw [hU]; exact hP, hI, hK.warm hW⟩⟩ rfl hn hsz hst (lv_room hW) hdg hfc) hz hS kk
/-- nest mates: a private static method of the outer class that writes nothing -/
theorem e_cSN (hx : p.tables.exec = Jvm.exec) (hb : c.code = cc) (hml : c.maxLocals = nL) {own host : String} (hown : s.vm.findClass own = some m.cls) (hts : ∀ w ∈ AW, w.before args s = true) {y : MethodName} {b : ByteArray} {n idx k d : Nat} {r : Option FieldType} {As : List Value} {ov : Option Value} (hM : ePu l y b n r d As (e_W X z0 ad kd sp v) ov) (hnw : va_Nw (.methodLinkNest own idx y host) s) (h2 : Cond.static y ∈ AW) (h4 : Cond.initialized y.cls ∈ AW) (h5 : Cond.code y b n r ∈ AW) (hd : y.cls ≠ "java/lang/invoke/MethodHandle" ∧ y.cls ≠ "java/lang/invoke/VarHandle" ∧ (parseMethodDescriptor y.desc).map (fun d => d.parameters.length) = some k) (hf : d + 1 ≤ R.frames) (hlo : 8 + (n + 11) + 60 * d ≤ R.locals) (hz : z0 ≤ H.size) (hP : e_P X ad kd sp v H) (hI : e_I z0 ad kd) (hK : e_S X s) (hn : As.length = k) (hsz : ls.size = nL) (hst : st = As.reverse ++ rest) (hW : (rest.map fun v => v.category).sum ≤ 8) (hfc : cells + 0 ≤ R.cells ∧ slots + 0 ≤ R.slots) (hdg : decode cc pc = .ok (.invokestatic idx, 3))
    (kk : W p l e R s m args below meth c H locs cells slots Q (F0 m (pc + 3) ls (ov.toList ++ rest))) : W p l e R s m args below meth c H locs cells slots Q (F0 m pc ls st) :=
  e_runS (va_runSN (As := As) (rest := rest) ⟨hx, hb, hml, hown, hts⟩ hM ⟨va_cnB k hts (aw_in h5) rfl rfl rfl hnw (hts _ h4) hd ⟨hf, hlo⟩, hts _ h2, trivial⟩ ⟨fun a U g mk q => ⟨q.1, q.2.call g mk a⟩, fun U hU hW => ⟨rfl, by rw [hU]; exact hz, by rw [hU]; exact hP, hI, hK.warm hW⟩⟩ rfl hn hsz hst (lv_room hW) hdg hfc) kk
end EF
section EG
variable {p : Program} {l : Launch} {e : Env} {R : Room} {s : State} {m : MethodId} {args : Array Value} {below : List Frame} {meth : Method} {c : Code} {H : Heap} {locs : List Loc} {cells slots : Nat} {Q : State → Prop} {pc : Nat} {ls : Array Slot} {rest : List Value} {ad : Nat → Nat}
theorem e_nrmr {x y : Nat} (h : x = y) (k : W p l e R s m args below meth c H locs cells slots Q (F0 m pc ls (.ref (ad y) :: rest))) : W p l e R s m args below meth c H locs cells slots Q (F0 m pc ls (.ref (ad x) :: rest)) := h ▸ k
end EG

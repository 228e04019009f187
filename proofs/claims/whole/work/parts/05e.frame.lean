/-! NEW CELLS: a name that wasn't there gets a kind; its numbers begin at 0 -/
def kup (kd : Nat → Nat) (n K : Nat) : Nat → Nat := fun m => if m = n then K else kd m
theorem kup_s {kd : Nat → Nat} {n K : Nat} : kup kd n K n = K := if_pos rfl
theorem kup_n {kd : Nat → Nat} {n K m K' : Nat} (h : m ≠ n) (e : kd m = K') : kup kd n K m = K' := by rw [← e]; exact if_neg h
def upN (f : Nat → Nat) (k x : Nat) : Nat → Nat := fun m => if m = k then x else f m
def e_z (v : eV) (n : Nat) : eV := fun m => if m = n then fun _ => 0 else v m
theorem e_set_s {v : eV} {n k : Nat} {x : Int32} : e_set v n k x n = upd (v n) k x := if_pos rfl
theorem e_set_n {v : eV} {n k m : Nat} {x : Int32} (h : m ≠ n) : e_set v n k x m = v m := if_neg h
theorem e_z_s {v : eV} {n : Nat} : e_z v n n = fun _ => 0 := if_pos rfl
theorem e_z_n {v : eV} {n m : Nat} (h : m ≠ n) : e_z v n m = v m := if_neg h
theorem e_rr1 {a : Nat} : e_rr 1 a = .ref a := if_neg (by decide)
theorem e_rr0 {a : Nat} : e_rr 0 a = .null := if_pos rfl
theorem e_sh_v {X : eD} {ad sp : Nat → Nat} {v w : eV} {m K : Nat} (h : w m = v m) : e_sh X ad sp w K m = e_sh X ad sp v K m := by
  unfold e_sh
  rw [h]
theorem e_P.grow {X : eD} {z0 : Nat} {ad kd sp : Nat → Nat} {v : eV} {H H1 : Heap} (hP : e_P X ad kd sp v H) (hI : e_I z0 ad kd) (hz : z0 ≤ H.size) {n K : Nat} (had : ad n = H.size) (oq : ∀ q : Nat, q < H.size → H1[q]? = H[q]?) (he : va_at X.1 vwCl (ad n, e_sh X ad sp (e_z v n) K n) H1) (hk : kd n = 0) : e_P X ad (kup kd n K) sp (e_z v n) H1 ∧ e_I z0 ad (kup kd n K) := by
  refine ⟨fun m hm => ?_, fun a b ha hb hab => ?_, fun a ha => ?_⟩
  · by_cases h : m = n
    · subst h
      rw [kup_s]
      exact he
    · have e : kup kd n K m = kd m := if_neg h
      rw [e] at hm ⊢
      rw [e_sh_v (v := v) (if_neg h)]
      exact (hP m hm).kept (oq _ (hP m hm).lt)
  · by_cases h1 : a = n
    · by_cases h2 : b = n
      · rw [h1, h2]
      · have e : kup kd n K b = kd b := if_neg h2
        rw [e] at hb
        have := (hP b hb).lt
        subst h1
        rw [had] at hab
        exact absurd hab (by show ¬ _; have : ad b < H.size := this; omega)
    · have e : kup kd n K a = kd a := if_neg h1
      rw [e] at ha
      by_cases h2 : b = n
      · subst h2
        have : ad a < H.size := (hP a ha).lt
        rw [had] at hab
        omega
      · have e : kup kd n K b = kd b := if_neg h2
        rw [e] at hb
        exact hI.1 a b ha hb hab
  · by_cases h1 : a = n
    · subst h1
      rw [had]
      exact hz
    · have e : kup kd n K a = kd a := if_neg h1
      rw [e] at ha
      exact hI.2 a ha
/-- the same cells under other names of their kinds -/
theorem e_P.re {X : eD} {ad kd sp ad' kd' sp' : Nat → Nat} {v v' : eV} {H : Heap} (hP : e_P X ad kd sp v H) (h : ∀ n, kd' n ≠ 0 → kd n ≠ 0 ∧ ad' n = ad n ∧ e_sh X ad' sp' v' (kd' n) n = e_sh X ad sp v (kd n) n) : e_P X ad' kd' sp' v' H := by
  intro n hn
  obtain ⟨h1, h2, h3⟩ := h n hn
  rw [h2, h3]
  exact hP n h1
theorem e_I.re {z0 : Nat} {ad kd ad' kd' : Nat → Nat} (hI : e_I z0 ad kd) (h : ∀ n, kd' n ≠ 0 → kd n ≠ 0 ∧ ad' n = ad n) : e_I z0 ad' kd' := by
  refine ⟨fun a b ha hb hab => ?_, fun a ha => ?_⟩
  · rw [(h a ha).2, (h b hb).2] at hab
    exact hI.1 a b (h a ha).1 (h b hb).1 hab
  · rw [(h a ha).2]
    exact hI.2 a (h a ha).1
/-- one cell's kind is said otherwise -/
theorem e_P.kind {X : eD} {ad kd sp : Nat → Nat} {v : eV} {H : Heap} (hP : e_P X ad kd sp v H) {n K K' : Nat} (hk : kd n = K) (h0 : K ≠ 0) (he : e_sh X ad sp v K' n = e_sh X ad sp v K n) : e_P X ad (kup kd n K') sp v H := by
  refine hP.re fun m hm => ?_
  by_cases h : m = n
  · subst h
    rw [kup_s, hk]
    exact ⟨h0, rfl, he⟩
  · have e : kup kd n K' m = kd m := if_neg h
    rw [e] at hm ⊢
    exact ⟨hm, rfl, rfl⟩
theorem e_I.kind {z0 : Nat} {ad kd : Nat → Nat} (hI : e_I z0 ad kd) {n K K' : Nat} (hk : kd n = K) (h0 : K ≠ 0) : e_I z0 ad (kup kd n K') := by
  refine hI.re fun m hm => ?_
  by_cases h : m = n
  · subst h
    rw [hk]
    exact ⟨h0, rfl⟩
  · have e : kup kd n K' m = kd m := if_neg h
    rw [e] at hm
    exact ⟨hm, rfl⟩
theorem e_P.put2 {X : eD} {z0 : Nat} {ad kd sp sp' : Nat → Nat} {v v' : eV} {H H1 : Heap} (hP : e_P X ad kd sp v H) (hI : e_I z0 ad kd) {n : Nat} (h0 : kd n ≠ 0) (he : va_at X.1 vwCl (ad n, e_sh X ad sp' v' (kd n) n) H1) (oq : ∀ q : Nat, q ≠ ad n → H1[q]? = H[q]?) (ho : ∀ m, kd m ≠ 0 → m ≠ n → e_sh X ad sp' v' (kd m) m = e_sh X ad sp v (kd m) m) : e_P X ad kd sp' v' H1 := by
  intro m hm
  by_cases h : m = n
  · subst h
    exact he
  · rw [ho m hm h]
    exact (hP m hm).kept (oq _ (fun z => h (hI.1 m n hm h0 z)))
def e_O : String := "java/lang/Object"
def e_AO : String := "[Ljava/lang/Object;"
def e_AL : String := "java/util/ArrayList"
def e_gC : MethodName := ⟨"java/lang/Object", "getClass", "()Ljava/lang/Class;"⟩
/-- what ArrayList's own machinery needs of the start: its empty array at t0, the class object of Object[] at mi -/
def e_L (z0 t0 mi : Nat) (U : State) : Prop := va_Z e_AL "DEFAULTCAPACITY_EMPTY_ELEMENTDATA" e_AO (.ref t0) (e_A z0) U U.heap ∧ va_T (.object e_O) t0 0 (fun _ => .null) (e_A z0) U U.heap ∧ va_AO e_O U ∧ va_Mi e_AO mi U ∧ va_Nw (.castable "Stepscript$Dancer" e_O) U ∧ va_Nw (.castable "Stepscript$Lift" e_O) U ∧ va_Nw (.declares e_gC) U ∧ va_AOA .int U
theorem va_AOA.moved {ty : FieldType} {u U : State} (hvm : u.vm.Alike U.vm) (h : va_AOA ty u) : va_AOA ty U := by
  obtain ⟨comp, c, k, h1, h2, h3, h4, h5⟩ := arrayOverA_spec h
  obtain ⟨k', hk', he⟩ := hvm.2.2 _ _ h3
  have hi : (U.vm.classes.findIdx? fun (x : Class) => match x.kind with | .array component _ => component == comp | _ => false) = some c := by
    refine (va_idx_bare U.vm comp).symm.trans ?_
    first | rw [hvm.bare_eq] | rw [← hvm.bare_eq]
    exact (va_idx_bare _ comp).trans h2
  have hkind : k'.kind = .array comp (.array ty) := by rw [he]; exact h4
  have f1 : U.vm.findClass (FieldType.array ty).toString = some comp := by rw [hvm.findClass]; exact h1
  have f2 : U.vm.findClass ("[" ++ (FieldType.array ty).toString) = some c := by rw [hvm.findClass]; exact h5
  unfold va_AOA Cond.before Cond.holds
  simp only [Cond.value]
  rw [f1, Option.bind_some]
  refine (congrArg (fun o : Option Nat => (o.bind (fun c => (U.vm.classes[c]?).map fun (k : Class) => match k.kind with | .array _ ty' => decide (ty' = FieldType.array ty) && decide (U.vm.findClass ("[" ++ (FieldType.array ty).toString) = some c) | _ => false) == some true)) hi).trans ?_
  simp [hk', hkind, f2]
theorem e_L.warm {z0 t0 mi : Nat} {s U : State} {H : Heap} {locs : List Loc} (h : e_L z0 t0 mi s) (hW : s.WarmedH U.vm) (hU : U.heap = H) (hS : va_S (e_A z0) s.heap H locs) : e_L z0 t0 mi U := by
  refine ⟨?_, ?_, h.2.2.1.moved hW.alike, h.2.2.2.1.moved hW.alike, va_Nw.warmC hW h.2.2.2.2.1, va_Nw.warmC hW h.2.2.2.2.2.1, va_Nw.warmD hW h.2.2.2.2.2.2.1, va_AOA.moved hW.alike h.2.2.2.2.2.2.2⟩
  · rw [hU]
    exact va_Z.moved hW.alike (h.1.kept (fun a h1 h2 => hS.2.1 a h1 h2))
  · rw [hU]
    exact va_T.moved hW.alike (h.2.1.kept (fun a h1 h2 => hS.2.1 a h1 h2))
theorem e_L.call {z0 t0 mi : Nat} {U : State} (h : e_L z0 t0 mi U) (g : JFrame) (mk : MethodId) (a : Array Value) : e_L z0 t0 mi (U.calling g mk a) :=
  have hA : U.vm.Alike (U.calling g mk a).vm := Vm.Alike.refl U.vm
  ⟨va_Z.moved (u := U) (U := U.calling g mk a) hA h.1, va_T.moved (u := U) (U := U.calling g mk a) hA h.2.1, va_AO.moved (u := U) (U := U.calling g mk a) hA h.2.2.1, va_Mi.moved (u := U) (U := U.calling g mk a) hA h.2.2.2.1, va_Nw.same rfl (u := U) (U := U.calling g mk a) rfl h.2.2.2.2.1, va_Nw.same rfl (u := U) (U := U.calling g mk a) rfl h.2.2.2.2.2.1, va_Nw.same rfl (u := U) (U := U.calling g mk a) rfl h.2.2.2.2.2.2.1, va_AOA.moved (u := U) (U := U.calling g mk a) hA h.2.2.2.2.2.2.2⟩
/-- the start of a method that makes cells: the heap's size is a0 -/
def eWa (X : eD) (z0 t0 mi : Nat) (ad kd sp : Nat → Nat) (v : eV) (a0 : Nat) (U : State) : Prop := e_W X z0 ad kd sp v U ∧ U.heap.size = a0 ∧ e_L z0 t0 mi U
def eQa (X : eD) (z0 : Nat) (ad : Nat → Nat) (ov : Option Value) (kd' sp' : Nat → Nat) (v' : eV) (a1 : Nat) : Array Value → State → Outcome → State → Prop := fun _ st o t => o = .returned ov ∧ e_P X ad kd' sp' v' t.heap ∧ e_I z0 ad kd' ∧ t.heap.size = a1 ∧ va_F (e_A z0) st t
abbrev eAl (l : Launch) (y : MethodName) (b : ByteArray) (n : Nat) (r : Option FieldType) (d mc ms : Nat) (av : List Value) (X : eD) (z0 t0 mi : Nat) (ad kd sp : Nat → Nat) (v : eV) (a0 : Nat) (ov : Option Value) (kd' sp' : Nat → Nat) (v' : eV) (a1 : Nat) : Prop := Met l y (.code y b n r :: AW) (e_rm d mc ms) (va_Pc av (eWa X z0 t0 mi ad kd sp v a0)) (eQa X z0 ad ov kd' sp' v' a1) mc ms (e_A z0)
theorem eWa.call {X : eD} {z0 t0 mi : Nat} {ad kd sp : Nat → Nat} {v : eV} {a0 : Nat} {U : State} (h : eWa X z0 t0 mi ad kd sp v a0 U) (g : JFrame) (mk : MethodId) (a : Array Value) : eWa X z0 t0 mi ad kd sp v a0 (U.calling g mk a) := ⟨h.1.call g mk a, h.2.1, h.2.2.call g mk a⟩
theorem e_alcV {l : Launch} {y : MethodName} {cc : ByteArray} {n d mc ms : Nat} {av : List Value} {X : eD} {z0 t0 mi : Nat} {ad kd sp kd' sp' : Nat → Nat} {v v' : eV} {a0 a1 : Nat} (hy : plainName y.cls = true) (hav : (lg_sl av).length ≤ n)
    (body : ∀ (p : Program) (e : Env) (s : State) (m : MethodId) (args : Array Value) (below : List Frame) (meth : Method) (c : Code), p.tables.exec = Jvm.exec → c.code = cc → c.maxLocals = n → s.vm.findClass y.cls = some m.cls → (∀ w ∈ AW, w.before args s = true) → eWa X z0 t0 mi ad kd sp v a0 s → meth.name = y.name → ∀ Q : State → Prop, (∀ (H : Heap) (locs : List Loc) (pc : Nat) (ls : Array Slot) (k9 s9 : Nat → Nat) (w : eV) (k u : Nat), k9 = kd' → s9 = sp' → w = v' → k ≤ mc → u ≤ ms → e_P X ad k9 s9 w H → e_I z0 ad k9 → H.size = a1 → va_S (e_A z0) s.heap H locs → decode cc pc = .ok (.return_, 1) → W p l e (e_rm d mc ms) s m args below meth c H locs k u Q (F0 m pc ls [])) → ∀ ls : Array Slot, lv_has ls n (lv_args 0 av) → W p l e (e_rm d mc ms) s m args below meth c s.heap [] 0 0 Q (F0 m 0 ls [])) : eAl l y cc n none d mc ms av X z0 t0 mi ad kd sp v a0 none kd' sp' v' a1 := by
  refine Met.ofW (cc := cc) (maxL := n) (ret := none) hy rfl ?_
  intro p e s m args below meth c s₁ Bd hml hv
  obtain ⟨rfl, hB⟩ := hv
  have hts := atoms_spec (ws := .code y cc n none :: AW) Bd.pre
  have hlocks := Bd.notSynchronized
  rw [lg_entry_eq]
  exact body p e s m _ below meth c Bd.exec Bd.bytes hml (findClass_of_methodNamed Bd.named) (fun w hw => hts w (List.mem_cons_of_mem _ hw)) hB (name_of_methodNamed Bd.named Bd.method).1 _ (fun H locs pc ls k9 s9 w k u e1 e2 e3 h1 h2 hP hI hz hS hd => by subst e1; subst e2; subst e3; exact W.widen h1 h2 (W.vret Bd.exec Bd.bytes Bd.returns (fun t ht _ => ⟨rfl, by rw [ht]; exact hP, hI, by rw [ht]; exact hz, hS.F ht⟩) hS.2.2 hd hlocks)) _ (lv_entry av hav)
theorem e_alcI {l : Launch} {y : MethodName} {cc : ByteArray} {n d mc ms : Nat} {av : List Value} {X : eD} {z0 t0 mi : Nat} {ad kd sp kd' sp' : Nat → Nat} {v v' : eV} {a0 a1 : Nat} (hy : plainName y.cls = true) (hav : (lg_sl av).length ≤ n) {ty : FieldType} {val : Int32} (hn : narrow ty (.int val) = .int val)
    (body : ∀ (p : Program) (e : Env) (s : State) (m : MethodId) (args : Array Value) (below : List Frame) (meth : Method) (c : Code), p.tables.exec = Jvm.exec → c.code = cc → c.maxLocals = n → s.vm.findClass y.cls = some m.cls → (∀ w ∈ AW, w.before args s = true) → eWa X z0 t0 mi ad kd sp v a0 s → meth.name = y.name → ∀ Q : State → Prop, (∀ (H : Heap) (locs : List Loc) (pc : Nat) (ls : Array Slot) (k9 s9 : Nat → Nat) (w : eV) (k u : Nat), k9 = kd' → s9 = sp' → w = v' → k ≤ mc → u ≤ ms → e_P X ad k9 s9 w H → e_I z0 ad k9 → H.size = a1 → va_S (e_A z0) s.heap H locs → decode cc pc = .ok (.ireturn, 1) → W p l e (e_rm d mc ms) s m args below meth c H locs k u Q (F0 m pc ls [.int val])) → ∀ ls : Array Slot, lv_has ls n (lv_args 0 av) → W p l e (e_rm d mc ms) s m args below meth c s.heap [] 0 0 Q (F0 m 0 ls [])) : eAl l y cc n (some ty) d mc ms av X z0 t0 mi ad kd sp v a0 (some (.int val)) kd' sp' v' a1 := by
  refine Met.ofW (cc := cc) (maxL := n) (ret := (some ty)) hy rfl ?_
  intro p e s m args below meth c s₁ Bd hml hv
  obtain ⟨rfl, hB⟩ := hv
  have hts := atoms_spec (ws := .code y cc n (some ty) :: AW) Bd.pre
  have hlocks := Bd.notSynchronized
  rw [lg_entry_eq]
  exact body p e s m _ below meth c Bd.exec Bd.bytes hml (findClass_of_methodNamed Bd.named) (fun w hw => hts w (List.mem_cons_of_mem _ hw)) hB (name_of_methodNamed Bd.named Bd.method).1 _ (fun H locs pc ls k9 s9 w k u e1 e2 e3 h1 h2 hP hI hz hS hd => by subst e1; subst e2; subst e3; exact W.widen h1 h2 (W.zret Bd.exec Bd.bytes Bd.returns hn (fun t ht _ => ⟨rfl, by rw [ht]; exact hP, hI, by rw [ht]; exact hz, hS.F ht⟩) hS.2.2 hd hlocks)) _ (lv_entry av hav)
theorem e_alcR {l : Launch} {y : MethodName} {cc : ByteArray} {n d mc ms : Nat} {av : List Value} {X : eD} {z0 t0 mi : Nat} {ad kd sp kd' sp' : Nat → Nat} {v v' : eV} {a0 a1 : Nat} (hy : plainName y.cls = true) (hav : (lg_sl av).length ≤ n) {ty : FieldType} {val : Nat} (hrt : (∃ n, ty = .object n) ∨ ∃ t, ty = .array t)
    (body : ∀ (p : Program) (e : Env) (s : State) (m : MethodId) (args : Array Value) (below : List Frame) (meth : Method) (c : Code), p.tables.exec = Jvm.exec → c.code = cc → c.maxLocals = n → s.vm.findClass y.cls = some m.cls → (∀ w ∈ AW, w.before args s = true) → eWa X z0 t0 mi ad kd sp v a0 s → meth.name = y.name → ∀ Q : State → Prop, (∀ (H : Heap) (locs : List Loc) (pc : Nat) (ls : Array Slot) (k9 s9 : Nat → Nat) (w : eV) (k u : Nat), k9 = kd' → s9 = sp' → w = v' → k ≤ mc → u ≤ ms → e_P X ad k9 s9 w H → e_I z0 ad k9 → H.size = a1 → va_S (e_A z0) s.heap H locs → decode cc pc = .ok (.areturn, 1) → W p l e (e_rm d mc ms) s m args below meth c H locs k u Q (F0 m pc ls [.ref val])) → ∀ ls : Array Slot, lv_has ls n (lv_args 0 av) → W p l e (e_rm d mc ms) s m args below meth c s.heap [] 0 0 Q (F0 m 0 ls [])) : eAl l y cc n (some ty) d mc ms av X z0 t0 mi ad kd sp v a0 (some (.ref val)) kd' sp' v' a1 := by
  refine Met.ofW (cc := cc) (maxL := n) (ret := (some ty)) hy rfl ?_
  intro p e s m args below meth c s₁ Bd hml hv
  obtain ⟨rfl, hB⟩ := hv
  have hts := atoms_spec (ws := .code y cc n (some ty) :: AW) Bd.pre
  have hlocks := Bd.notSynchronized
  rw [lg_entry_eq]
  exact body p e s m _ below meth c Bd.exec Bd.bytes hml (findClass_of_methodNamed Bd.named) (fun w hw => hts w (List.mem_cons_of_mem _ hw)) hB (name_of_methodNamed Bd.named Bd.method).1 _ (fun H locs pc ls k9 s9 w k u e1 e2 e3 h1 h2 hP hI hz hS hd => by subst e1; subst e2; subst e3; exact W.widen h1 h2 (W.aret Bd.exec Bd.bytes Bd.returns hrt (Or.inr ⟨_, rfl⟩) (fun t ht _ => ⟨rfl, by rw [ht]; exact hP, hI, by rw [ht]; exact hz, hS.F ht⟩) hS.2.2 hd hlocks)) _ (lv_entry av hav)
section EA
variable {p : Program} {l : Launch} {e : Env} {R : Room} {s : State} {m : MethodId} {args : Array Value} {below : List Frame} {meth : Method} {c : Code} {H : Heap} {locs : List Loc} {cells slots : Nat} {Q : State → Prop}
variable {cc : ByteArray} {pc nL : Nat} {ls : Array Slot} {rest st : List Value} {X : eD} {z0 t0 mi : Nat} {ad kd sp kd' sp' : Nat → Nat} {v v' : eV} {H0 : Heap}
theorem e_new (hexec : p.tables.exec = Jvm.exec) (hb : c.code = cc) (hts : ∀ w ∈ AW, w.before args s = true) {own C : String} {T : u_T} {N ci index : Nat} (hin : ∀ w ∈ u_ws C T N, w ∈ AW) (ty : Nat → FieldType) (hty : ∀ k, k < N → parseFieldDescriptor (T k).2.2.1 = some (ty k)) (hown : s.vm.findClass own = some m.cls) (hcl : Cond.classLink own index C ∈ AW) (hinst : Cond.instantiable C N ∈ AW) (hini : Cond.initialized C ∈ AW) (hK : e_S X s) (hP : e_P X ad kd sp v H) (hI : e_I z0 ad kd) (hz : z0 ≤ H.size) (hS : va_S (e_A z0) H0 H locs) (nm K : Nat) (hk : kd nm = 0) (had : ad nm = H.size) (hc : vwCl[ci]? = some (C, T, N)) {fs : List Value} (he : e_sh X ad sp (e_z v nm) K nm = .inr (ci, fs)) (hfs : ∀ j, j < N → defaultValue (ty j) = vp_V fs j) (hcells : cells + 1 ≤ R.cells) (hslots : slots + N ≤ R.slots) (hdg : decode cc pc = .ok (.new index, 3))
    (kk : ∀ H1 : Heap, H1.size = H.size + 1 → e_P X ad (kup kd nm K) sp (e_z v nm) H1 → e_I z0 ad (kup kd nm K) → va_S (e_A z0) H0 H1 locs → W p l e R s m args below meth c H1 locs (cells + 1) (slots + N) Q (F0 m (pc + 3) ls (.ref (ad nm) :: rest))) : W p l e R s m args below meth c H locs cells slots Q (F0 m pc ls rest) := by
  have hKn := hK.1.1 ci _ hc
  refine W.newcK hexec hb hown (hts _ hcl) (hts _ hinst) (hts _ hini) rfl hdg hcells hslots hKn.2.1 rfl fun H1 kC hkC e1 z1 o1 => ?_
  have hb := (u_born ty hts hin hKn hkC e1 hty).to hfs
  rw [← had] at hb ⊢
  obtain ⟨g1, g2⟩ := hP.grow hI hz had o1 (by rw [he]; exact ⟨_, hc, hb⟩) hk
  exact kk H1 z1 g1 g2 ⟨Nat.le_trans hS.1 (by omega), fun x h1 h2 => (o1 x (Nat.lt_of_lt_of_le h1 hS.1)).trans (hS.2.1 x h1 h2), hS.2.2⟩
theorem e_newa (hexec : p.tables.exec = Jvm.exec) (hb : c.code = cc) (hts : ∀ w ∈ AW, w.before args s = true) (harr : Cond.arrayClass .int ∈ AW) (hK : e_S X s) (hP : e_P X ad kd sp v H) (hI : e_I z0 ad kd) (hz : z0 ≤ H.size) (hS : va_S (e_A z0) H0 H locs) (nm N : Nat) (hk : kd nm = 0) (had : ad nm = H.size) {x : Int32} (hx : x = nI N) (hN : N < 100000) (hcells : cells + 1 ≤ R.cells) (hslots : slots + N ≤ R.slots) (hdg : decode cc pc = .ok (.newarray .int, 2))
    (kk : ∀ H1 : Heap, H1.size = H.size + 1 → e_P X ad (kup kd nm (N + 20)) sp (e_z v nm) H1 → e_I z0 ad (kup kd nm (N + 20)) → va_S (e_A z0) H0 H1 locs → W p l e R s m args below meth c H1 locs (cells + 1) (slots + N) Q (F0 m (pc + 2) ls (.ref (ad nm) :: rest))) : W p l e R s m args below meth c H locs cells slots Q (F0 m pc ls (.int x :: rest)) := by
  subst hx
  refine va_newaK (atype := .int) hexec hb (hts _ harr) rfl hdg rfl (nI_pos (by omega)) (nI_clamp (by omega)) (by show N * 4 ≤ _; omega) hcells hslots rfl fun H1 cA e1 z1 o1 hAr hNm => ?_
  have hcA : cA = X.2 0 := Option.some.inj (hNm.symm.trans (hK.1.2 0 _ rfl).2)
  subst hcA
  rw [← had] at e1 ⊢
  obtain ⟨g1, g2⟩ := hP.grow hI hz (K := N + 20) had o1 (by
    show H1[ad nm]? = some (vp_cell (X.2 0) (N, .inl (e_z v nm nm)))
    rw [e1, vp_cell_i]
    have : e_z v nm nm = fun _ => 0 := if_pos rfl
    rw [this]
    rfl) hk
  exact kk H1 z1 g1 g2 ⟨Nat.le_trans hS.1 (by omega), fun x h1 h2 => (o1 x (Nat.lt_of_lt_of_le h1 hS.1)).trans (hS.2.1 x h1 h2), hS.2.2⟩
theorem e_newo (hexec : p.tables.exec = Jvm.exec) (hb : c.code = cc) (hts : ∀ w ∈ AW, w.before args s = true) {own : String} {index : Nat} (hown : s.vm.findClass own = some m.cls) (hcl : Cond.classLink own index e_O ∈ AW) (hao : va_AO e_O s) (hK : e_S X s) (hP : e_P X ad kd sp v H) (hI : e_I z0 ad kd) (hz : z0 ≤ H.size) (hS : va_S (e_A z0) H0 H locs) (nm K N : Nat) (hk : kd nm = 0) (had : ad nm = H.size) {f : Nat → Option Nat} (he : e_sh X ad sp (e_z v nm) K nm = .inl (X.2 1, N, .inr (.inr (.inr (.inr f))))) (hf : f = fun _ => none) {x : Int32} (hx : x = nI N) (hN : N < 100000) (hcells : cells + 1 ≤ R.cells) (hslots : slots + N ≤ R.slots) (hdg : decode cc pc = .ok (.anewarray index, 3))
    (kk : ∀ H1 : Heap, H1.size = H.size + 1 → e_P X ad (kup kd nm K) sp (e_z v nm) H1 → e_I z0 ad (kup kd nm K) → va_S (e_A z0) H0 H1 locs → W p l e R s m args below meth c H1 locs (cells + 1) (slots + N) Q (F0 m (pc + 3) ls (.ref (ad nm) :: rest))) : W p l e R s m args below meth c H locs cells slots Q (F0 m pc ls (.int x :: rest)) := by
  subst hx
  subst hf
  have hcl : (nI N).toNatClampNeg = N := nI_clamp (by omega)
  refine W.anew hexec hb hown (hts _ ‹Cond.classLink own index e_O ∈ AW›) (va_AO.use hao) rfl hdg rfl (nI_pos (by omega)) (by rw [hcl]; omega) hcells (by rw [hcl]; exact hslots) fun cA kA comp f1 f2 f3 f4 => ?_
  rw [hcl]
  obtain ⟨kA', comp', g1, g2, g3, g4⟩ := (hK.1.2 1 _ rfl).2
  have hcA : cA = X.2 1 := Option.some.inj (f1.symm.trans g4)
  subst hcA
  generalize hH1 : H.push ({ cls := X.2 1, slots := Array.replicate N .null, vm := .none } : Cell) = H1
  have z1 : H1.size = H.size + 1 := by rw [← hH1, Array.size_push]
  have e1 : H1[H.size]? = some (arrV (X.2 1) N (fun _ => .null)) := by rw [← hH1, Array.getElem?_push_size, ← arrV_new]
  have o1 : ∀ q : Nat, q < H.size → H1[q]? = H[q]? := fun q hq => by rw [← hH1, Array.getElem?_push, if_neg (Nat.ne_of_lt hq)]
  rw [← had] at e1 ⊢
  obtain ⟨g1, g2⟩ := hP.grow hI hz (K := K) had o1 (by
    rw [he]
    show H1[ad nm]? = some (vp_cell (X.2 1) (N, .inr (.inr (.inr (.inr (fun _ => none))))))
    rw [e1, vp_cell_q]
    rfl) hk
  exact kk H1 z1 g1 g2 ⟨Nat.le_trans hS.1 (by omega), fun x h1 h2 => (o1 x (Nat.lt_of_lt_of_le h1 hS.1)).trans (hS.2.1 x h1 h2), hS.2.2⟩
/-- a field is written, of any sort; what the cell holds then is v', sp' -/
theorem e_putr (hexec : p.tables.exec = Jvm.exec) (hb : c.code = cc) (hts : ∀ w ∈ AW, w.before args s = true) {own ref C : String} {T : u_T} {N ci index : Nat} (hin : ∀ w ∈ u_ws C T N, w ∈ AW) (ty0 : Nat → FieldType) (hty : ∀ k, k < N → parseFieldDescriptor (T k).2.2.1 = some (ty0 k)) (hnm : ∀ a, a < N → ∀ b, b < N → a ≠ b → (T a).2.1 ≠ (T b).2.1) (hown : s.vm.findClass own = some m.cls) (hK : e_S X s) (hP : e_P X ad kd sp v H) (hI : e_I z0 ad kd) (hS0 : va_S (e_A z0) H0 H locs) (n K : Nat) (hk : kd n = K) (h0 : K ≠ 0) {fs : List Value} (he : e_sh X ad sp v K n = .inr (ci, fs)) (hc : vwCl[ci]? = some (C, T, N)) (k : Nat) (hkN : k < N) (hlink : Cond.fieldLink own index ref (T k).2.1 (T k).2.2.1 ∈ AW) (hsame : ∀ x, s.fieldFound? (T k).1 (T k).2.1 (T k).2.2.1 = some x → s.fieldFound? ref (T k).2.1 (T k).2.2.1 = some x) (hfin : (T k).2.2.2 = false ∨ ((T k).2.2.2 = true ∧ meth.name = "<init>" ∧ (T k).1 = own)) {ty : FieldType} {w : Value} (hd : parseFieldDescriptor (T k).2.2.1 = some ty) (hnr : narrow ty w = w) (hfit : fits ty w = true) (hl : k < fs.length) (sp' : Nat → Nat) (v' : eV) (he' : e_sh X ad sp' v' K n = .inr (ci, fs.set k w)) (ho : ∀ m, kd m ≠ 0 → m ≠ n → e_sh X ad sp' v' (kd m) m = e_sh X ad sp v (kd m) m) (hdg : decode cc pc = .ok (.putfield index, 3))
    (kk : ∀ (H1 : Heap) (locs1 : List Loc), H1.size = H.size → e_P X ad kd sp' v' H1 → va_S (e_A z0) H0 H1 locs1 → W p l e R s m args below meth c H1 locs1 cells slots Q (F0 m (pc + 3) ls rest)) : W p l e R s m args below meth c H locs cells slots Q (F0 m pc ls (w :: .ref (ad n) :: rest)) := by
  have hn0 : kd n ≠ 0 := by rw [hk]; exact h0
  have hap := va_apart (D := X.1) (cl := vwCl) (tys := e_tys X) (own := own) hts hin ty0 hty hnm hK.1 hc
  have hat := hP n hn0
  rw [hk, he] at hat
  obtain ⟨r, h1, cell, q1, q2, q3, q4⟩ := hat
  have hr : r = (C, T, N) := Option.some.inj (h1.symm.trans hc)
  subst hr
  obtain ⟨hSl, hfc, kC, hkC, hkind⟩ := hK.1.1 ci _ hc
  obtain ⟨cf, kf, fi, f, hi, hsl⟩ := hSl k hkN
  have hlay := hts _ (hin _ (u_in_lay hkN))
  unfold u_lay at hlay
  have hst := (u_facts hfc hkC (u_lays hts hin hkN) hi).1
  have fin : ∀ (H' : Heap) (e1 : H'[ad n]? = some (cell.setSlot f.slot w)) (e2 : H'.size = H.size) (e3 : ∀ q, q ≠ ad n → H'[q]? = H[q]?), W p l e R s m args below meth c H' (locs ++ [⟨ad n, f.slot⟩]) cells slots Q (F0 m (pc + 3) ls rest) := by
    intro H' e1 e2 e3
    rw [hsl] at e1
    refine kk H' _ e2 (hP.put2 hI hn0 ?_ e3 ho) (hS0.put e2 e3 (hI.2 n hn0))
    rw [hk, he']
    exact ⟨_, hc, t_OB.to (V := updV (vp_V fs) k w) ⟨_, e1, q2, q3, t_set q4 hap hkN w⟩ (fun j _ => vp_updV_set hl w j)⟩
  rcases hfin with hfin | ⟨hfin, hin2, hdecl⟩
  · rw [if_neg (by rw [hfin]; decide)] at hlay
    have h6 := u_store hfc hkC hkind hlay hi hd hnr hfit
    exact W.putK hexec hb (f := f) ⟨hown, hts _ hlink, ⟨_, _, _, hsame _ hi⟩, hst⟩ (by rw [q2]; exact h6) q1 q3 (by rw [hsl]; exact k2_hasslot (q4 k hkN)) rfl rfl hdg fin
  · rw [if_pos hfin] at hlay
    have hcf : m.cls = cf := by
      obtain ⟨_, _, c', _, _, _, -, -, hf', -, -, -, hown2, -⟩ := Cond.laysFinal_spec hlay
      have e1 : c' = cf := by have := hi.symm.trans hf'; simp at this; exact this.1.symm
      rw [hdecl] at hown2
      rw [← e1]; exact Option.some.inj (hown.symm.trans hown2)
    have h6 := u_fits hfc hkC hkind (Or.inr hlay) hi hd hnr hfit
    exact W.putFinK hexec hb hown (hts _ hlink) (hsame _ hi) hst hcf hin2 (by rw [q2]; exact h6) q1 q3 (by rw [hsl]; exact k2_hasslot (q4 k hkN)) rfl rfl hdg fin
/-- a reference is stored into an Object[] -/
theorem e_aast (hexec : p.tables.exec = Jvm.exec) (hb : c.code = cc) (hK : e_S X s) (hP : e_P X ad kd sp v H) (hI : e_I z0 ad kd) (hS : va_S (e_A z0) H0 H locs) (n K N : Nat) (hk : kd n = K) (h0 : K ≠ 0) {f f' : Nat → Option Nat} (he : e_sh X ad sp v K n = .inl (X.2 1, N, .inr (.inr (.inr (.inr f))))) {i : Int32} (j : Nat) (hi : i = nI j) (hj : j < N) (hN : N < 2 ^ 31) (q Kq : Nat) (hq : kd q = Kq) (hq0 : Kq ≠ 0) {cq : Nat} {fs : List Value} (heq : e_sh X ad sp v Kq q = .inr (cq, fs)) {C : String} {T : u_T} {Nq : Nat} (hc : vwCl[cq]? = some (C, T, Nq)) (hca : va_Nw (.castable C e_O) s) (sp' : Nat → Nat) (he' : e_sh X ad sp' v K n = .inl (X.2 1, N, .inr (.inr (.inr (.inr f'))))) (hf' : f' = va_up f j (some (ad q))) (ho : ∀ m, kd m ≠ 0 → m ≠ n → e_sh X ad sp' v (kd m) m = e_sh X ad sp v (kd m) m) (hdg : decode cc pc = .ok (.aastore, 1))
    (kk : ∀ (H1 : Heap) (locs1 : List Loc), H1.size = H.size → e_P X ad kd sp' v H1 → va_S (e_A z0) H0 H1 locs1 → W p l e R s m args below meth c H1 locs1 cells slots Q (F0 m (pc + 1) ls rest)) : W p l e R s m args below meth c H locs cells slots Q (F0 m pc ls (.ref (ad q) :: .int i :: .ref (ad n) :: rest)) := by
  subst hi
  subst hf'
  have hn0 : kd n ≠ 0 := by rw [hk]; exact h0
  have hat : H[ad n]? = some (vp_cell (X.2 1) (N, .inr (.inr (.inr (.inr f))))) := by have h := hP n hn0; rw [hk, he] at h; exact h
  have hqt := hP q (by rw [hq]; exact hq0)
  rw [hq, heq] at hqt
  obtain ⟨r', hr', cellV, g1, g2, g3, -⟩ := hqt
  have hr : r' = (C, T, Nq) := Option.some.inj (hr'.symm.trans hc)
  subst hr
  have hcls := (hK.1.1 cq _ hc).2
  obtain ⟨kA, comp, k1, k2, k3, -⟩ := (hK.1.2 1 _ rfl).2
  obtain ⟨kE, hkE, -⟩ := Vm.findClass_spec k3
  obtain ⟨c0, t1, f1, f2, f3⟩ := Cond.castable_spec (va_Nw.use (A := args) rfl hca)
  cases hcls.1.symm.trans f1
  cases k3.symm.trans f2
  obtain ⟨kC, hkC, -⟩ := hcls.2
  have hcl : (nI j).toNatClampNeg = j := nI_clamp (by omega)
  refine W.aast hexec hb hat (fun q h => by cases h) (fun h => by cases h) k1 k2 rfl hkE ⟨nI_pos (by omega), by show _ < (arrV _ _ _).slots.size; rw [arrV_size, hcl]; exact hj⟩ g1 (fun q h => by rw [g3] at h; cases h) (by rw [g2]; exact hkC) (by rw [g2]; exact f3) rfl rfl hdg fun H1 e z oq => ?_
  refine kk H1 _ z (hP.put2 hI hn0 ?_ oq ho) (hS.put z oq (hI.2 n hn0))
  rw [hk, he']
  show H1[ad n]? = some (vp_cell _ _)
  rw [e, hcl, vp_cell_q, vp_cell_q, arrV_store]
  congr 2
  funext y
  by_cases hy : y = j
  · subst hy
    simp [updV, va_up, va_rf]
  · simp [updV, va_up, hy]
theorem e_oalen (hexec : p.tables.exec = Jvm.exec) (hb : c.code = cc) (hK : e_S X s) (hP : e_P X ad kd sp v H) (n K N : Nat) (hk : kd n = K) (h0 : K ≠ 0) {f : Nat → Option Nat} (he : e_sh X ad sp v K n = .inl (X.2 1, N, .inr (.inr (.inr (.inr f))))) (hdg : decode cc pc = .ok (.arraylength, 1))
    (kk : W p l e R s m args below meth c H locs cells slots Q (F0 m (pc + 1) ls (.int (nI N) :: rest))) : W p l e R s m args below meth c H locs cells slots Q (F0 m pc ls (.ref (ad n) :: rest)) := by
  refine va_alen (D := X.1) (cl := vwCl) (tys := e_tys X) (cA := X.2 1) (x := (N, .inr (.inr (.inr (.inr f))))) hexec hb hK.1 (ws := [(ad n, .inl (X.2 1, N, .inr (.inr (.inr (.inr f)))))]) (by have h := e_one hP hk h0; rw [he] at h; exact h) 0 1 rfl rfl rfl hdg ?_
  exact kk
/-- the call of a constructor, a method or a static method that makes cells -/
theorem e_runA {ov : Option Value} {a : Array Value} {st0 : List Value} {mc ms a1 : Nat} (hr : va_Run p l e R s m args below meth c H locs cells slots mc ms (F0 m pc ls st0) rest (eQa X z0 ad ov kd' sp' v' a1 a) (e_A z0)) (hz : z0 ≤ H.size) (hS : va_S (e_A z0) H0 H locs)
    (kk : ∀ (H1 : Heap) (locs1 : List Loc), z0 ≤ H1.size → H1.size = a1 → e_P X ad kd' sp' v' H1 → e_I z0 ad kd' → va_S (e_A z0) H0 H1 locs1 → W p l e R s m args below meth c H1 locs1 (cells + mc) (slots + ms) Q (F0 m (pc + 3) ls (ov.toList ++ rest))) : W p l e R s m args below meth c H locs cells slots Q (F0 m pc ls st0) := by
  intro T hT X
  obtain ⟨v, st₀, t, T', L, h0, X', hL, e1, -, ⟨hv, hh, hI, ha, hF⟩, st⟩ := hr T hT X
  cases hv
  obtain ⟨hz1, hk⟩ := hF
  rw [h0] at hz1 hk
  obtain ⟨t2, a1, b1⟩ := kk T'.heap (locs ++ L) (by rw [e1]; exact Nat.le_trans hz hz1) (by rw [e1]; exact ha) (by rw [e1]; exact hh) hI ⟨Nat.le_trans hS.1 (by rw [e1]; exact hz1), fun q h1 h2 => by rw [e1, hk q (Nat.lt_of_lt_of_le h1 hS.1) h2]; exact hS.2.1 q h1 h2, fun q hq => (List.mem_append.mp hq).elim (hS.2.2 q) (hL q)⟩ T' rfl X'
  exact ⟨t2, st t2 a1, b1⟩
def e_cwI (own : String) (idx : Nat) (y : MethodName) (b : ByteArray) (n : Nat) (k : Nat) : Prop := Cond.methodLink own idx y ∈ AW ∧ Cond.instanceMethod y ∈ AW ∧ Cond.initialized y.cls ∈ AW ∧ Cond.code y b n none ∈ AW ∧ y.name = "<init>" ∧ y.cls ≠ "java/lang/invoke/MethodHandle" ∧ y.cls ≠ "java/lang/invoke/VarHandle" ∧ (parseMethodDescriptor y.desc).map (fun d => d.parameters.length) = some k
theorem e_cwI.use {own : String} {idx : Nat} {y : MethodName} {b : ByteArray} {n : Nat} {k : Nat} (h : e_cwI own idx y b n k) {s : State} {args : Array Value} {R rm : Room} {mc ms : Nat} (hts : ∀ w ∈ AW, w.before args s = true) (h1 : rm.cells = mc) (h2 : rm.slots = ms) (h3 : rm.frames + 1 ≤ R.frames) (h4 : 8 + (n + 11) + rm.locals ≤ R.locals) : CallB R s args own idx y b n none (.code y b n none :: AW) rm mc ms k ∧ y.name = "<init>" ∧ (Cond.instanceMethod y).before args s = true := by
  obtain ⟨a1, a2, a4, a5, a6, a7, a8, a9⟩ := h
  exact ⟨callB_of k hts (aw_in a5) rfl h1 h2 (hts _ a4) (hts _ a1) ⟨a7, a8, a9⟩ ⟨h3, h4⟩, a6, hts _ a2⟩
theorem e_cIA (hx : p.tables.exec = Jvm.exec) (hb : c.code = cc) (hml : c.maxLocals = nL) {own : String} (hown : s.vm.findClass own = some m.cls) (hts : ∀ w ∈ AW, w.before args s = true) (hL : e_L z0 t0 mi s) {y : MethodName} {b : ByteArray} {n idx k d mc ms a0 a1 : Nat} {As : List Value} (nm : Nat) (hM : eAl l y b n none d mc ms (.ref (ad nm) :: As) X z0 t0 mi ad kd sp v a0 none kd' sp' v' a1) (cw : e_cwI own idx y b n k) (hf : d + 1 ≤ R.frames) (hlo : 8 + (n + 11) + 60 * d ≤ R.locals) (hz : z0 ≤ H.size) (ha : H.size = a0) (hP : e_P X ad kd sp v H) (hI : e_I z0 ad kd) (hK : e_S X s) (hS : va_S (e_A z0) s.heap H locs) (hn : As.length = k) (hsz : ls.size = nL) (hst : st = As.reverse ++ .ref (ad nm) :: rest) (hW : (rest.map fun v => v.category).sum ≤ 8) (hfc : cells + mc ≤ R.cells ∧ slots + ms ≤ R.slots) (hdg : decode cc pc = .ok (.invokespecial idx, 3))
    (kk : ∀ (H1 : Heap) (locs1 : List Loc), z0 ≤ H1.size → H1.size = a1 → e_P X ad kd' sp' v' H1 → e_I z0 ad kd' → va_S (e_A z0) s.heap H1 locs1 → W p l e R s m args below meth c H1 locs1 (cells + mc) (slots + ms) Q (F0 m (pc + 3) ls rest)) : W p l e R s m args below meth c H locs cells slots Q (F0 m pc ls st) :=
  e_runA (va_runI (As := As) (rest := rest) ⟨hx, hb, hml, hown, hts⟩ hM (cw.use hts rfl rfl hf hlo) ⟨fun a U g mk q => ⟨q.1, q.2.call g mk a⟩, fun U hU hW => ⟨rfl, ⟨by rw [hU]; exact hz, by rw [hU]; exact hP, hI, hK.warm hW⟩, by rw [hU]; exact ha, hL.warm hW hU hS⟩⟩ rfl hn hsz hst (lv_room hW) hdg hfc) hz hS kk
theorem e_cVA (hx : p.tables.exec = Jvm.exec) (hb : c.code = cc) (hml : c.maxLocals = nL) {own : String} (hown : s.vm.findClass own = some m.cls) (hts : ∀ w ∈ AW, w.before args s = true) (hL : e_L z0 t0 mi s) {y : MethodName} {b : ByteArray} {n idx k d mc ms a0 a1 : Nat} {r : Option FieldType} {C : String} {As : List Value} {ov : Option Value} (nm : Nat) (hM : eAl l y b n r d mc ms (.ref (ad nm) :: As) X z0 t0 mi ad kd sp v a0 ov kd' sp' v' a1) (cw : e_cwV own idx C y b n r k) (hf : d + 1 ≤ R.frames) (hlo : 8 + (n + 11) + 60 * d ≤ R.locals) (hz : z0 ≤ H.size) (ha : H.size = a0) (hP : e_P X ad kd sp v H) (hI : e_I z0 ad kd) (hK : e_S X s) (hS : va_S (e_A z0) s.heap H locs) {K : Nat} (hk : kd nm = K) (h0 : K ≠ 0) {ci : Nat} {fs : List Value} (he : e_sh X ad sp v K nm = .inr (ci, fs)) {T : u_T} {N : Nat} (hc : vwCl[ci]? = some (C, T, N)) (hn : As.length = k) (hsz : ls.size = nL) (hst : st = As.reverse ++ .ref (ad nm) :: rest) (hW : (rest.map fun v => v.category).sum ≤ 8) (hfc : cells + mc ≤ R.cells ∧ slots + ms ≤ R.slots) (hdg : decode cc pc = .ok (.invokevirtual idx, 3))
    (kk : ∀ (H1 : Heap) (locs1 : List Loc), z0 ≤ H1.size → H1.size = a1 → e_P X ad kd' sp' v' H1 → e_I z0 ad kd' → va_S (e_A z0) s.heap H1 locs1 → W p l e R s m args below meth c H1 locs1 (cells + mc) (slots + ms) Q (F0 m (pc + 3) ls (ov.toList ++ rest))) : W p l e R s m args below meth c H locs cells slots Q (F0 m pc ls st) :=
  e_runA (va_runV (As := As) (rest := rest) ⟨hx, hb, hml, hown, hts⟩ hM (cw.use hts rfl rfl hf hlo) ⟨fun a U g mk q => ⟨q.1, q.2.call g mk a⟩, e_recv hK hP hk h0 he hc, fun U hU hW => ⟨rfl, ⟨by rw [hU]; exact hz, by rw [hU]; exact hP, hI, hK.warm hW⟩, by rw [hU]; exact ha, hL.warm hW hU hS⟩⟩ rfl hn hsz hst (lv_room hW) hdg hfc) hz hS kk
theorem e_cSA (hx : p.tables.exec = Jvm.exec) (hb : c.code = cc) (hml : c.maxLocals = nL) {own : String} (hown : s.vm.findClass own = some m.cls) (hts : ∀ w ∈ AW, w.before args s = true) (hL : e_L z0 t0 mi s) {y : MethodName} {b : ByteArray} {n idx k d mc ms a0 a1 : Nat} {r : Option FieldType} {As : List Value} {ov : Option Value} (hM : eAl l y b n r d mc ms As X z0 t0 mi ad kd sp v a0 ov kd' sp' v' a1) (cw : e_cwS own idx y b n r k) (hf : d + 1 ≤ R.frames) (hlo : 8 + (n + 11) + 60 * d ≤ R.locals) (hz : z0 ≤ H.size) (ha : H.size = a0) (hP : e_P X ad kd sp v H) (hI : e_I z0 ad kd) (hK : e_S X s) (hS : va_S (e_A z0) s.heap H locs) (hn : As.length = k) (hsz : ls.size = nL) (hst : st = As.reverse ++ rest) (hW : (rest.map fun v => v.category).sum ≤ 8) (hfc : cells + mc ≤ R.cells ∧ slots + ms ≤ R.slots) (hdg : decode cc pc = .ok (.invokestatic idx, 3))
    (kk : ∀ (H1 : Heap) (locs1 : List Loc), z0 ≤ H1.size → H1.size = a1 → e_P X ad kd' sp' v' H1 → e_I z0 ad kd' → va_S (e_A z0) s.heap H1 locs1 → W p l e R s m args below meth c H1 locs1 (cells + mc) (slots + ms) Q (F0 m (pc + 3) ls (ov.toList ++ rest))) : W p l e R s m args below meth c H locs cells slots Q (F0 m pc ls st) :=
  e_runA (va_runS (As := As) (rest := rest) ⟨hx, hb, hml, hown, hts⟩ hM (cw.use hts rfl rfl hf hlo) ⟨fun a U g mk q => ⟨q.1, q.2.call g mk a⟩, fun U hU hW => ⟨rfl, ⟨by rw [hU]; exact hz, by rw [hU]; exact hP, hI, hK.warm hW⟩, by rw [hU]; exact ha, hL.warm hW hU hS⟩⟩ rfl hn hsz hst (lv_room hW) hdg hfc) hz hS kk
theorem e_runMz {ov : Option Value} {a : Array Value} {st0 : List Value} (hr : va_Run p l e R s m args below meth c H locs cells slots 0 0 (F0 m pc ls st0) rest (eM X z0 ad kd sp ov v' a) (e_A z0)) (hz : z0 ≤ H.size) (hsz : H.size = s.heap.size + cells) (hS : va_S (e_A z0) H0 H locs)
    (kk : ∀ (H1 : Heap) (locs1 : List Loc), H1.size = H.size → e_P X ad kd sp v' H1 → va_S (e_A z0) H0 H1 locs1 → W p l e R s m args below meth c H1 locs1 cells slots Q (F0 m (pc + 3) ls (ov.toList ++ rest))) : W p l e R s m args below meth c H locs cells slots Q (F0 m pc ls st0) := by
  intro T hT X
  obtain ⟨v, st₀, t, T', L, h0, X', hL, e1, -, ⟨hv, hh, hF⟩, st⟩ := hr T hT X
  cases hv
  obtain ⟨hz1, hk⟩ := hF
  have hle := X'.heapSize
  rw [h0] at hz1 hk
  obtain ⟨t2, a1, b1⟩ := kk T'.heap (locs ++ L) (by rw [e1] at hle ⊢; omega) (by rw [e1]; exact hh) ⟨Nat.le_trans hS.1 (by rw [e1]; exact hz1), fun q h1 h2 => by rw [e1, hk q (Nat.lt_of_lt_of_le h1 hS.1) h2]; exact hS.2.1 q h1 h2, fun q hq => (List.mem_append.mp hq).elim (hS.2.2 q) (hL q)⟩ T' rfl X'
  exact ⟨t2, st t2 a1, b1⟩
theorem e_cSMz (hx : p.tables.exec = Jvm.exec) (hb : c.code = cc) (hml : c.maxLocals = nL) {own : String} (hown : s.vm.findClass own = some m.cls) (hts : ∀ w ∈ AW, w.before args s = true) {y : MethodName} {b : ByteArray} {n idx k d : Nat} {r : Option FieldType} {As : List Value} {ov : Option Value} (hM : eMu l y b n r d As X z0 ad kd sp v ov v') (cw : e_cwS own idx y b n r k) (hf : d + 1 ≤ R.frames) (hlo : 8 + (n + 11) + 60 * d ≤ R.locals) (hz : z0 ≤ H.size) (hsz : H.size = s.heap.size + cells) (hP : e_P X ad kd sp v H) (hI : e_I z0 ad kd) (hK : e_S X s) (hS : va_S (e_A z0) H0 H locs) (hn : As.length = k) (hls : ls.size = nL) (hst : st = As.reverse ++ rest) (hW : (rest.map fun v => v.category).sum ≤ 8) (hfc : cells + 0 ≤ R.cells ∧ slots + 0 ≤ R.slots) (hdg : decode cc pc = .ok (.invokestatic idx, 3))
    (kk : ∀ (H1 : Heap) (locs1 : List Loc), H1.size = H.size → e_P X ad kd sp v' H1 → va_S (e_A z0) H0 H1 locs1 → W p l e R s m args below meth c H1 locs1 cells slots Q (F0 m (pc + 3) ls (ov.toList ++ rest))) : W p l e R s m args below meth c H locs cells slots Q (F0 m pc ls st) :=
  e_runMz (va_runS (As := As) (rest := rest) ⟨hx, hb, hml, hown, hts⟩ hM (cw.use hts rfl rfl hf hlo) ⟨fun a U g mk q => ⟨q.1, q.2.call g mk a⟩, fun U hU hW => ⟨rfl, by rw [hU]; exact hz, by rw [hU]; exact hP, hI, hK.warm hW⟩⟩ rfl hn hls hst (lv_room hW) hdg hfc) hz hsz hS kk
end EA

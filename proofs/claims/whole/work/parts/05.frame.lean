/-! THE WORLD BY NAMES: every cell that class, reference and law hold has a name, a number; kd says its kind (0: it isn't there), ad its address, v its numbers, sp the sizes of the lists. Names: 0 Stepscript, 1 dancers, 2 lifts (lists), 3 told, 4 plans, 5 6 7 its rows, 8 9 the lists' arrays, 20 + 7 i a dancer (+1 columns, +2 its moves, +3 its places, +4 rows, +5, +6), 80 + i a lift, 100 StepscriptModel, 101 .. 113 its arrays, 120 the law's own array -/
abbrev eD : Type := va_G × (Nat → ClassId)
abbrev eV : Type := Nat → Nat → Int32
def e_tys (X : eD) : List (ClassId × FieldType) := [(X.2 0, .int), (X.2 1, .object "java/lang/Object"), (X.2 2, .array .int), (X.2 3, .long)]
def e_set (v : eV) (n k : Nat) (x : Int32) : eV := fun m => if m = n then upd (v n) k x else v m
def e_rr (x : Int32) (a : Nat) : Value := if x = 0 then .null else .ref a
def e_sh (X : eD) (ad : Nat → Nat) (sp : Nat → Nat) (v : eV) (k n : Nat) : va_E := match k with
  | 1 => .inr (3, [.ref (ad (n + 1)), .ref (ad (n + 4)), .int (v n 2), .int (v n 3)])
  | 2 => .inr (5, [.int (v n 0), .ref (ad (n + 1)), .ref (ad (n + 2))])
  | 4 => .inr (4, [.int (v n 0), .int (v n 1), .int (v n 2), .int (v n 3), .int (v n 4)])
  | 5 => .inr (6, [.ref (ad 1), .ref (ad 2), .ref (ad 3), .ref (ad 4), .int (v n 4)])
  | 6 => .inr (2, [.int (v n 0), .ref (ad (sp 5)), .int (nI (sp 0))])
  | 7 => .inl (X.2 1, sp 2, .inr (.inr (.inr (.inr (fun j => if j < sp 7 then some (ad (20 + 7 * j)) else none)))))
  | 8 => .inr (2, [.int (v n 0), .ref (ad (sp 6)), .int (nI (sp 1))])
  | 9 => .inl (X.2 1, sp 3, .inr (.inr (.inr (.inr (fun j => if j < sp 8 then some (ad (80 + j)) else none)))))
  | 16 => .inl (X.2 1, sp 4, .inr (.inr (.inr (.inr (fun j => if j < sp 9 then some (ad (80 + j)) else none)))))
  | 3 => .inr (5, [.int (v n 0), e_rr (v n 21) (ad (n + 1)), e_rr (v n 22) (ad (n + 2))])
  | 13 => .inr (3, [e_rr (v n 21) (ad (n + 1)), e_rr (v n 22) (ad (n + 4)), .int (v n 2), .int (v n 3)])
  | 15 => .inr (2, [.int (v n 0), e_rr (v n 21) (ad 11), .int (v n 2)])
  | 18 => .inr (6, [e_rr (v n 21) (ad 1), e_rr (v n 22) (ad 2), e_rr (v n 23) (ad 3), e_rr (v n 24) (ad 4), .int (v n 4)])
  | 19 => .inr (7, [e_rr (v n 20) (ad 101), e_rr (v n 21) (ad 102), e_rr (v n 22) (ad 103), e_rr (v n 23) (ad 104), .int (v n 4), e_rr (v n 24) (ad 105), e_rr (v n 25) (ad 106), e_rr (v n 26) (ad 107), e_rr (v n 27) (ad 108), e_rr (v n 28) (ad 109), e_rr (v n 29) (ad 110), e_rr (v n 30) (ad 111), .int (v n 12), e_rr (v n 31) (ad 112), e_rr (v n 32) (ad 113), .int (v n 15), .int (v n 16)])
  | 10 => .inl (X.2 2, 3, .inr (.inr (.inr (.inr (fun j => if j < 3 then some (ad (5 + j)) else none)))))
  | 12 => .inr (7, [.ref (ad 101), .ref (ad 102), .ref (ad 103), .ref (ad 104), .int (v n 4), .ref (ad 105), .ref (ad 106), .ref (ad 107), .ref (ad 108), .ref (ad 109), .ref (ad 110), .ref (ad 111), .int (v n 12), .ref (ad 112), .ref (ad 113), .int (v n 15), .int (v n 16)])
  | 17 => .inl (X.2 3, 1, .inr (.inl (fun _ => (v n 0).toInt64)))
  | m + 20 => .inl (X.2 0, m, .inl (v n))
  | _ => .inl (X.2 0, 0, .inl (v n))
def e_P (X : eD) (ad kd sp : Nat → Nat) (v : eV) (H : Heap) : Prop := ∀ n, kd n ≠ 0 → va_at X.1 vwCl (ad n, e_sh X ad sp v (kd n) n) H
def e_I (z0 : Nat) (ad kd : Nat → Nat) : Prop := (∀ n m, kd n ≠ 0 → kd m ≠ 0 → ad n = ad m → n = m) ∧ ∀ n, kd n ≠ 0 → z0 ≤ ad n
def e_S (X : eD) (U : State) : Prop := va_K X.1 vwCl (e_tys X) U ∧ va_Nw (.methodLinkNest RX2 38 yX3_isMove RX3) U ∧ va_Nw (.methodLinkNest RX0 38 yX3_isOnStage RX3) U
def e_W (X : eD) (z0 : Nat) (ad kd sp : Nat → Nat) (v : eV) (U : State) : Prop := z0 ≤ U.heap.size ∧ e_P X ad kd sp v U.heap ∧ e_I z0 ad kd ∧ e_S X U
abbrev e_A (z0 : Nat) : Nat → Prop := fun q => z0 ≤ q
def e_rm (d mc ms : Nat) : Room := { frames := d, cells := mc, slots := ms, locals := 60 * d }
theorem e_S.warm {X : eD} {s U : State} (h : e_S X s) (hW : s.WarmedH U.vm) : e_S X U := ⟨va_K.moved hW.alike h.1, va_Nw.warmM hW h.2.1, va_Nw.warmM hW h.2.2⟩
theorem e_S.call {X : eD} {U : State} (h : e_S X U) (g : JFrame) (mk : MethodId) (a : Array Value) : e_S X (U.calling g mk a) := ⟨va_K.moved (u := U) (U := U.calling g mk a) (Vm.Alike.refl U.vm) h.1, va_Nw.same rfl (u := U) (U := U.calling g mk a) rfl h.2.1, va_Nw.same rfl (u := U) (U := U.calling g mk a) rfl h.2.2⟩
theorem e_W.call {X : eD} {z0 : Nat} {ad kd sp : Nat → Nat} {v : eV} {U : State} (h : e_W X z0 ad kd sp v U) (g : JFrame) (mk : MethodId) (a : Array Value) : e_W X z0 ad kd sp v (U.calling g mk a) := ⟨h.1, h.2.1, h.2.2.1, h.2.2.2.call g mk a⟩
theorem e_one {X : eD} {ad kd sp : Nat → Nat} {v : eV} {H : Heap} (hP : e_P X ad kd sp v H) {n K : Nat} (hk : kd n = K) (h0 : K ≠ 0) : va_P X.1 vwCl [(ad n, e_sh X ad sp v K n)] H := by
  intro k q hq
  match k, hq with
  | 0, hq =>
    cases hq
    subst hk
    exact hP n h0
  | k + 1, hq => simp at hq
theorem e_P.kept {X : eD} {ad kd sp : Nat → Nat} {v : eV} {H H1 : Heap} (hP : e_P X ad kd sp v H) (hq : ∀ q : Nat, q < H.size → (∃ n, kd n ≠ 0 ∧ ad n = q) → H1[q]? = H[q]?) : e_P X ad kd sp v H1 := fun n hn => (hP n hn).kept (hq _ (hP n hn).lt ⟨n, hn, rfl⟩)
/-- the shape of a cell that a write at n doesn't touch -/
theorem e_sh_ne {X : eD} {ad sp : Nat → Nat} {v : eV} {n k m K : Nat} {x : Int32} (h : m ≠ n) : e_sh X ad sp (e_set v n k x) K m = e_sh X ad sp v K m := by
  have e : e_set v n k x m = v m := by unfold e_set; rw [if_neg h]
  unfold e_sh
  rw [e]
theorem e_P.put {X : eD} {z0 : Nat} {ad kd sp : Nat → Nat} {v : eV} {H H1 : Heap} (hP : e_P X ad kd sp v H) (hI : e_I z0 ad kd) {n k : Nat} {x : Int32} (h0 : kd n ≠ 0) (he : va_at X.1 vwCl (ad n, e_sh X ad sp (e_set v n k x) (kd n) n) H1) (oq : ∀ q : Nat, q ≠ ad n → H1[q]? = H[q]?) : e_P X ad kd sp (e_set v n k x) H1 := by
  intro m hm
  by_cases h : m = n
  · subst h
    exact he
  · rw [e_sh_ne h]
    exact (hP m hm).kept (oq _ (fun z => h (hI.1 m n hm h0 z)))
section EW
variable {p : Program} {l : Launch} {e : Env} {R : Room} {s : State} {m : MethodId} {args : Array Value} {below : List Frame} {meth : Method} {c : Code} {H : Heap} {locs : List Loc} {cells slots : Nat} {Q : State → Prop}
variable {cc : ByteArray} {pc : Nat} {ls : Array Slot} {rest : List Value} {X : eD} {z0 : Nat} {ad kd sp : Nat → Nat} {v : eV} {H0 : Heap}
/-- a number on the stack by another name -/
theorem e_nrm {x y : Int32} (h : x = y) (k : W p l e R s m args below meth c H locs cells slots Q (F0 m pc ls (.int y :: rest))) : W p l e R s m args below meth c H locs cells slots Q (F0 m pc ls (.int x :: rest)) := h ▸ k
theorem e_getf (hexec : p.tables.exec = Jvm.exec) (hb : c.code = cc) (hts : ∀ w ∈ AW, w.before args s = true) {own ref C : String} {T : u_T} {N ci index : Nat} (hin : ∀ w ∈ u_ws C T N, w ∈ AW) (hown : s.vm.findClass own = some m.cls) (hK : e_S X s) (hP : e_P X ad kd sp v H) (n K : Nat) (hk : kd n = K) (h0 : K ≠ 0) {fs : List Value} (he : e_sh X ad sp v K n = .inr (ci, fs)) (hc : vwCl[ci]? = some (C, T, N)) (k : Nat) (hkN : k < N) (hlink : Cond.fieldLink own index ref (T k).2.1 (T k).2.2.1 ∈ AW) (hsame : ∀ x, s.fieldFound? (T k).1 (T k).2.1 (T k).2.2.1 = some x → s.fieldFound? ref (T k).2.1 (T k).2.2.1 = some x) {w : Value} (hv : fs[k]? = some w) (hdg : decode cc pc = .ok (.getfield index, 3))
    (kk : W p l e R s m args below meth c H locs cells slots Q (F0 m (pc + 3) ls (w :: rest))) : W p l e R s m args below meth c H locs cells slots Q (F0 m pc ls (.ref (ad n) :: rest)) :=
  va_get (D := X.1) (cl := vwCl) (tys := e_tys X) hexec hb hts hin hown hK.1 (ws := [(ad n, .inr (ci, fs))]) (by have h := e_one hP hk h0; rw [he] at h; exact h) 0 rfl hc k hkN (hts _ hlink) hsame hv hdg kk
/-- an int array's place, by its number -/
theorem e_iald (hexec : p.tables.exec = Jvm.exec) (hb : c.code = cc) (hK : e_S X s) (hP : e_P X ad kd sp v H) (n N : Nat) (hk : kd n = N + 20) {i : Int32} (j : Nat) (hi : i = nI j) (hj : j < N) (hN : N < 2 ^ 31) (hdg : decode cc pc = .ok (.iaload, 1))
    (kk : W p l e R s m args below meth c H locs cells slots Q (F0 m (pc + 1) ls (.int (v n j) :: rest))) : W p l e R s m args below meth c H locs cells slots Q (F0 m pc ls (.int i :: .ref (ad n) :: rest)) := by
  subst hi
  refine va_iald (D := X.1) (cl := vwCl) (tys := e_tys X) (cA := X.2 0) (n := N) (f := v n) hexec hb hK.1 (ws := [(ad n, e_sh X ad sp v (N + 20) n)]) (e_one hP hk (by omega)) 0 0 rfl rfl (vp_in_nI hj hN) hdg ?_
  rw [nI_clamp (by omega)]
  exact kk
theorem e_iast (hexec : p.tables.exec = Jvm.exec) (hb : c.code = cc) (hK : e_S X s) (hP : e_P X ad kd sp v H) (hI : e_I z0 ad kd) (hS : va_S (e_A z0) H0 H locs) (n N : Nat) (hk : kd n = N + 20) {i x : Int32} (j : Nat) (hi : i = nI j) (hj : j < N) (hN : N < 2 ^ 31) (hdg : decode cc pc = .ok (.iastore, 1))
    (kk : ∀ (H1 : Heap) (locs1 : List Loc), H1.size = H.size → e_P X ad kd sp (e_set v n j x) H1 → va_S (e_A z0) H0 H1 locs1 → W p l e R s m args below meth c H1 locs1 cells slots Q (F0 m (pc + 1) ls rest)) : W p l e R s m args below meth c H locs cells slots Q (F0 m pc ls (.int x :: .int i :: .ref (ad n) :: rest)) := by
  subst hi
  have hn0 : kd n ≠ 0 := by rw [hk]; omega
  have hat : H[ad n]? = some (vp_cell (X.2 0) (N, .inl (v n))) := by have h := hP n hn0; rw [hk] at h; exact h
  refine W.iast hexec hb hat ((hK.1.2 0 _ rfl).1 N (fun j => .int (v n j))) (fun q => by cases q) (by show ¬ (_ ∨ (arrV _ _ _).slots.size ≤ _); rw [arrV_size]; exact vp_in_nI hj hN) rfl rfl hdg fun H1 e1 z oq => ?_
  refine kk H1 _ z (hP.put hI hn0 ?_ oq) (hS.put z oq (hI.2 n hn0))
  rw [hk]
  show H1[ad n]? = some (vp_cell (X.2 0) (N, .inl (e_set v n j x n)))
  rw [e1, vp_cell_i, vp_cell_i, arrV_store, nI_clamp (by omega)]
  congr 2
  funext q
  unfold e_set
  rw [if_pos rfl]
  by_cases hq : q = j
  · subst hq
    simp [updV, upd]
  · simp [updV, upd, hq]
theorem e_putf (hexec : p.tables.exec = Jvm.exec) (hb : c.code = cc) (hts : ∀ w ∈ AW, w.before args s = true) {own ref C : String} {T : u_T} {N ci index : Nat} (hin : ∀ w ∈ u_ws C T N, w ∈ AW) (ty0 : Nat → FieldType) (hty : ∀ k, k < N → parseFieldDescriptor (T k).2.2.1 = some (ty0 k)) (hnm : ∀ a, a < N → ∀ b, b < N → a ≠ b → (T a).2.1 ≠ (T b).2.1) (hown : s.vm.findClass own = some m.cls) (hK : e_S X s) (hP : e_P X ad kd sp v H) (hI : e_I z0 ad kd) (hS0 : va_S (e_A z0) H0 H locs) (n K : Nat) (hk : kd n = K) (h0 : K ≠ 0) {fs : List Value} (he : e_sh X ad sp v K n = .inr (ci, fs)) (hc : vwCl[ci]? = some (C, T, N)) (k : Nat) (hkN : k < N) (hlink : Cond.fieldLink own index ref (T k).2.1 (T k).2.2.1 ∈ AW) (hsame : ∀ x, s.fieldFound? (T k).1 (T k).2.1 (T k).2.2.1 = some x → s.fieldFound? ref (T k).2.1 (T k).2.2.1 = some x) (hfin : (T k).2.2.2 = false) {ty : FieldType} {x : Int32} (hd : parseFieldDescriptor (T k).2.2.1 = some ty) (hnr : narrow ty (.int x) = .int x) (hfit : fits ty (.int x) = true) (hl : k < fs.length) (he' : e_sh X ad sp (e_set v n k x) K n = .inr (ci, fs.set k (.int x))) (hdg : decode cc pc = .ok (.putfield index, 3))
    (kk : ∀ (H1 : Heap) (locs1 : List Loc), H1.size = H.size → e_P X ad kd sp (e_set v n k x) H1 → va_S (e_A z0) H0 H1 locs1 → W p l e R s m args below meth c H1 locs1 cells slots Q (F0 m (pc + 3) ls rest)) : W p l e R s m args below meth c H locs cells slots Q (F0 m pc ls (.int x :: .ref (ad n) :: rest)) := by
  have hn0 : kd n ≠ 0 := by rw [hk]; exact h0
  have hap := va_apart (D := X.1) (cl := vwCl) (tys := e_tys X) (own := own) hts hin ty0 hty hnm hK.1 hc
  have hat := hP n hn0
  rw [hk, he] at hat
  obtain ⟨r, h1, cell, q1, q2, q3, q4⟩ := hat
  have hr : r = (C, T, N) := Option.some.inj (h1.symm.trans hc)
  subst hr
  obtain ⟨hSl, hfc, kC, hkC, hkind⟩ := hK.1.1 ci _ hc
  obtain ⟨cf, kf, fi, f, hi, hsl⟩ := hSl k hkN
  have hlay := hts _ (hin _ (u_in_lay hkN))
  unfold u_lay at hlay
  rw [if_neg (by rw [hfin]; decide)] at hlay
  have hst := (u_facts hfc hkC (u_lays hts hin hkN) hi).1
  have h6 := u_store hfc hkC hkind hlay hi hd hnr hfit
  refine W.putK hexec hb (f := f) ⟨hown, hts _ hlink, ⟨_, _, _, hsame _ hi⟩, hst⟩ (by rw [q2]; exact h6) q1 q3 (by rw [hsl]; exact k2_hasslot (q4 k hkN)) rfl rfl hdg fun H' e1 e2 e3 => ?_
  rw [hsl] at e1
  refine kk H' _ e2 (hP.put hI hn0 ?_ e3) (hS0.put e2 e3 (hI.2 n hn0))
  rw [hk, he']
  exact ⟨_, hc, t_OB.to (V := updV (vp_V fs) k (.int x)) ⟨_, e1, q2, q3, t_set q4 hap hkN (.int x)⟩ (fun j _ => vp_updV_set hl (.int x) j)⟩
end EW
/-! METHODS THAT WRITE NOTHING: the answer is 'val', the heap is as before -/
def bI (b : Bool) : Int32 := if b = true then 1 else 0
theorem bI_0 {b : Bool} : bI b = 0 ↔ b = false := by cases b <;> simp [bI]
theorem bI_n0 {b : Bool} : ¬ bI b = 0 ↔ b = true := by cases b <;> simp [bI]
theorem bI_nar (b : Bool) : narrow .boolean (.int (bI b)) = .int (bI b) := by cases b <;> rfl
theorem bI_t : bI true = 1 := rfl
theorem bI_f : bI false = 0 := rfl
def eS (ov : Option Value) : Array Value → State → Outcome → State → Prop := fun _ st o t => o = .returned ov ∧ t.heap = st.heap
abbrev ePu (l : Launch) (y : MethodName) (b : ByteArray) (n : Nat) (r : Option FieldType) (d : Nat) (av : List Value) (B : State → Prop) (ov : Option Value) : Prop := Met l y (.code y b n r :: AW) (e_rm d 0 0) (va_Pc av B) (eS ov) 0 0 (fun _ => False)
theorem e_pureI {l : Launch} {y : MethodName} {cc : ByteArray} {n d : Nat} {ty : FieldType} {av : List Value} {B : State → Prop} {val : Int32} (hy : plainName y.cls = true) (hav : (lg_sl av).length ≤ n) (hn : narrow ty (.int val) = .int val)
    (body : ∀ (p : Program) (e : Env) (s : State) (m : MethodId) (args : Array Value) (below : List Frame) (meth : Method) (c : Code), p.tables.exec = Jvm.exec → c.code = cc → c.maxLocals = n → s.vm.findClass y.cls = some m.cls → (∀ w ∈ AW, w.before args s = true) → B s → ∀ Q : State → Prop, (∀ (pc : Nat) (ls : Array Slot), decode cc pc = .ok (.ireturn, 1) → W p l e (e_rm d 0 0) s m args below meth c s.heap [] 0 0 Q (F0 m pc ls [.int val])) → ∀ ls : Array Slot, lv_has ls n (lv_args 0 av) → W p l e (e_rm d 0 0) s m args below meth c s.heap [] 0 0 Q (F0 m 0 ls [])) : ePu l y cc n (some ty) d av B (some (.int val)) := by
  refine Met.ofW (cc := cc) (maxL := n) (ret := some ty) hy rfl ?_
  intro p e s m args below meth c s₁ Bd hml hv
  obtain ⟨rfl, hB⟩ := hv
  have hts := atoms_spec (ws := .code y cc n (some ty) :: AW) Bd.pre
  have hlocks := Bd.notSynchronized
  rw [lg_entry_eq]
  exact body p e s m _ below meth c Bd.exec Bd.bytes hml (findClass_of_methodNamed Bd.named) (fun w hw => hts w (List.mem_cons_of_mem _ hw)) hB _ (fun pc ls hd => W.zret Bd.exec Bd.bytes Bd.returns hn (fun t ht _ => ⟨rfl, ht⟩) (fun _ h => by cases h) hd hlocks) _ (lv_entry av hav)
theorem e_pureR {l : Launch} {y : MethodName} {cc : ByteArray} {n d : Nat} {ty : FieldType} {av : List Value} {B : State → Prop} {val : Nat} (hy : plainName y.cls = true) (hav : (lg_sl av).length ≤ n) (hrt : (∃ n, ty = .object n) ∨ ∃ t, ty = .array t)
    (body : ∀ (p : Program) (e : Env) (s : State) (m : MethodId) (args : Array Value) (below : List Frame) (meth : Method) (c : Code), p.tables.exec = Jvm.exec → c.code = cc → c.maxLocals = n → s.vm.findClass y.cls = some m.cls → (∀ w ∈ AW, w.before args s = true) → B s → ∀ Q : State → Prop, (∀ (pc : Nat) (ls : Array Slot), decode cc pc = .ok (.areturn, 1) → W p l e (e_rm d 0 0) s m args below meth c s.heap [] 0 0 Q (F0 m pc ls [.ref val])) → ∀ ls : Array Slot, lv_has ls n (lv_args 0 av) → W p l e (e_rm d 0 0) s m args below meth c s.heap [] 0 0 Q (F0 m 0 ls [])) : ePu l y cc n (some ty) d av B (some (.ref val)) := by
  refine Met.ofW (cc := cc) (maxL := n) (ret := some ty) hy rfl ?_
  intro p e s m args below meth c s₁ Bd hml hv
  obtain ⟨rfl, hB⟩ := hv
  have hts := atoms_spec (ws := .code y cc n (some ty) :: AW) Bd.pre
  have hlocks := Bd.notSynchronized
  rw [lg_entry_eq]
  exact body p e s m _ below meth c Bd.exec Bd.bytes hml (findClass_of_methodNamed Bd.named) (fun w hw => hts w (List.mem_cons_of_mem _ hw)) hB _ (fun pc ls hd => W.aret Bd.exec Bd.bytes Bd.returns hrt (Or.inr ⟨_, rfl⟩) (fun t ht _ => ⟨rfl, ht⟩) (fun _ h => by cases h) hd hlocks) _ (lv_entry av hav)
/-- the words of a call -/
def e_cwV (own : String) (idx : Nat) (C : String) (y : MethodName) (b : ByteArray) (n : Nat) (r : Option FieldType) (k : Nat) : Prop := Cond.methodLink own idx y ∈ AW ∧ Cond.instanceMethod y ∈ AW ∧ Cond.selects C y y ∈ AW ∧ Cond.initialized C ∈ AW ∧ Cond.code y b n r ∈ AW ∧ y.cls = C ∧ y.cls ≠ "java/lang/invoke/MethodHandle" ∧ y.cls ≠ "java/lang/invoke/VarHandle" ∧ (parseMethodDescriptor y.desc).map (fun d => d.parameters.length) = some k
def e_cwS (own : String) (idx : Nat) (y : MethodName) (b : ByteArray) (n : Nat) (r : Option FieldType) (k : Nat) : Prop := Cond.methodLink own idx y ∈ AW ∧ Cond.static y ∈ AW ∧ Cond.initialized y.cls ∈ AW ∧ Cond.code y b n r ∈ AW ∧ y.cls ≠ "java/lang/invoke/MethodHandle" ∧ y.cls ≠ "java/lang/invoke/VarHandle" ∧ (parseMethodDescriptor y.desc).map (fun d => d.parameters.length) = some k
theorem e_cwV.use {own : String} {idx : Nat} {C : String} {y : MethodName} {b : ByteArray} {n : Nat} {r : Option FieldType} {k : Nat} (h : e_cwV own idx C y b n r k) {s : State} {args : Array Value} {R rm : Room} {mc ms : Nat} (hts : ∀ w ∈ AW, w.before args s = true) (h1 : rm.cells = mc) (h2 : rm.slots = ms) (h3 : rm.frames + 1 ≤ R.frames) (h4 : 8 + (n + 11) + rm.locals ≤ R.locals) : CallW R s args own C idx y b n r (.code y b n r :: AW) rm mc ms k := by
  obtain ⟨a1, a2, a3, a4, a5, rfl, a7, a8, a9⟩ := h
  exact ⟨callB_of k hts (aw_in a5) rfl h1 h2 (hts _ a4) (hts _ a1) ⟨a7, a8, a9⟩ ⟨h3, h4⟩, hts _ a2, hts _ a3⟩
theorem e_cwS.use {own : String} {idx : Nat} {y : MethodName} {b : ByteArray} {n : Nat} {r : Option FieldType} {k : Nat} (h : e_cwS own idx y b n r k) {s : State} {args : Array Value} {R rm : Room} {mc ms : Nat} (hts : ∀ w ∈ AW, w.before args s = true) (h1 : rm.cells = mc) (h2 : rm.slots = ms) (h3 : rm.frames + 1 ≤ R.frames) (h4 : 8 + (n + 11) + rm.locals ≤ R.locals) : CallB R s args own idx y b n r (.code y b n r :: AW) rm mc ms k ∧ (Cond.static y).before args s = true := by
  obtain ⟨a1, a2, a4, a5, a7, a8, a9⟩ := h
  exact ⟨callB_of k hts (aw_in a5) rfl h1 h2 (hts _ a4) (hts _ a1) ⟨a7, a8, a9⟩ ⟨h3, h4⟩, hts _ a2⟩
section EC
variable {p : Program} {l : Launch} {e : Env} {R : Room} {s : State} {m : MethodId} {args : Array Value} {below : List Frame} {meth : Method} {c : Code} {H : Heap} {locs : List Loc} {cells slots : Nat} {Q : State → Prop}
variable {cc : ByteArray} {pc nL : Nat} {ls : Array Slot} {rest st : List Value} {X : eD} {z0 : Nat} {ad kd sp : Nat → Nat} {v : eV}
theorem e_runS {ov : Option Value} {a : Array Value} {st0 : List Value} (hr : va_Run p l e R s m args below meth c H locs cells slots 0 0 (F0 m pc ls st0) rest (eS ov a) (fun _ => False))
    (kk : W p l e R s m args below meth c H locs cells slots Q (F0 m (pc + 3) ls (ov.toList ++ rest))) : W p l e R s m args below meth c H locs cells slots Q (F0 m pc ls st0) := by
  intro T hT X
  obtain ⟨v, st₀, t, T', L, h0, X', hL, e1, -, ⟨hv, hh⟩, st⟩ := hr T hT X
  cases hv
  obtain ⟨t2, a1, b1⟩ := kk T' (by rw [e1, hh, h0]) (Stand.forget X' (fun q h => (hL q h).elim))
  exact ⟨t2, st t2 a1, b1⟩
theorem e_recv (hK : e_S X s) (hP : e_P X ad kd sp v H) {n K : Nat} (hk : kd n = K) (h0 : K ≠ 0) {ci : Nat} {fs : List Value} (he : e_sh X ad sp v K n = .inr (ci, fs)) {C : String} {T : u_T} {N : Nat} (hc : vwCl[ci]? = some (C, T, N)) : ∃ cell : Cell, H[ad n]? = some cell ∧ cell.vm.isStatics = false ∧ s.vm.findClass C = some cell.cls := by
  have h := e_one hP hk h0
  rw [he] at h
  exact va_recv hK.1 h hc (q0 := 0) rfl
/-- a call of an instance method that writes nothing -/
theorem e_cV (hx : p.tables.exec = Jvm.exec) (hb : c.code = cc) (hml : c.maxLocals = nL) {own : String} (hown : s.vm.findClass own = some m.cls) (hts : ∀ w ∈ AW, w.before args s = true) {y : MethodName} {b : ByteArray} {n idx k d : Nat} {r : Option FieldType} {C : String} {As : List Value} {ov : Option Value} (nm : Nat) (hM : ePu l y b n r d (.ref (ad nm) :: As) (e_W X z0 ad kd sp v) ov) (cw : e_cwV own idx C y b n r k) (hf : d + 1 ≤ R.frames) (hlo : 8 + (n + 11) + 60 * d ≤ R.locals) (hz : z0 ≤ H.size) (hP : e_P X ad kd sp v H) (hI : e_I z0 ad kd) (hK : e_S X s) {K : Nat} (hk : kd nm = K) (h0 : K ≠ 0) {ci : Nat} {fs : List Value} (he : e_sh X ad sp v K nm = .inr (ci, fs)) {T : u_T} {N : Nat} (hc : vwCl[ci]? = some (C, T, N)) (hn : As.length = k) (hsz : ls.size = nL) (hst : st = As.reverse ++ .ref (ad nm) :: rest) (hW : (rest.map fun v => v.category).sum ≤ 8) (hfc : cells + 0 ≤ R.cells ∧ slots + 0 ≤ R.slots) (hdg : decode cc pc = .ok (.invokevirtual idx, 3))
    (kk : W p l e R s m args below meth c H locs cells slots Q (F0 m (pc + 3) ls (ov.toList ++ rest))) : W p l e R s m args below meth c H locs cells slots Q (F0 m pc ls st) :=
  e_runS (va_runV (As := As) (rest := rest) ⟨hx, hb, hml, hown, hts⟩ hM (cw.use hts rfl rfl hf hlo) ⟨fun a U g mk q => ⟨q.1, q.2.call g mk a⟩, e_recv hK hP hk h0 he hc, fun U hU hW => ⟨rfl, by rw [hU]; exact hz, by rw [hU]; exact hP, hI, hK.warm hW⟩⟩ rfl hn hsz hst (lv_room hW) hdg hfc) kk
theorem e_cS (hx : p.tables.exec = Jvm.exec) (hb : c.code = cc) (hml : c.maxLocals = nL) {own : String} (hown : s.vm.findClass own = some m.cls) (hts : ∀ w ∈ AW, w.before args s = true) {y : MethodName} {b : ByteArray} {n idx k d : Nat} {r : Option FieldType} {As : List Value} {ov : Option Value} (hM : ePu l y b n r d As (e_W X z0 ad kd sp v) ov) (cw : e_cwS own idx y b n r k) (hf : d + 1 ≤ R.frames) (hlo : 8 + (n + 11) + 60 * d ≤ R.locals) (hz : z0 ≤ H.size) (hP : e_P X ad kd sp v H) (hI : e_I z0 ad kd) (hK : e_S X s) (hn : As.length = k) (hsz : ls.size = nL) (hst : st = As.reverse ++ rest) (hW : (rest.map fun v => v.category).sum ≤ 8) (hfc : cells + 0 ≤ R.cells ∧ slots + 0 ≤ R.slots) (hdg : decode cc pc = .ok (.invokestatic idx, 3))
    (kk : W p l e R s m args below meth c H locs cells slots Q (F0 m (pc + 3) ls (ov.toList ++ rest))) : W p l e R s m args below meth c H locs cells slots Q (F0 m pc ls st) :=
  e_runS (va_runS (As := As) (rest := rest) ⟨hx, hb, hml, hown, hts⟩ hM (cw.use hts rfl rfl hf hlo) ⟨fun a U g mk q => ⟨q.1, q.2.call g mk a⟩, fun U hU hW => ⟨rfl, by rw [hU]; exact hz, by rw [hU]; exact hP, hI, hK.warm hW⟩⟩ rfl hn hsz hst (lv_room hW) hdg hfc) kk
end EC

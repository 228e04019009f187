section EH
variable {p : Program} {l : Launch} {e : Env} {R : Room} {s : State} {m : MethodId} {args : Array Value} {below : List Frame} {meth : Method} {c : Code} {H : Heap} {locs : List Loc} {cells slots : Nat} {Q : State → Prop}
variable {cc : ByteArray} {pc nL : Nat} {ls : Array Slot} {rest st : List Value} {X : eD} {z0 t0 mi : Nat} {ad kd sp kd' sp' : Nat → Nat} {v v' : eV} {H0 : Heap}
theorem e_cVMz (hx : p.tables.exec = Jvm.exec) (hb : c.code = cc) (hml : c.maxLocals = nL) {own : String} (hown : s.vm.findClass own = some m.cls) (hts : ∀ w ∈ AW, w.before args s = true) {y : MethodName} {b : ByteArray} {n idx k d : Nat} {r : Option FieldType} {C : String} {As : List Value} {ov : Option Value} (nm : Nat) (hM : eMu l y b n r d (.ref (ad nm) :: As) X z0 ad kd sp v ov v') (cw : e_cwV own idx C y b n r k) (hf : d + 1 ≤ R.frames) (hlo : 8 + (n + 11) + 60 * d ≤ R.locals) (hz : z0 ≤ H.size) (hsz : H.size = s.heap.size + cells) (hP : e_P X ad kd sp v H) (hI : e_I z0 ad kd) (hK : e_S X s) (hS : va_S (e_A z0) H0 H locs) {K : Nat} (hk : kd nm = K) (h0 : K ≠ 0) {ci : Nat} {fs : List Value} (he : e_sh X ad sp v K nm = .inr (ci, fs)) {T : u_T} {N : Nat} (hc : vwCl[ci]? = some (C, T, N)) (hn : As.length = k) (hls : ls.size = nL) (hst : st = As.reverse ++ .ref (ad nm) :: rest) (hW : (rest.map fun v => v.category).sum ≤ 8) (hfc : cells + 0 ≤ R.cells ∧ slots + 0 ≤ R.slots) (hdg : decode cc pc = .ok (.invokevirtual idx, 3))
    (kk : ∀ (H1 : Heap) (locs1 : List Loc), H1.size = H.size → e_P X ad kd sp v' H1 → va_S (e_A z0) H0 H1 locs1 → W p l e R s m args below meth c H1 locs1 cells slots Q (F0 m (pc + 3) ls (ov.toList ++ rest))) : W p l e R s m args below meth c H locs cells slots Q (F0 m pc ls st) :=
  e_runMz (va_runV (As := As) (rest := rest) ⟨hx, hb, hml, hown, hts⟩ hM (cw.use hts rfl rfl hf hlo) ⟨fun a U g mk q => ⟨q.1, q.2.call g mk a⟩, e_recv hK hP hk h0 he hc, fun U hU hW => ⟨rfl, by rw [hU]; exact hz, by rw [hU]; exact hP, hI, hK.warm hW⟩⟩ rfl hn hls hst (lv_room hW) hdg hfc) hz hsz hS kk
def e_ad4 (ad : Nat → Nat) (q : Nat) (r : Nat → Nat) : Nat → Nat := fun m => if m = 4 then q else if m = 5 then r 0 else if m = 6 then r 1 else if m = 7 then r 2 else ad m
/-- new int[3][13]: names 4 and 5, 6, 7, over a world that holds 0, 1, 2, 3 alone -/
theorem e_mna (hexec : p.tables.exec = Jvm.exec) (hb : c.code = cc) (hts : ∀ w ∈ AW, w.before args s = true) {own : String} {index : Nat} (hown : s.vm.findClass own = some m.cls) (hcl : Cond.classLink own index "[[I" ∈ AW) (hao : va_AOA .int s) (harr : Cond.arrayClass .int ∈ AW) (hK : e_S X s) (hP : e_P X ad kd sp v H) (hI : e_I z0 ad kd) (hS : va_S (e_A z0) H0 H locs) (hz : z0 ≤ H0.size) (hkd : ∀ n, kd n ≠ 0 → n < 4) (h0 : kd 0 = 18) (h1 : kd 1 = 15) (h2 : kd 2 = 15) (h3 : kd 3 = 84) (hv : v 0 24 = 0) (hcells : cells + (1 + 3) ≤ R.cells) (hslots : slots + (3 + 3 * 13) ≤ R.slots) (hdg : decode cc pc = .ok (.multianewarray index 2, 4))
    (kk : ∀ (a1 : Nat → Nat) (H1 : Heap), (∀ m, m < 4 ∨ 7 < m → a1 m = ad m) → z0 ≤ H1.size → e_P X a1 (kup (kup (kup (kup kd 4 10) 5 33) 6 33) 7 33) sp (e_z (e_z (e_z v 5) 6) 7) H1 → e_I z0 a1 (kup (kup (kup (kup kd 4 10) 5 33) 6 33) 7 33) → va_S (e_A z0) H0 H1 locs → W p l e R s m args below meth c H1 locs (cells + 1 + 3) (slots + 3 + 3 * 13) Q (F0 m (pc + 4) ls (.ref (a1 4) :: rest))) : W p l e R s m args below meth c H locs cells slots Q (F0 m pc ls (.int 13 :: .int 3 :: rest)) := by
  have g0 := hP 0 (by rw [h0]; decide)
  have g1 := hP 1 (by rw [h1]; decide)
  have g2 := hP 2 (by rw [h2]; decide)
  have g3 := hP 3 (by rw [h3]; decide)
  refine va_mna (D := X.1) (cl := vwCl) (tys := e_tys X) (A := e_A z0) (H0 := H0) (X := [(ad 0, e_sh X ad sp v (kd 0) 0), (ad 1, e_sh X ad sp v (kd 1) 1), (ad 2, e_sh X ad sp v (kd 2) 2), (ad 3, e_sh X ad sp v (kd 3) 3)]) (L := []) (f := fun _ => .inr (0, [])) (ty := .int) (cy := X.2 0) (N' := 3) (K' := 13) (z := (13, .inl (fun _ => 0))) hexec hb hown (hts _ hcl) hao (hts _ harr) (hK.1.2 0 _ rfl).2 hK.1 ?_ ?_ hS (fun q hq => Nat.le_trans hz hq) (by decide) (by decide) (by decide) (by decide) (by decide) (by decide) (by decide) rfl rfl hcells hslots (fun c => by rw [vp_cell_i]; exact arrV_new c 13 (.int 0)) hdg ?_
  · intro k q hq
    match k, hq with
    | 0, hq => cases hq; exact g0
    | 1, hq => cases hq; exact g1
    | 2, hq => cases hq; exact g2
    | 3, hq => cases hq; exact g3
    | k + 4, hq => simp [va_pl] at hq
  · have hx : ∀ (k : Nat) (q : Nat × va_E), ([(ad 0, e_sh X ad sp v (kd 0) 0), (ad 1, e_sh X ad sp v (kd 1) 1), (ad 2, e_sh X ad sp v (kd 2) 2), (ad 3, e_sh X ad sp v (kd 3) 3)] ++ va_pl [] (fun _ => (.inr (0, []) : va_E)))[k]? = some q → k < 4 ∧ q.1 = ad k ∧ kd k ≠ 0 := by
      intro k q hq
      match k, hq with
      | 0, hq => cases hq; exact ⟨by decide, rfl, by rw [h0]; decide⟩
      | 1, hq => cases hq; exact ⟨by decide, rfl, by rw [h1]; decide⟩
      | 2, hq => cases hq; exact ⟨by decide, rfl, by rw [h2]; decide⟩
      | 3, hq => cases hq; exact ⟨by decide, rfl, by rw [h3]; decide⟩
      | k + 4, hq => simp [va_pl] at hq
    refine ⟨fun i j p q hp hq e => ?_, fun k q hq => ?_⟩
    · obtain ⟨-, e1, k1⟩ := hx i p hp
      obtain ⟨-, e2, k2⟩ := hx j q hq
      rw [e1, e2] at e
      exact hI.1 i j k1 k2 e
    · obtain ⟨-, e1, k1⟩ := hx k q hq
      rw [e1]
      exact hI.2 k k1
  intro q r cA H1 hr hrL hK' hP' hD' hS'
  have hcA : cA = X.2 2 := by
    have h1 : s.vm.findClass "[[I" = some cA := (hK'.2 4 _ rfl).2
    have h2 : s.vm.findClass "[[I" = some (X.2 2) := (hK.1.2 2 _ rfl).2
    exact Option.some.inj (h1.symm.trans h2)
  subst hcA
  have sg : ∀ k, k ≠ 0 → k < 8 → k < 8 := fun _ _ h => h
  have hlz : z0 ≤ H1.size := Nat.le_trans hz hS'.1
  have at4 := hP' 4 _ rfl
  have at5 := hP' 5 _ rfl
  have at6 := hP' 6 _ rfl
  have at7 := hP' 7 _ rfl
  have i5 : r 0 ∈ (List.range 3).map r := List.mem_map.mpr ⟨0, by decide, rfl⟩
  have i6 : r 1 ∈ (List.range 3).map r := List.mem_map.mpr ⟨1, by decide, rfl⟩
  have i7 : r 2 ∈ (List.range 3).map r := List.mem_map.mpr ⟨2, by decide, rfl⟩
  have at5 : va_at X.1 vwCl (r 0, .inl (X.2 0, (13, .inl (fun _ => 0)))) H1 := by
    have h : va_at X.1 vwCl (r 0, vr_up (fun _ => (.inr (0, []) : va_E)) ((List.range 3).map r) (.inl (X.2 0, (13, .inl (fun _ => 0)))) (r 0)) H1 := at5
    rw [vr_up_in i5] at h
    exact h
  have at6 : va_at X.1 vwCl (r 1, .inl (X.2 0, (13, .inl (fun _ => 0)))) H1 := by
    have h : va_at X.1 vwCl (r 1, vr_up (fun _ => (.inr (0, []) : va_E)) ((List.range 3).map r) (.inl (X.2 0, (13, .inl (fun _ => 0)))) (r 1)) H1 := at6
    rw [vr_up_in i6] at h
    exact h
  have at7 : va_at X.1 vwCl (r 2, .inl (X.2 0, (13, .inl (fun _ => 0)))) H1 := by
    have h : va_at X.1 vwCl (r 2, vr_up (fun _ => (.inr (0, []) : va_E)) ((List.range 3).map r) (.inl (X.2 0, (13, .inl (fun _ => 0)))) (r 2)) H1 := at7
    rw [vr_up_in i7] at h
    exact h
  have hfi : ∀ n, n < 8 → ∃ e, (([(ad 0, e_sh X ad sp v (kd 0) 0), (ad 1, e_sh X ad sp v (kd 1) 1), (ad 2, e_sh X ad sp v (kd 2) 2), (ad 3, e_sh X ad sp v (kd 3) 3)] ++ [(q, (.inl (X.2 2, 3, .inr (.inr (.inr (.inr (fun i => if i < 3 then some (r i) else none))))) : va_E))]) ++ va_pl ([] ++ (List.range 3).map r) (vr_up (fun _ => (.inr (0, []) : va_E)) ((List.range 3).map r) (.inl (X.2 0, (13, .inl (fun _ => 0))))))[n]? = some (e_ad4 ad q r n, e) := by
    intro n hn
    rcases (show n = 0 ∨ n = 1 ∨ n = 2 ∨ n = 3 ∨ n = 4 ∨ n = 5 ∨ n = 6 ∨ n = 7 by omega) with rfl | rfl | rfl | rfl | rfl | rfl | rfl | rfl <;> exact ⟨_, rfl⟩
  have hdom : ∀ n, kup (kup (kup (kup kd 4 10) 5 33) 6 33) 7 33 n ≠ 0 → n < 8 := by
    intro n hn
    by_cases h : n < 8
    · exact h
    · have : kup (kup (kup (kup kd 4 10) 5 33) 6 33) 7 33 n = kd n := by
        unfold kup
        rw [if_neg (by omega), if_neg (by omega), if_neg (by omega), if_neg (by omega)]
      rw [this] at hn
      exact absurd (hkd n hn) (by omega)
  refine kk (e_ad4 ad q r) H1 (fun m hm => ?_) hlz (fun n hn => ?_) ⟨fun a b ha hb' hab => ?_, fun a ha => ?_⟩ hS'
  · unfold e_ad4
    rw [if_neg (by omega), if_neg (by omega), if_neg (by omega), if_neg (by omega)]
  · rcases (show n = 0 ∨ n = 1 ∨ n = 2 ∨ n = 3 ∨ n = 4 ∨ n = 5 ∨ n = 6 ∨ n = 7 by have := hdom n hn; omega) with rfl | rfl | rfl | rfl | rfl | rfl | rfl | rfl
    · have h := hP' 0 _ rfl
      rw [h0] at h
      show va_at X.1 vwCl (ad 0, e_sh X (e_ad4 ad q r) sp (e_z (e_z (e_z v 5) 6) 7) (kd 0) 0) H1
      rw [h0]
      have e : e_sh X (e_ad4 ad q r) sp (e_z (e_z (e_z v 5) 6) 7) 18 0 = e_sh X ad sp v 18 0 := by
        simp [e_sh, e_z, e_ad4, e_rr, hv]
      rw [e]
      exact h
    · have h := hP' 1 _ rfl
      rw [h1] at h
      show va_at X.1 vwCl (ad 1, e_sh X (e_ad4 ad q r) sp (e_z (e_z (e_z v 5) 6) 7) (kd 1) 1) H1
      rw [h1]
      have e : e_sh X (e_ad4 ad q r) sp (e_z (e_z (e_z v 5) 6) 7) 15 1 = e_sh X ad sp v 15 1 := by
        simp [e_sh, e_z, e_ad4]
      rw [e]
      exact h
    · have h := hP' 2 _ rfl
      rw [h2] at h
      show va_at X.1 vwCl (ad 2, e_sh X (e_ad4 ad q r) sp (e_z (e_z (e_z v 5) 6) 7) (kd 2) 2) H1
      rw [h2]
      have e : e_sh X (e_ad4 ad q r) sp (e_z (e_z (e_z v 5) 6) 7) 15 2 = e_sh X ad sp v 15 2 := by
        simp [e_sh, e_z, e_ad4]
      rw [e]
      exact h
    · have h := hP' 3 _ rfl
      rw [h3] at h
      show va_at X.1 vwCl (ad 3, e_sh X (e_ad4 ad q r) sp (e_z (e_z (e_z v 5) 6) 7) (kd 3) 3) H1
      rw [h3]
      have e : e_sh X (e_ad4 ad q r) sp (e_z (e_z (e_z v 5) 6) 7) 84 3 = e_sh X ad sp v 84 3 := by
        simp [e_sh, e_z]
      rw [e]
      exact h
    · show H1[q]? = some (vp_cell (X.2 2) (3, .inr (.inr (.inr (.inr (fun j => if j < 3 then some (e_ad4 ad q r (5 + j)) else none))))))
      have h : H1[q]? = some (vp_cell (X.2 2) (3, .inr (.inr (.inr (.inr (fun i => if i < 3 then some (r i) else none)))))) := at4
      have ef : (fun i => if i < 3 then some (r i) else none) = fun j => if j < 3 then some (e_ad4 ad q r (5 + j)) else none := by
        funext j
        by_cases hj : j < 3
        · rw [if_pos hj, if_pos hj]
          rcases (show j = 0 ∨ j = 1 ∨ j = 2 by omega) with rfl | rfl | rfl <;> rfl
        · rw [if_neg hj, if_neg hj]
      rw [h, ef]
    · exact at5
    · exact at6
    · exact at7
  · obtain ⟨e1, q1⟩ := hfi a (hdom a ha)
    obtain ⟨e2, q2⟩ := hfi b (hdom b hb')
    exact hD'.1 a b _ _ q1 q2 hab
  · obtain ⟨e1, q1⟩ := hfi a (hdom a ha)
    exact hD'.2 a _ q1
end EH
def eQs (X : eD) (z0 : Nat) (ad kd' sp' : Nat → Nat) (v' : eV) : Array Value → State → Outcome → State → Prop := fun _ st o t => o = .returned none ∧ (∃ a1 : Nat → Nat, (∀ m, m < 4 ∨ 7 < m → a1 m = ad m) ∧ e_P X a1 kd' sp' v' t.heap ∧ e_I z0 a1 kd') ∧ va_F (e_A z0) st t
abbrev eSy (l : Launch) (y : MethodName) (b : ByteArray) (n : Nat) (d mc ms : Nat) (av : List Value) (X : eD) (z0 t0 mi : Nat) (ad kd sp : Nat → Nat) (v : eV) (a0 : Nat) (kd' sp' : Nat → Nat) (v' : eV) : Prop := Met l y (.code y b n none :: AW) (e_rm d mc ms) (va_Pc av (eWa X z0 t0 mi ad kd sp v a0)) (eQs X z0 ad kd' sp' v') mc ms (e_A z0)
theorem e_alcS {l : Launch} {y : MethodName} {cc : ByteArray} {n d mc ms : Nat} {av : List Value} {X : eD} {z0 t0 mi : Nat} {ad kd sp kd' sp' : Nat → Nat} {v v' : eV} {a0 : Nat} (hy : plainName y.cls = true) (hav : (lg_sl av).length ≤ n)
    (body : ∀ (p : Program) (e : Env) (s : State) (m : MethodId) (args : Array Value) (below : List Frame) (meth : Method) (c : Code), p.tables.exec = Jvm.exec → c.code = cc → c.maxLocals = n → s.vm.findClass y.cls = some m.cls → (∀ w ∈ AW, w.before args s = true) → eWa X z0 t0 mi ad kd sp v a0 s → meth.name = y.name → ∀ Q : State → Prop, (∀ (H : Heap) (locs : List Loc) (pc : Nat) (ls : Array Slot) (a1 k9 s9 : Nat → Nat) (w : eV) (k u : Nat), k9 = kd' → s9 = sp' → w = v' → k ≤ mc → u ≤ ms → (∀ m, m < 4 ∨ 7 < m → a1 m = ad m) → e_P X a1 k9 s9 w H → e_I z0 a1 k9 → va_S (e_A z0) s.heap H locs → decode cc pc = .ok (.return_, 1) → W p l e (e_rm d mc ms) s m args below meth c H locs k u Q (F0 m pc ls [])) → ∀ ls : Array Slot, lv_has ls n (lv_args 0 av) → W p l e (e_rm d mc ms) s m args below meth c s.heap [] 0 0 Q (F0 m 0 ls [])) : eSy l y cc n d mc ms av X z0 t0 mi ad kd sp v a0 kd' sp' v' := by
  refine Met.ofW (cc := cc) (maxL := n) (ret := none) hy rfl ?_
  intro p e s m args below meth c s₁ Bd hml hv
  obtain ⟨rfl, hB⟩ := hv
  have hts := atoms_spec (ws := .code y cc n none :: AW) Bd.pre
  have hlocks := Bd.notSynchronized
  rw [lg_entry_eq]
  exact body p e s m _ below meth c Bd.exec Bd.bytes hml (findClass_of_methodNamed Bd.named) (fun w hw => hts w (List.mem_cons_of_mem _ hw)) hB (name_of_methodNamed Bd.named Bd.method).1 _ (fun H locs pc ls a1 k9 s9 w k u e1 e2 e3 h1 h2 ha hP hI hS hd => by subst e1; subst e2; subst e3; exact W.widen h1 h2 (W.vret Bd.exec Bd.bytes Bd.returns (fun t ht _ => ⟨rfl, ⟨a1, ha, by rw [ht]; exact hP, hI⟩, hS.F ht⟩) hS.2.2 hd hlocks)) _ (lv_entry av hav)
def eNA (X : eD) (z0 : Nat) (ad kd' sp' : Nat → Nat) (ov : Option Value) (v' : eV) (G : Prop) : Array Value → State → Outcome → State → Prop := fun _ st o t => o = .returned ov ∧ G ∧ e_P X ad kd' sp' v' t.heap ∧ e_I z0 ad kd' ∧ va_F (e_A z0) st t
abbrev eTA (l : Launch) (y : MethodName) (b : ByteArray) (n : Nat) (r : Option FieldType) (d mc ms : Nat) (av : List Value) (X : eD) (z0 t0 mi : Nat) (ad kd sp : Nat → Nat) (v : eV) (a0 : Nat) (ov : Option Value) (kd' sp' : Nat → Nat) (v' : eV) (G : Prop) (P : String → Prop) : Prop := vx_Met l y (.code y b n r :: AW) (e_rm d mc ms) (va_Pc av (fun U => eWa X z0 t0 mi ad kd sp v a0 U ∧ e_T z0 U)) (eNA X z0 ad kd' sp' ov v' G) (eX X z0 ad kd sp v P) mc ms (e_A z0)
theorem e_thrA {l : Launch} {y : MethodName} {cc : ByteArray} {n d mc ms : Nat} {av : List Value} {X : eD} {z0 t0 mi : Nat} {ad kd sp kd' sp' : Nat → Nat} {v v' : eV} {a0 : Nat} {val : Int32} {G : Prop} {P : String → Prop} (hy : plainName y.cls = true) (hav : (lg_sl av).length ≤ n)
    (body : ∀ (p : Program) (e : Env) (s : State) (m : MethodId) (args : Array Value) (below : List Frame) (meth : Method) (c : Code), p.tables.exec = Jvm.exec → c.code = cc → c.maxLocals = n → s.vm.findClass y.cls = some m.cls → (∀ w ∈ AW, w.before args s = true) → eWa X z0 t0 mi ad kd sp v a0 s → e_T z0 s → (∀ x ∈ c.exceptionTable.toList, False) → meth.locks = false → ∀ Q : State → Prop, Q = vx_MQ below (eNA X z0 ad kd' sp' (some (.int val)) v' G) (eX X z0 ad kd sp v P) args s mc ms (e_A z0) → (∀ (H : Heap) (locs : List Loc) (pc : Nat) (ls : Array Slot) (k9 s9 : Nat → Nat) (w : eV) (r : Int32) (k u : Nat), k9 = kd' → s9 = sp' → r = val → w = v' → G → k ≤ mc → u ≤ ms → e_P X ad k9 s9 w H → e_I z0 ad k9 → va_S (e_A z0) s.heap H locs → decode cc pc = .ok (.ireturn, 1) → W p l e (e_rm d mc ms) s m args below meth c H locs k u Q (F0 m pc ls [.int r])) → ∀ ls : Array Slot, lv_has ls n (lv_args 0 av) → W p l e (e_rm d mc ms) s m args below meth c s.heap [] 0 0 Q (F0 m 0 ls [])) : eTA l y cc n (some .int) d mc ms av X z0 t0 mi ad kd sp v a0 (some (.int val)) kd' sp' v' G P := by
  refine vx_ofW (cc := cc) (maxL := n) (ret := some .int) hy rfl ?_
  intro p e s m args below meth c s₁ Bd hml hex hv
  obtain ⟨rfl, hB, hT⟩ := hv
  have hts := atoms_spec (ws := .code y cc n (some .int) :: AW) Bd.pre
  have hlocks := Bd.notSynchronized
  rw [lg_entry_eq]
  exact body p e s m _ below meth c Bd.exec Bd.bytes hml (findClass_of_methodNamed Bd.named) (fun w hw => hts w (List.mem_cons_of_mem _ hw)) hB hT hex hlocks _ rfl (fun H locs pc ls k9 s9 w r k u e1 e2 hr hw hG h1 h2 hP hI hS hd => by subst e1; subst e2; subst hr; subst hw; exact W.widen h1 h2 (vx_ret (W.iret Bd.exec Bd.bytes Bd.returns (fun t ht _ => ⟨rfl, hG, by rw [ht]; exact hP, hI, hS.F ht⟩) hS.2.2 hd hlocks))) _ (lv_entry av hav)
theorem e_pureV {l : Launch} {y : MethodName} {cc : ByteArray} {n d : Nat} {av : List Value} {B : State → Prop} (hy : plainName y.cls = true) (hav : (lg_sl av).length ≤ n)
    (body : ∀ (p : Program) (e : Env) (s : State) (m : MethodId) (args : Array Value) (below : List Frame) (meth : Method) (c : Code), p.tables.exec = Jvm.exec → c.code = cc → c.maxLocals = n → s.vm.findClass y.cls = some m.cls → (∀ w ∈ AW, w.before args s = true) → B s → ∀ Q : State → Prop, (∀ (pc : Nat) (ls : Array Slot), decode cc pc = .ok (.return_, 1) → W p l e (e_rm d 0 0) s m args below meth c s.heap [] 0 0 Q (F0 m pc ls [])) → ∀ ls : Array Slot, lv_has ls n (lv_args 0 av) → W p l e (e_rm d 0 0) s m args below meth c s.heap [] 0 0 Q (F0 m 0 ls [])) : ePu l y cc n none d av B none := by
  refine Met.ofW (cc := cc) (maxL := n) (ret := none) hy rfl ?_
  intro p e s m args below meth c s₁ Bd hml hv
  obtain ⟨rfl, hB⟩ := hv
  have hts := atoms_spec (ws := .code y cc n none :: AW) Bd.pre
  have hlocks := Bd.notSynchronized
  rw [lg_entry_eq]
  exact body p e s m _ below meth c Bd.exec Bd.bytes hml (findClass_of_methodNamed Bd.named) (fun w hw => hts w (List.mem_cons_of_mem _ hw)) hB _ (fun pc ls hd => W.vret Bd.exec Bd.bytes Bd.returns (fun t ht _ => ⟨rfl, ht⟩) (fun _ h => by cases h) hd hlocks) _ (lv_entry av hav)

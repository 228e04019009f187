/-! what a list's numbers are to the cells: who depends on which size -/
theorem e_u0 {X : eD} {ad sp : Nat → Nat} {v : eV} {m K x : Nat} (h : K ≠ 6) : e_sh X ad (upN sp 0 x) v K m = e_sh X ad sp v K m := by
  unfold e_sh
  split <;> first | rfl | exact absurd rfl h
theorem e_u5 {X : eD} {ad sp : Nat → Nat} {v : eV} {m K x : Nat} (h : K ≠ 6) : e_sh X ad (upN sp 5 x) v K m = e_sh X ad sp v K m := by
  unfold e_sh
  split <;> first | rfl | exact absurd rfl h
theorem e_u1 {X : eD} {ad sp : Nat → Nat} {v : eV} {m K x : Nat} (h : K ≠ 8) : e_sh X ad (upN sp 1 x) v K m = e_sh X ad sp v K m := by
  unfold e_sh
  split <;> first | rfl | exact absurd rfl h
theorem e_u6 {X : eD} {ad sp : Nat → Nat} {v : eV} {m K x : Nat} (h : K ≠ 8) : e_sh X ad (upN sp 6 x) v K m = e_sh X ad sp v K m := by
  unfold e_sh
  split <;> first | rfl | exact absurd rfl h
theorem e_u7 {X : eD} {ad sp : Nat → Nat} {v : eV} {m K x : Nat} (h : K ≠ 7) : e_sh X ad (upN sp 7 x) v K m = e_sh X ad sp v K m := by
  unfold e_sh
  split <;> first | rfl | exact absurd rfl h
theorem e_u8 {X : eD} {ad sp : Nat → Nat} {v : eV} {m K x : Nat} (h : K ≠ 9) : e_sh X ad (upN sp 8 x) v K m = e_sh X ad sp v K m := by
  unfold e_sh
  split <;> first | rfl | exact absurd rfl h
theorem e_u3 {X : eD} {ad sp : Nat → Nat} {v : eV} {m K x : Nat} (h : K ≠ 9) : e_sh X ad (upN sp 3 x) v K m = e_sh X ad sp v K m := by
  unfold e_sh
  split <;> first | rfl | exact absurd rfl h
theorem e_u9 {X : eD} {ad sp : Nat → Nat} {v : eV} {m K x : Nat} (h : K ≠ 16) : e_sh X ad (upN sp 9 x) v K m = e_sh X ad sp v K m := by
  unfold e_sh
  split <;> first | rfl | exact absurd rfl h
theorem kup_u {kd : Nat → Nat} {n K K' b m : Nat} (h : kup kd n K m = K') (hK : K ≠ K') (u : ∀ m, kd m = K' → m = b) : m = b := by
  by_cases e : m = n
  · subst e
    rw [kup_s] at h
    exact absurd h hK
  · have : kup kd n K m = kd m := if_neg e
    rw [this] at h
    exact u m h
theorem kup_u0 {kd : Nat → Nat} {n K m : Nat} (h : kup kd n K m = K) (u : ∀ m, kd m ≠ K) : m = n := by
  by_cases e : m = n
  · exact e
  · have : kup kd n K m = kd m := if_neg e
    rw [this] at h
    exact absurd h (u m)
theorem e_push_up {g : Nat → Nat} {n a b : Nat} (ha : a = n) (hb : b = n + 1) : (fun j => if j < b then some (g j) else none) = va_up (fun j => if j < a then some (g j) else none) n (some (g n)) := by
  subst ha
  subst hb
  funext j
  unfold va_up
  by_cases h : j = a
  · subst h
    simp
  · by_cases h2 : j < a
    · rw [if_pos (by omega), if_neg h]
      exact (if_pos h2).symm
    · rw [if_neg (by omega), if_neg h]
      exact (if_neg h2).symm
theorem e_none {g : Nat → Nat} {n : Nat} (h : n = 0) : (fun j => if j < n then some (g j) else none) = fun _ => none := by
  subst h
  funext j
  exact if_neg (by omega)
section EB
variable {p : Program} {l : Launch} {e : Env} {R : Room} {s : State} {m : MethodId} {args : Array Value} {below : List Frame} {meth : Method} {c : Code} {H : Heap} {locs : List Loc} {cells slots : Nat} {Q : State → Prop}
variable {cc : ByteArray} {pc nL : Nat} {ls : Array Slot} {rest st : List Value} {X : eD} {z0 t0 mi : Nat} {ad kd sp kd' sp' : Nat → Nat} {v v' : eV} {H0 : Heap}
/-- the ten lifts of the full array a are copied into the new one b -/
theorem e_copy (hexec : p.tables.exec = Jvm.exec) (hb : c.code = cc) (hml : c.maxLocals = ls.size) {own : String} {index : Nat} (hown : s.vm.findClass own = some m.cls) (hlink : (Cond.methodLink own index arraycopyName).before args s = true) (hnat : (Cond.native arraycopyName).before args s = true) (hstat : (Cond.static arraycopyName).before args s = true) (hini : (Cond.initialized "java/lang/System").before args s = true)
    (hK : e_S X s) (hP : e_P X ad kd sp v H) (hI : e_I z0 ad kd) (hS : va_S (e_A z0) H0 H locs) (hca : va_Nw (.castable "Stepscript$Lift" e_O) s) (a b : Nat) (ha : kd a = 9) (hkb : kd b = 16) (u16 : ∀ m, kd m = 16 → m = b) (h3 : sp 3 = 10) (h8 : sp 8 = 10) (h4 : sp 4 = 15) (h9 : sp 9 = 0) (hel : ∀ i, i < 10 → kd (80 + i) = 4)
    (hframes : 1 ≤ R.frames) (hlocals : (rest.map fun v => v.category).sum + (nativeFrameWords "java/lang/System" "arraycopy" 5 + 11) ≤ R.locals) (hdg : decode cc pc = .ok (.invokestatic index, 3))
    (kk : ∀ (H1 : Heap) (locs1 : List Loc), H1.size = H.size → e_P X ad kd (upN sp 9 10) v H1 → va_S (e_A z0) H0 H1 locs1 → W p l e R s m args below meth c H1 locs1 cells slots Q (F0 m (pc + 3) ls rest)) : W p l e R s m args below meth c H locs cells slots Q (F0 m pc ls (.int 10 :: .int 0 :: .ref (ad b) :: .int 0 :: .ref (ad a) :: rest)) := by
  have hc0 : H[ad a]? = some (vp_cell (X.2 1) (10, .inr (.inr (.inr (.inr (fun j => if j < 10 then some (ad (80 + j)) else none)))))) := by
    have h := hP a (by rw [ha]; decide)
    rw [ha] at h
    have h' : H[ad a]? = some (vp_cell (X.2 1) (sp 3, .inr (.inr (.inr (.inr (fun j => if j < sp 8 then some (ad (80 + j)) else none)))))) := h
    rw [h3, h8] at h'
    exact h'
  have hc1 : H[ad b]? = some (vp_cell (X.2 1) (15, .inr (.inr (.inr (.inr (fun _ => none)))))) := by
    have h := hP b (by rw [hkb]; decide)
    rw [hkb] at h
    have h' : H[ad b]? = some (vp_cell (X.2 1) (sp 4, .inr (.inr (.inr (.inr (fun j => if j < sp 9 then some (ad (80 + j)) else none)))))) := h
    rw [h4, e_none h9] at h'
    exact h'
  intro T hT X0
  obtain ⟨-, k0, hk0, cm0, hkk0⟩ := (hK.1.2 1 _ rfl).1 10 (fun j => va_rf (if j < 10 then some (ad (80 + j)) else none))
  obtain ⟨-, k1, hk1, cm1, hkk1⟩ := (hK.1.2 1 _ rfl).1 15 (fun j => va_rf none)
  obtain ⟨vm', X', step⟩ := X0.arraycopy hexec hown hlink hnat hstat hini (src := ad a) (dst := ad b) (cs := vp_cell (X.2 1) (10, .inr (.inr (.inr (.inr (fun j => if j < 10 then some (ad (80 + j)) else none)))))) (cd := vp_cell (X.2 1) (15, .inr (.inr (.inr (.inr (fun _ => none)))))) (srcPos := 0) (destPos := 0) (n := 10) (by rw [hT]; exact hc0) (by rw [hT]; exact hc1)
    (fun _ h => by cases h) (fun _ h => by cases h) (fun h => by cases h) (fun h => by cases h) hk0 hk1 hkk0 hkk1 rfl (by decide) (by decide) (by decide)
    (by show ¬ _ > ((arrV (X.2 1) 10 (fun j => va_rf (if j < 10 then some (ad (80 + j)) else none))).slots.size : Int); rw [arrV_size]; decide)
    (by show ¬ _ > ((arrV (X.2 1) 15 (fun j => va_rf none)).slots.size : Int); rw [arrV_size]; decide)
    (fun vm₁ hal i hi => by
      have hi : i < 10 := hi
      have e : (vp_cell (X.2 1) (10, .inr (.inr (.inr (.inr (fun j => if j < 10 then some (ad (80 + j)) else none)))))).slots.getD ((0 : Int32).toNatClampNeg + i) .null = va_rf (some (ad (80 + i))) := by
        show (arrV (X.2 1) 10 (fun j => va_rf (if j < 10 then some (ad (80 + j)) else none))).slots.getD _ _ = _
        rw [Array.getD_eq_getD_getElem?, arrV_read _ _ (by show 0 + i < 10; omega)]
        show va_rf (if 0 + i < 10 then some (ad (80 + (0 + i))) else none) = _
        rw [if_pos (by omega), Nat.zero_add]
      rw [e]
      obtain ⟨cellV, g1, g2, g3⟩ := e_recv hK hP (hel i hi) (by decide) rfl rfl
      obtain ⟨kA, comp, r1, r2, r3, -⟩ := (hK.1.2 1 _ rfl).2
      cases hk1.symm.trans r1
      cases hkk1.symm.trans r2
      obtain ⟨c0, t1, f1, f2, f3⟩ := Cond.castable_spec (va_Nw.use (A := args) rfl hca)
      have g3' : s.vm.findClass "Stepscript$Lift" = some cellV.cls := g3
      cases g3'.symm.trans f1
      cases r3.symm.trans f2
      obtain ⟨kC, hkC, -⟩ := Vm.findClass_spec g3
      obtain ⟨kE, hkE, -⟩ := Vm.findClass_spec r3
      obtain ⟨kC', hkC', -⟩ := hal.2.2 _ _ hkC
      obtain ⟨kE', hkE', -⟩ := hal.2.2 _ _ hkE
      refine ⟨rfl, cellV, (show T.heap[ad (80 + i)]? = some cellV by rw [hT]; exact g1), (fun q h => by rw [h] at g2; cases g2), ⟨kC', hkC'⟩, ?_, ?_⟩
      · exact ⟨kE', hkE'⟩
      · show vm₁.assignable _ _ = true
        rw [hal.assignable]
        exact f3)
    (g := F0 m pc ls (.int 10 :: .int 0 :: .ref (ad b) :: .int 0 :: .ref (ad a) :: rest)) rfl (by rw [hml]) (rest := rest) rfl (by rw [hb]; exact hdg) hframes (by show 2 * 0 + _ + _ ≤ _; omega)
  have e1 : copied (vp_cell (X.2 1) (10, .inr (.inr (.inr (.inr (fun j => if j < 10 then some (ad (80 + j)) else none)))))) (vp_cell (X.2 1) (15, .inr (.inr (.inr (.inr (fun _ => none)))))) 0 0 10 = vp_cell (X.2 1) (15, .inr (.inr (.inr (.inr (va_cpy (fun j => if j < 10 then some (ad (80 + j)) else none) (fun _ => none) (0 : Int32).toNatClampNeg (0 : Int32).toNatClampNeg (10 : Int32).toNatClampNeg))))) := by
    rw [vp_cell_q, vp_cell_q, vp_cell_q]
    exact va_copied (fun z => va_rf z) (X.2 1) (X.2 1) _ _ (by decide)
  have e2 : va_cpy (fun j => if j < 10 then some (ad (80 + j)) else none) (fun _ => none) (0 : Int32).toNatClampNeg (0 : Int32).toNatClampNeg (10 : Int32).toNatClampNeg = fun j => if j < 10 then some (ad (80 + j)) else none := by
    funext j
    show (if 0 ≤ j ∧ j < 0 + 10 then (if 0 + (j - 0) < 10 then some (ad (80 + (0 + (j - 0)))) else none) else none) = _
    by_cases h : j < 10
    · rw [if_pos (by omega), if_pos (by omega), if_pos h, Nat.zero_add, Nat.sub_zero]
    · rw [if_neg (by omega), if_neg h]
  rw [e1, e2] at X' step
  have hl : ad b < H.size := (Array.getElem?_eq_some_iff.mp hc1).1
  have oq : ∀ q : Nat, q ≠ ad b → (H.setIfInBounds (ad b) (vp_cell (X.2 1) (15, .inr (.inr (.inr (.inr (fun j => if j < 10 then some (ad (80 + j)) else none)))))))[q]? = H[q]? := fun q hq => by simp [Array.getElem?_setIfInBounds, Ne.symm hq]
  have hheap : ((T.setVm vm').setCell (ad b) (vp_cell (X.2 1) (15, .inr (.inr (.inr (.inr (fun j => if j < 10 then some (ad (80 + j)) else none))))))).heap = H.setIfInBounds (ad b) (vp_cell (X.2 1) (15, .inr (.inr (.inr (.inr (fun j => if j < 10 then some (ad (80 + j)) else none)))))) := by rw [← hT]; rfl
  obtain ⟨t, a1, b1⟩ := kk _ _ (by simp) (hP.put2 hI (n := b) (by rw [hkb]; decide) (by
      rw [hkb]
      show (H.setIfInBounds (ad b) _)[ad b]? = some (vp_cell (X.2 1) (sp 4, .inr (.inr (.inr (.inr (fun j => if j < 10 then some (ad (80 + j)) else none))))))
      rw [h4]
      simp [Array.getElem?_setIfInBounds, hl]) oq (fun m hm hne => e_u9 (fun h => hne (u16 m h)))) ⟨by simp; exact hS.1, fun q g1 g2 => by
      rw [oq q (fun e => g2 (by rw [e]; exact hI.2 b (by rw [hkb]; decide)))]
      exact hS.2.1 q g1 g2, fun q hq => by
      rcases List.mem_append.mp hq with h | h
      · exact hS.2.2 q h
      · obtain ⟨z, -, hz⟩ := List.mem_map.mp h
        rw [← hz]
        exact hI.2 b (by rw [hkb]; decide)⟩ _ hheap X'
  exact ⟨t, step t a1, b1⟩
end EB

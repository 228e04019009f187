/-! WHAT HOLDS AT THE LAW'S ENTRY -/
theorem g_T {b : Nat} {s : State} (hts : ∀ w ∈ lw_tbl, w.before #[Value.ref b] s = true) (hgv : (Jvm.Cond.and given_1 narrow_1).before #[Value.ref b] s = true) : e_T s.heap.size s := by
  have hs := flat_of_before _ hgv
  have hA : ∀ a : Nat, a < s.heap.size → ¬ e_A s.heap.size a := fun a h => Nat.not_le.mpr h
  refine ⟨vx_Zqof (args := #[Value.ref b]) (hts _ (by decide +kernel)) (hts _ (by decide +kernel)) (hs _ (by decide +kernel)) hA, vx_Zqof (args := #[Value.ref b]) (hts _ (by decide +kernel)) (hts _ (by decide +kernel)) (hs _ (by decide +kernel)) hA, fun E hE => va_Nw.of (A := #[Value.ref b]) rfl (hts _ ((by decide +kernel : ∀ E ∈ e_exs, Cond.castable E E ∈ lw_tbl) E hE)), fun q hq => ?_, fun Y hY => va_Nw.of (A := #[Value.ref b]) rfl (hts _ ((by decide +kernel : ∀ Y ∈ e_sup, Cond.declares (Bundle.initS Y) ∈ lw_tbl) Y hY))⟩
  have h1 := hts _ ((by decide +kernel : ∀ q ∈ e_strs, Cond.stringRef RX3 q.1 q.2 ∈ lw_tbl) q hq)
  have h2 := hs _ ((by decide +kernel : ∀ q ∈ e_strs, Cond.exactly (.string RX3 q.1) "java/lang/String" ∈ flatC (Jvm.Cond.and given_1 narrow_1)) q hq)
  obtain ⟨a, c, cell, k, h3, -⟩ := Cond.exactly_spec h2
  exact ⟨a, vk_R.of h1 h3⟩
theorem g_N {b : Nat} {s : State} (hgv : (Jvm.Cond.and given_1 narrow_1).before #[Value.ref b] s = true) : e_N s := by
  have hs := flat_of_before _ hgv
  intro q hq
  exact va_Nc.of (hs _ ((by decide +kernel : ∀ q ∈ e_ncs, Cond.not (.castable q.1 q.2) ∈ flatC (Jvm.Cond.and given_1 narrow_1)) q hq))
theorem g_L {b : Nat} {s : State} (hts : ∀ w ∈ lw_tbl, w.before #[Value.ref b] s = true) (hgv : (Jvm.Cond.and given_1 narrow_1).before #[Value.ref b] s = true) : ∃ t0 mi : Nat, e_L s.heap.size t0 mi s := by
  have hs := flat_of_before _ hgv
  have hA : ∀ a : Nat, a < s.heap.size → ¬ e_A s.heap.size a := fun a h => Nat.not_le.mpr h
  have hlen := va_eqt (hs (Cond.eq (.length (.static e_AL "DEFAULTCAPACITY_EMPTY_ELEMENTDATA" e_AO)) (.int 0)) (by decide +kernel))
  obtain ⟨t0, ht, hT⟩ := va_Tof (args := #[Value.ref b]) (s := s) (tm := .static e_AL "DEFAULTCAPACITY_EMPTY_ELEMENTDATA" e_AO) (ty := .object e_O) (N := 0) (f := fun _ => .null) (A := e_A s.heap.size) (by decide) (hs _ (by decide +kernel)) hlen (fun j hj => absurd hj (Nat.not_lt_zero _)) hA
  obtain ⟨mi, hM⟩ := va_Mi.of (args := #[Value.ref b]) (s := s) (C := e_AO) (hs _ (by decide +kernel))
  exact ⟨t0, mi, va_Zof (args := #[Value.ref b]) (hts _ (by decide +kernel)) (hts _ (by decide +kernel)) ht hA, hT, va_AO.of (A := #[Value.ref b]) (hts _ (by decide +kernel)), hM, va_Nw.of (A := #[Value.ref b]) rfl (hts _ (by decide +kernel)), va_Nw.of (A := #[Value.ref b]) rfl (hts _ (by decide +kernel)), va_Nw.of (A := #[Value.ref b]) rfl (hts _ (by decide +kernel)), va_AOA.of (A := #[Value.ref b]) (hts _ (by decide +kernel))⟩
theorem g_arr {s : State} {cA : ClassId} {k : Class} {comp : ClassId} {ty : FieldType} (h2 : s.vm.classes[cA]? = some k) (h3 : k.kind = .array comp ty) : ArrOfT s cA ty := fun n z => ⟨fun k h => (by cases h), k, h2, comp, h3⟩
theorem g_S {b : Nat} {s : State} (hts : ∀ w ∈ lw_tbl, w.before #[Value.ref b] s = true) : ∃ X : eD, e_S X s := by
  obtain ⟨a0, k0, q0, x0, y0, z0⟩ := Cond.arrayClass_spec (hts (Cond.arrayClass .int) (by decide +kernel))
  obtain ⟨q1, a1, k1, w1, -, y1, z1, x1⟩ := Cond.arrayOver_spec (hts (Cond.arrayOver (.object e_O)) (by decide +kernel))
  obtain ⟨q2, a2, k2, w2, -, y2, z2, x2⟩ := arrayOverA_spec (hts (Cond.arrayOver (.array .int)) (by decide +kernel))
  obtain ⟨a3, k3, q3, x3, y3, z3⟩ := Cond.arrayClass_spec (hts (Cond.arrayClass .long) (by decide +kernel))
  obtain ⟨c0, i0, n0⟩ := u_known (C := RJ0) (T := TJ0) (N := 2) (n := 4) hts (by decide +kernel) (hts (.instantiable RJ0 4) (by decide +kernel))
  obtain ⟨c1, i1, n1⟩ := u_known (C := RJx00060) (T := TJx00060) (N := 6) (n := 6) hts (by decide +kernel) (hts (.instantiable RJx00060 6) (by decide +kernel))
  obtain ⟨c2, i2, n2⟩ := u_known (C := RJx4a65c) (T := TJx4a65c) (N := 3) (n := 3) hts (by decide +kernel) (hts (.instantiable RJx4a65c 3) (by decide +kernel))
  obtain ⟨c3, i3, n3⟩ := u_known (C := RX0) (T := TX0) (N := 4) (n := 4) hts (by decide +kernel) (hts (.instantiable RX0 4) (by decide +kernel))
  obtain ⟨c4, i4, n4⟩ := u_known (C := RX1) (T := TX1) (N := 5) (n := 5) hts (by decide +kernel) (hts (.instantiable RX1 5) (by decide +kernel))
  obtain ⟨c5, i5, n5⟩ := u_known (C := RX2) (T := TX2) (N := 3) (n := 3) hts (by decide +kernel) (hts (.instantiable RX2 3) (by decide +kernel))
  obtain ⟨c6, i6, n6⟩ := u_known (C := RX3) (T := TX3) (N := 5) (n := 5) hts (by decide +kernel) (hts (.instantiable RX3 5) (by decide +kernel))
  obtain ⟨c7, i7, n7⟩ := u_known (C := RX4) (T := TX4) (N := 17) (n := 17) hts (by decide +kernel) (hts (.instantiable RX4 17) (by decide +kernel))
  refine ⟨((fun k => match k with | 0 => c0 | 1 => c1 | 2 => c2 | 3 => c3 | 4 => c4 | 5 => c5 | 6 => c6 | _ => c7, fun k => match k with | 0 => i0 | 1 => i1 | 2 => i2 | 3 => i3 | 4 => i4 | 5 => i5 | 6 => i6 | _ => i7), fun k => match k with | 0 => a0 | 1 => a1 | 2 => a2 | _ => a3), ⟨?_, ?_⟩, va_Nw.of (A := #[Value.ref b]) rfl (hts _ (by decide +kernel)), va_Nw.of (A := #[Value.ref b]) rfl (hts _ (by decide +kernel))⟩
  · intro k q hq
    match k, hq with
    | 0, hq => cases hq; exact n0
    | 1, hq => cases hq; exact n1
    | 2, hq => cases hq; exact n2
    | 3, hq => cases hq; exact n3
    | 4, hq => cases hq; exact n4
    | 5, hq => cases hq; exact n5
    | 6, hq => cases hq; exact n6
    | 7, hq => cases hq; exact n7
    | k + 8, hq => simp [vwCl] at hq
  · intro k q hq
    match k, hq with
    | 0, hq => cases hq; exact ⟨g_arr y0 z0, x0⟩
    | 1, hq => cases hq; exact ⟨g_arr y1 z1, k1, q1, y1, z1, w1, x1⟩
    | 2, hq => cases hq; exact ⟨g_arr y2 z2, x2⟩
    | 3, hq => cases hq; exact ⟨g_arr y3 z3, x3⟩
    | k + 4, hq => simp [e_tys] at hq

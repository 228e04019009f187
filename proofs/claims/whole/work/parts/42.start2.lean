/-! BOTH OBJECTS ARE MADE -/
section LS
variable {p : Program} {l : Launch} {e : Env} {R : Room} {s : State} {m : MethodId} {args : Array Value} {below : List Frame} {meth : Method} {c : Code} {H : Heap} {locs : List Loc} {cells slots : Nat} {Q : State → Prop}
variable {cc : ByteArray} {pc nL : Nat} {ls : Array Slot} {rest st : List Value} {X : eD} {z0 t0 mi : Nat} {ad kd sp kd' sp' : Nat → Nat} {v v' : eV} {H0 : Heap}
theorem e_cIS (hx : p.tables.exec = Jvm.exec) (hb : c.code = cc) (hml : c.maxLocals = nL) {own : String} (hown : s.vm.findClass own = some m.cls) (hts : ∀ w ∈ AW, w.before args s = true) (hL : e_L z0 t0 mi s) {y : MethodName} {b : ByteArray} {n idx k d mc ms a0 : Nat} {As : List Value} (nm : Nat) (hM : eSy l y b n d mc ms (.ref (ad nm) :: As) X z0 t0 mi ad kd sp v a0 kd' sp' v') (cw : e_cwI own idx y b n k) (hf : d + 1 ≤ R.frames) (hlo : 8 + (n + 11) + 60 * d ≤ R.locals) (hz : z0 ≤ H.size) (ha : H.size = a0) (hP : e_P X ad kd sp v H) (hI : e_I z0 ad kd) (hK : e_S X s) (hS : va_S (e_A z0) s.heap H locs) (hn : As.length = k) (hsz : ls.size = nL) (hst : st = As.reverse ++ .ref (ad nm) :: rest) (hW : (rest.map fun v => v.category).sum ≤ 8) (hfc : cells + mc ≤ R.cells ∧ slots + ms ≤ R.slots) (hdg : decode cc pc = .ok (.invokespecial idx, 3))
    (kk : ∀ (a1 : Nat → Nat) (H1 : Heap) (locs1 : List Loc), (∀ m, m < 4 ∨ 7 < m → a1 m = ad m) → z0 ≤ H1.size → e_P X a1 kd' sp' v' H1 → e_I z0 a1 kd' → va_S (e_A z0) s.heap H1 locs1 → W p l e R s m args below meth c H1 locs1 (cells + mc) (slots + ms) Q (F0 m (pc + 3) ls rest)) : W p l e R s m args below meth c H locs cells slots Q (F0 m pc ls st) := by
  have hr := va_runI (g := F0 m pc ls st) (As := As) (rest := rest) (p := p) (l := l) (e := e) (R := R) (below := below) (meth := meth) (H := H) (locs := locs) (cells := cells) (slots := slots) ⟨hx, hb, hml, hown, hts⟩ hM (cw.use hts rfl rfl hf hlo) ⟨fun a U g mk q => ⟨q.1, q.2.call g mk a⟩, fun U hU hW => ⟨rfl, ⟨by rw [hU]; exact hz, by rw [hU]; exact hP, hI, hK.warm hW⟩, by rw [hU]; exact ha, hL.warm hW hU hS⟩⟩ rfl hn hsz hst (lv_room hW) hdg hfc
  intro T hT X0
  obtain ⟨v, st₀, t, T', L, h0, X', hL', e1, -, ⟨hv, ⟨a1, ha1, hh, hI1⟩, hF⟩, st⟩ := hr T hT X0
  cases hv
  obtain ⟨hz1, hk⟩ := hF
  rw [h0] at hz1 hk
  obtain ⟨t2, b1, b2⟩ := kk a1 T'.heap (locs ++ L) ha1 (by rw [e1]; exact Nat.le_trans hz hz1) (by rw [e1]; exact hh) hI1 ⟨Nat.le_trans hS.1 (by rw [e1]; exact hz1), fun q h1 h2 => by rw [e1, hk q (Nat.lt_of_lt_of_le h1 hS.1) h2]; exact hS.2.1 q h1 h2, fun q hq => (List.mem_append.mp hq).elim (hS.2.2 q) (hL' q)⟩ T' rfl X'
  exact ⟨t2, st t2 b1, b2⟩
theorem e_newl (hexec : p.tables.exec = Jvm.exec) (hb : c.code = cc) (hts : ∀ w ∈ AW, w.before args s = true) (harr : Cond.arrayClass .long ∈ AW) (hK : e_S X s) (hP : e_P X ad kd sp v H) (hI : e_I z0 ad kd) (hz : z0 ≤ H.size) (hS : va_S (e_A z0) H0 H locs) (nm : Nat) (hk : kd nm = 0) (had : ad nm = H.size) (hcells : cells + 1 ≤ R.cells) (hslots : slots + 1 ≤ R.slots) (hdg : decode cc pc = .ok (.newarray .long, 2))
    (kk : ∀ H1 : Heap, H1.size = H.size + 1 → e_P X ad (kup kd nm 17) sp (e_z v nm) H1 → e_I z0 ad (kup kd nm 17) → va_S (e_A z0) H0 H1 locs → W p l e R s m args below meth c H1 locs (cells + 1) (slots + 1) Q (F0 m (pc + 2) ls (.ref (ad nm) :: rest))) : W p l e R s m args below meth c H locs cells slots Q (F0 m pc ls (.int 1 :: rest)) := by
  refine va_newaK (atype := .long) (N := 1) hexec hb (hts _ harr) rfl hdg rfl (by decide) (by decide) (by decide) hcells hslots rfl fun H1 cA e1 z1 o1 hAr hNm => ?_
  have hcA : cA = X.2 3 := Option.some.inj (hNm.symm.trans (hK.1.2 3 _ rfl).2)
  subst hcA
  rw [← had] at e1 ⊢
  obtain ⟨g1, g2⟩ := hP.grow hI hz (K := 17) had o1 (by
    show H1[ad nm]? = some (vp_cell (X.2 3) (1, .inr (.inl (fun _ => (e_z v nm nm 0).toInt64))))
    rw [e1, vp_cell_l]
    have : e_z v nm nm = fun _ => 0 := if_pos rfl
    rw [this]
    rfl) hk
  exact kk H1 z1 g1 g2 ⟨Nat.le_trans hS.1 (by omega), fun x h1 h2 => (o1 x (Nat.lt_of_lt_of_le h1 hS.1)).trans (hS.2.1 x h1 h2), hS.2.2⟩
end LS
def k1 : Nat → Nat := kup (kup (kup (kup (kup (kup (kup (kup (kup (kup (kup (fun _ => 0) 0 18) 1 15) 2 15) 3 84) 4 10) 5 33) 6 33) 7 33) 1 6) 2 8) 0 5
def k2 : Nat → Nat := kup (kup (kup (kup (kup (kup (kup (kup (kup (kup (kup (kup (kup (kup (kup k1 100 19) 101 28) 102 28) 103 28) 104 28) 105 532) 106 532) 107 32) 108 32) 109 32) 110 32) 111 32) 112 84) 113 59) 100 12
theorem k1_lt {n : Nat} (h : k1 n ≠ 0) : n < 8 := by
  by_cases g : n < 8
  · exact g
  · exfalso
    apply h
    unfold k1 kup
    repeat rw [if_neg (by omega)]
set_option maxRecDepth 10000 in
theorem k2_KD : kup k2 120 17 = KD 0 0 := by
  funext n
  by_cases h : n < 121
  · exact (by decide +kernel : ∀ n, n < 121 → kup k2 120 17 n = KD 0 0 n) n h
  · rw [KD_hi (by omega), if_neg (by omega)]
    unfold k2 k1 kup
    repeat rw [if_neg (by omega)]
def vA : eV := cFreeR (e_set (e_set (e_set (e_z (e_z (e_z (e_set (e_z (e_set (e_set (e_set (e_z (e_set (e_set (e_set (e_z (e_z (fun _ _ => 0) 0) 1) 1 0 0) 1 21 1) 0 21 1) 2) 2 0 0) 2 21 1) 0 22 1) 3) 0 23 1) 5) 6) 7) 0 24 1) 0 4 0) 3 0 500) 3
def vB : eV := mFrees (e_set (e_z (e_set (e_z (e_set (e_z (e_set (e_z (e_set (e_z (e_set (e_z (e_set (e_z (e_set (e_z (e_set (e_z (e_set (e_z (e_set (e_z (e_set (e_z (e_set (e_z (e_z vA 100) 101) 100 20 1) 102) 100 21 1) 103) 100 22 1) 104) 100 23 1) 105) 100 24 1) 106) 100 25 1) 107) 100 26 1) 108) 100 27 1) 109) 100 28 1) 110) 100 29 1) 111) 100 30 1) 112) 100 31 1) 113) 100 32 1) 39
theorem vB_lo {n : Nat} (h : n < 100) : vB n = vA n := by
  unfold vB
  rw [mFrees_ne (by omega)]
  simp (disch := omega) only [es_ne, e_z_n]
theorem vB_m : vB 101 = (fun _ => 0) ∧ vB 102 = (fun _ => 0) ∧ vB 103 = (fun _ => 0) ∧ vB 104 = (fun _ => 0) ∧ vB 105 = (fun _ => 0) ∧ vB 106 = (fun _ => 0) ∧ vB 111 = (fun _ => 0) ∧ vB 112 = (fun _ => 0) := by
  unfold vB
  refine ⟨?_, ?_, ?_, ?_, ?_, ?_, ?_, ?_⟩ <;> (rw [mFrees_ne (by decide)]; simp (disch := omega) only [es_ne, e_z_n, e_z_s])
theorem vB_100 : vB 100 4 = 0 ∧ vB 100 12 = 0 ∧ vB 100 15 = 0 := by
  unfold vB
  refine ⟨?_, ?_, ?_⟩ <;> (rw [mFrees_ne (by decide)]; simp (disch := omega) only [es_ne, e_z_n, e_z_s, es_eq, upd_ne])
theorem vA_told : vA 3 0 = 500 ∧ ∀ j, 1 ≤ j → vA 3 j = 0 := by
  unfold vA
  refine ⟨?_, fun j hj => ?_⟩
  · rw [cFreeR_ne 3 (fun i hi => by omega), es_eq, upd_eq]
  · rw [cFreeR_ne 3 (fun i hi => by omega), es_eq, upd_ne (by omega)]
    simp (disch := omega) only [es_ne, e_z_n, e_z_s]
theorem vA_day : vA 0 4 = 0 := by
  unfold vA
  rw [cFreeR_ne 3 (fun i hi => by omega), es_ne (by decide), es_eq, upd_eq]
theorem RR_start : RR 0 0 (e_z vB 120) (e_z vB 120) := by
  obtain ⟨b1, b2, b3, b4, b5, b6, b7, b8⟩ := vB_m
  obtain ⟨c1, c2, c3⟩ := vB_100
  have h : RR 0 0 vA vB := by
    refine ⟨⟨c1, c2, by decide, by decide, fun i hi => absurd hi (Nat.not_lt_zero _), fun i hi => absurd hi (Nat.not_lt_zero _), fun i hi => absurd hi (Nat.not_lt_zero _), fun i hi => absurd hi (Nat.not_lt_zero _)⟩, fun i hi => absurd hi (Nat.not_lt_zero _), fun i _ _ => ⟨fun j hj => ?_, fun j hj => ?_, ?_, ?_⟩, fun i hi => absurd hi (Nat.not_lt_zero _), fun l _ _ => ?_, ⟨?_, fun j h1 h2 => ?_, fun j hj => ?_⟩, fun r hr j hj => ?_, ?_⟩
    · unfold gX; rw [b5]
    · unfold gY; rw [b6]
    · rw [b3]
    · rw [b4]
    · rw [b7]
    · rw [vA_told.1, b8]; rfl
    · rw [vA_told.2 j h1, b8]
    · rw [b8]; exact (by decide : ¬ (0 : Int32) < 0)
    · have e1 : vA (5 + r) j = -1 := cFreeR_at hj 3 hr
      have e2 : vB 113 (13 * r + j) = -1 := mFrees_at 39 (by omega)
      rw [e1, e2]
      exact ⟨rfl, Or.inl rfl⟩
    · rw [vA_day, c3]
  exact h.cm (fun n hn => (e_z_n (by omega)).trans (vB_lo hn)) (fun n h1 h2 => e_z_n (by omega)) (by rw [e_z_n (by decide)]) (by rw [e_z_n (by decide)]) (by rw [e_z_n (by decide)])
theorem e_P.ad1 {X : eD} {z0 : Nat} {ad ad' : Nat → Nat} {v : eV} {H : Heap} (hP : e_P X ad k1 (SP 0 0) v H) (hI : e_I z0 ad k1) (ha : ∀ q, q < 100 → ad' q = ad q) : e_P X ad' k1 (SP 0 0) v H ∧ e_I z0 ad' k1 := by
  refine ⟨hP.re (fun n hn => ⟨hn, ha n (by have := k1_lt hn; omega), ?_⟩), hI.re (fun n hn => ⟨hn, ha n (by have := k1_lt hn; omega)⟩)⟩
  have h8 := k1_lt hn
  have h8' : n = 0 ∨ n = 1 ∨ n = 2 ∨ n = 3 ∨ n = 4 ∨ n = 5 ∨ n = 6 ∨ n = 7 := by omega
  have e : k1 n = KD 0 0 n := (by decide +kernel : ∀ n, n < 8 → k1 n = KD 0 0 n) n h8
  rw [e]
  rcases h8' with rfl | rfl | rfl | rfl | rfl | rfl | rfl | rfl
  · show (Sum.inr (6, [.ref (ad' 1), .ref (ad' 2), .ref (ad' 3), .ref (ad' 4), _]) : va_E) = Sum.inr (6, [.ref (ad 1), .ref (ad 2), .ref (ad 3), .ref (ad 4), _])
    rw [ha 1 (by decide), ha 2 (by decide), ha 3 (by decide), ha 4 (by decide)]
  · show (Sum.inr (2, [_, .ref (ad' 11), _]) : va_E) = Sum.inr (2, [_, .ref (ad 11), _])
    rw [ha 11 (by decide)]
  · show (Sum.inr (2, [_, .ref (ad' 11), _]) : va_E) = Sum.inr (2, [_, .ref (ad 11), _])
    rw [ha 11 (by decide)]
  · rfl
  · show (Sum.inl (X.2 2, 3, _) : va_E) = Sum.inl (X.2 2, 3, _)
    congr 7
    funext j
    by_cases hj : j < 3
    · rw [if_pos hj, if_pos hj, ha _ (by omega)]
    · rw [if_neg hj, if_neg hj]
  · rfl
  · rfl
  · rfl

/-! THE RELATION under move -/
theorem cShift_at {v : eV} {t k : Nat} {w : Int32} {j : Nat} : ∀ n, cShift v t k w n (t + 2) j = v (t + 2) j + (if k ≤ j ∧ j < k + n then w else 0)
  | 0 => by
    show v (t + 2) j = _
    rw [if_neg (by omega), Int32.add_zero]
  | n + 1 => by
    show e_set (cShift v t k w n) (t + 2) (k + n) (cShift v t k w n (t + 2) (k + n) + w) (t + 2) j = _
    rw [es_eq]
    unfold upd
    by_cases e : j = k + n
    · subst e
      rw [if_pos rfl, cShift_at n, if_neg (by omega), if_pos (by omega), Int32.add_zero]
    · rw [if_neg e, cShift_at n]
      by_cases g : k ≤ j ∧ j < k + n
      · rw [if_pos g, if_pos (by omega)]
      · rw [if_neg g, if_neg (by omega)]
theorem cWrite_m {v : eV} {t k : Nat} {w : Int32} : cWrite v t k w (t + 1) = upd (v (t + 1)) k w := (cShift_ne (by omega) _).trans es_eq
theorem cWrite_p {v : eV} {t k j : Nat} {w : Int32} (hk : k < 64) (hj : j < 64) : cWrite v t k w (t + 2) j = v (t + 2) j + (if k < j + 1 then w - v (t + 1) k else 0) := by
  unfold cWrite
  rw [cShift_at, es_ne (by omega)]
  by_cases g : k < j + 1
  · rw [if_pos g, if_pos (by omega)]
  · rw [if_neg g, if_neg (by omega)]
theorem tRel.write {c : eV} {t : Nat} {f : Int32} {g : Nat → Int32} (h : tRel c t f g) {k : Nat} {w : Int32} (hk : k < 64) (hw : mIn w (-2) 2 = true) : tRel (cWrite c t k w) t f (upd g k w) := by
  obtain ⟨h1, h2, h3, h4, h5⟩ := h
  refine ⟨by rw [cWrite_ne (by omega) (by omega)]; exact h1, fun j hj => ?_, fun j hj => ?_, h4, fun j hj => ?_⟩
  · rw [cWrite_m]
    unfold upd
    by_cases e : j = k
    · rw [if_pos e, if_pos e]
    · rw [if_neg e, if_neg e]
      exact h2 j hj
  · rw [cWrite_p hk hj, sumN_upd, h3 j hj, h2 k hk]
    grind
  · unfold upd
    by_cases e : j = k
    · rw [if_pos e]; exact hw
    · rw [if_neg e]; exact h5 j hj
theorem gX_set {m : eV} {d k : Nat} {x : Int32} (hk : k < 64) {i j : Nat} (hj : j < 64) : gX (e_set m 105 (64 * d + k) x) i j = if i = d then upd (gX m d) k x j else gX m i j := by
  unfold gX
  rw [es_eq]
  unfold upd
  by_cases e : i = d
  · subst e
    rw [if_pos rfl]
    by_cases e2 : j = k
    · rw [if_pos (by omega), if_pos e2]
    · rw [if_neg (by omega), if_neg e2]
  · rw [if_neg e, if_neg (by omega)]
theorem gY_set {m : eV} {d k : Nat} {x : Int32} (hk : k < 64) {i j : Nat} (hj : j < 64) : gY (e_set m 106 (64 * d + k) x) i j = if i = d then upd (gY m d) k x j else gY m i j := by
  unfold gY
  rw [es_eq]
  unfold upd
  by_cases e : i = d
  · subst e
    rw [if_pos rfl]
    by_cases e2 : j = k
    · rw [if_pos (by omega), if_pos e2]
    · rw [if_neg (by omega), if_neg e2]
  · rw [if_neg e, if_neg (by omega)]
/-- one column move written -/
theorem RR.wX {dn ln : Nat} {c m : eV} (h : RR dn ln c m) {d k : Nat} {x : Int32} (hd : d < dn) (hk : k < 64) (hx : mIn x (-2) 2 = true) : RR dn ln (cWrite c (20 + 7 * d + 1) k x) (e_set m 105 (64 * d + k) x) := by
  obtain ⟨h1, h2, h3, h4, h5, h6, h7, h8⟩ := h
  have h8n := h1.2.2.1
  have h12 := h1.2.2.2.1
  have hc : ∀ n, n ≠ 20 + 7 * d + 1 + 1 → n ≠ 20 + 7 * d + 1 + 2 → cWrite c (20 + 7 * d + 1) k x n = c n := fun n a b => cWrite_ne a b
  have hm : ∀ n, n ≠ 105 → e_set m 105 (64 * d + k) x n = m n := fun n a => es_ne a
  refine ⟨h1.m rfl rfl (fun n a b => hm n (by omega)), fun i hi => ?_, fun i hi hj => ⟨fun j q => ?_, (h3 i hi hj).2.1, (h3 i hi hj).2.2⟩, fun l hl => ((h4 l hl).c (hc _ (by omega) (by omega))).m (fun n a b => hm n (by omega)), h5, h6.cm (hc _ (by omega) (by omega)) (hm _ (by decide)), h7.cm (fun r hr => hc _ (by omega) (by omega)) (hm _ (by decide)), by rw [hc 0 (by omega) (by omega)]; exact h8⟩
  · obtain ⟨a1, a2, a3, a4, a5, a6⟩ := h2 i hi
    by_cases e : i = d
    · subst e
      refine ⟨((a1.write hk hx).g (fun j q => ?_)), a2.c (fun q hq => hc _ (by omega) (by omega)), ?_, a4, ?_, a6⟩
      · rw [gX_set hk q, if_pos rfl]
      · rw [hc _ (by omega) (by omega)]; exact a3
      · rw [hc _ (by omega) (by omega)]; exact a5
    · refine ⟨((a1.c (fun q hq => hc _ (by omega) (by omega))).g (fun j q => ?_)), a2.c (fun q hq => hc _ (by omega) (by omega)), ?_, a4, ?_, a6⟩
      · rw [gX_set hk q, if_neg e]
      · rw [hc _ (by omega) (by omega)]; exact a3
      · rw [hc _ (by omega) (by omega)]; exact a5
  · rw [gX_set hk q, if_neg (by omega)]
    exact (h3 i hi hj).1 j q
theorem RR.wY {dn ln : Nat} {c m : eV} (h : RR dn ln c m) {d k : Nat} {x : Int32} (hd : d < dn) (hk : k < 64) (hx : mIn x (-2) 2 = true) : RR dn ln (cWrite c (20 + 7 * d + 4) k x) (e_set m 106 (64 * d + k) x) := by
  obtain ⟨h1, h2, h3, h4, h5, h6, h7, h8⟩ := h
  have h8n := h1.2.2.1
  have h12 := h1.2.2.2.1
  have hc : ∀ n, n ≠ 20 + 7 * d + 4 + 1 → n ≠ 20 + 7 * d + 4 + 2 → cWrite c (20 + 7 * d + 4) k x n = c n := fun n a b => cWrite_ne a b
  have hm : ∀ n, n ≠ 106 → e_set m 106 (64 * d + k) x n = m n := fun n a => es_ne a
  refine ⟨h1.m rfl rfl (fun n a b => hm n (by omega)), fun i hi => ?_, fun i hi hj => ⟨(h3 i hi hj).1, fun j q => ?_, (h3 i hi hj).2.2⟩, fun l hl => ((h4 l hl).c (hc _ (by omega) (by omega))).m (fun n a b => hm n (by omega)), h5, h6.cm (hc _ (by omega) (by omega)) (hm _ (by decide)), h7.cm (fun r hr => hc _ (by omega) (by omega)) (hm _ (by decide)), by rw [hc 0 (by omega) (by omega)]; exact h8⟩
  · obtain ⟨a1, a2, a3, a4, a5, a6⟩ := h2 i hi
    by_cases e : i = d
    · subst e
      refine ⟨a1.c (fun q hq => hc _ (by omega) (by omega)), ((a2.write hk hx).g (fun j q => ?_)), ?_, a4, ?_, a6⟩
      · rw [gY_set hk q, if_pos rfl]
      · rw [hc _ (by omega) (by omega)]; exact a3
      · rw [hc _ (by omega) (by omega)]; exact a5
    · refine ⟨a1.c (fun q hq => hc _ (by omega) (by omega)), ((a2.c (fun q hq => hc _ (by omega) (by omega))).g (fun j q => ?_)), ?_, a4, ?_, a6⟩
      · rw [gY_set hk q, if_neg e]
      · rw [hc _ (by omega) (by omega)]; exact a3
      · rw [hc _ (by omega) (by omega)]; exact a5
  · rw [gY_set hk q, if_neg (by omega)]
    exact (h3 i hi hj).2.1 j q
theorem r_moveC {dn ln : Nat} {c m : eV} (h : RR dn ln c m) (d k x y : Int32) : cMoveC c dn d k x y = mMoveC m dn d k x y := by
  unfold cMoveC mMoveC
  rw [okN_eq (by have := h.d8; omega), okC_eq]
  by_cases g : mOkD dn d = true
  · obtain ⟨i, hi, rfl⟩ := e_okD h.d8 g
    have := h.d8
    rw [nN_of (x := nI i) rfl (by omega), h.out hi]
    simp only [decide_eq_true_eq]
  · rw [if_neg (fun q => g (Bool.and_eq_true_iff.mp q).1), if_neg (fun q => g (Bool.and_eq_true_iff.mp q).1)]
theorem r_count {dn ln : Nat} {c m : eV} (h : RR dn ln c m) {i : Nat} (hi : i < dn) : cCount c (20 + 7 * i) 64 = mCount m i 64 := by
  have hd := h.2.1 i hi
  unfold cCount mCount
  refine sumN_congr (fun j hj => ?_)
  rw [hd.1.2.1 j hj, hd.2.1.2.1 j hj]
  rfl
theorem r_move {dn ln : Nat} {c m : eV} (h : RR dn ln c m) (d k x y : Int32) (g : cMoveC c dn d k x y = 0) : cCount (cMoveS c (nN d) (nN k) x y) (20 + 7 * nN d) 64 = mMoveV m dn d k x y ∧ RR dn ln (cMoveS c (nN d) (nN k) x y) (mMoveS m dn d k x y) := by
  have e0 := g
  rw [r_moveC h] at e0
  have g2 : ¬ 0 < mMoveC m dn d k x y := by rw [e0]; decide
  obtain ⟨o1, o2⟩ := mMoveC_ok g2
  have g3 : mIn x (-2) 2 = true ∧ mIn y (-2) 2 = true := by
    by_cases q : (mIn x (-2) 2 && mIn y (-2) 2) = true
    · exact Bool.and_eq_true_iff.mp q
    · unfold mMoveC at e0
      rw [if_pos (by rw [o1, o2]; rfl), if_neg q] at e0
      exact absurd e0 (by decide)
  obtain ⟨i, hi, rfl⟩ := e_okD h.d8 o1
  obtain ⟨j, hj, rfl⟩ := e_okC o2
  have := h.d8
  unfold mMoveV mMoveS
  rw [if_neg g2, if_neg g2, nN_of (x := nI i) rfl (by omega), nN_of (x := nI j) rfl (by omega)]
  have hR : RR dn ln (cMoveS c i j x y) (mMoved (mT m (mMoveC m dn (nI i) (nI j) x y)) i j x y) := ((h.T _).wX hi hj g3.1).wY hi hj g3.2
  exact ⟨r_count hR hi, hR⟩
/-! lifts -/
theorem RR.lift {dn ln : Nat} {c m : eV} (h : RR dn ln c m) {l : Nat} (hl : l < ln) : ∃ k dl da db, k < 64 ∧ dl < dn ∧ da < dn ∧ db < dn ∧ m 107 l = nI k ∧ m 108 l = nI dl ∧ m 109 l = nI da ∧ m 110 l = nI db ∧ c (80 + l) 0 = nI k ∧ c (80 + l) 1 = nI dl ∧ c (80 + l) 2 = nI da ∧ c (80 + l) 3 = nI db := by
  obtain ⟨h1, -, -, h4, -⟩ := h
  obtain ⟨-, -, -, -, a1, a2, a3, a4⟩ := h1
  obtain ⟨b1, b2, b3, b4, -⟩ := h4 l hl
  obtain ⟨k, hk, e1⟩ := a1 l hl
  obtain ⟨dl, hdl, e2⟩ := a2 l hl
  obtain ⟨da, hda, e3⟩ := a3 l hl
  obtain ⟨db, hdb, e4⟩ := a4 l hl
  exact ⟨k, dl, da, db, hk, hdl, hda, hdb, e1, e2, e3, e4, b1.trans e1, b2.trans e2, b3.trans e3, b4.trans e4⟩
theorem r_has {c m : eV} {l : Nat} (h : lRel c m l) (d : Int32) : cHas c (80 + l) d = mOf m l d := by
  unfold cHas cBy mOf
  rw [h.2.1, h.2.2.1, h.2.2.2.1, Bool.or_assoc]
theorem r_liftsOf {dn ln : Nat} {c m : eV} (h : RR dn ln c m) (d : Int32) {k : Nat} (hk : k < 64) : cLiftsW c d (nI k) (nI k) ln = mLiftsOf m d (nI k) ln := by
  unfold cLiftsW mLiftsOf
  refine sumN_congr (fun l hl => ?_)
  have hL := h.2.2.2.1 l hl
  obtain ⟨q, dl, da, db, hq, -, -, -, e1, -, -, -, e2, -⟩ := h.lift hl
  rw [r_has hL, hL.2.2.2.2.1, e2, e1]
  have : (!decide (nI q < nI k) && !decide (nI k < nI q)) = decide (nI q = nI k) := by
    rw [decide_eq_decide.mpr (nI_ltI (a := q) (b := k) (by omega) (by omega)), decide_eq_decide.mpr (nI_ltI (a := k) (b := q) (by omega) (by omega)), decide_eq_decide.mpr (nI_eq (a := q) (b := k) (by omega) (by omega))]
    rcases Nat.lt_trichotomy q k with g | g | g
    · rw [decide_eq_true g, decide_eq_false (p := q = k) (by omega)]; rfl
    · subst g
      rw [decide_eq_false (p := q < q) (by omega), decide_eq_true (p := q = q) rfl]
      rfl
    · rw [decide_eq_true g, decide_eq_false (p := q = k) (by omega)]
      simp
  rw [Bool.and_assoc (decide (m 111 l = 0)), this]

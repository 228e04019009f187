/-! THE RELATION under dancer -/
theorem r_dancerC {dn ln : Nat} {c m : eV} (h : RR dn ln c m) (x y : Int32) : cDancerC c dn x y = mDancerC m dn x y := by
  unfold cDancerC mDancerC
  rw [on_eq, on_eq]
  have e1 : cFirstP c x y dn = mSame m x y dn := by
    unfold cFirstP mSame
    refine anyN_congr (fun i hi => ?_)
    rw [(h.2.1 i hi).1.1, (h.2.1 i hi).2.1.1]
  have h8 := h.d8
  have e2 : (!decide (dn < 8)) = decide (dn = 8) := by
    by_cases q : dn = 8
    · subst q; rfl
    · rw [decide_eq_true (p := dn < 8) (by omega), decide_eq_false q]; rfl
  rw [e1, e2, Bool.or_comm]
def cDanced (c c' : eV) (dn : Nat) (x y : Int32) : Prop := (∀ n, n < 100 → (n < 20 + 7 * dn ∨ 20 + 7 * dn + 7 ≤ n) → n ≠ 1 → n ≠ 8 → c' n = c n) ∧ c' (20 + 7 * dn) 2 = 0 ∧ c' (20 + 7 * dn) 3 = 0 ∧ (c' (20 + 7 * dn + 1) 0 = x ∧ (∀ j, j < 64 → c' (20 + 7 * dn + 1 + 1) j = 0) ∧ ∀ j, j < 64 → c' (20 + 7 * dn + 1 + 2) j = x) ∧ (c' (20 + 7 * dn + 4) 0 = y ∧ (∀ j, j < 64 → c' (20 + 7 * dn + 4 + 1) j = 0) ∧ ∀ j, j < 64 → c' (20 + 7 * dn + 4 + 2) j = y)
theorem tRel.new {c : eV} {t : Nat} {x : Int32} {g : Nat → Int32} (hg : ∀ j, j < 64 → g j = 0) (hx : mIn x 0 7 = true) (h : c t 0 = x ∧ (∀ j, j < 64 → c (t + 1) j = 0) ∧ ∀ j, j < 64 → c (t + 2) j = x) : tRel c t x g := by
  refine ⟨h.1, fun j hj => by rw [h.2.1 j hj, hg j hj], fun j hj => ?_, hx, fun j hj => by rw [hg j hj]; decide⟩
  rw [h.2.2 j hj, sumN_congr (g := fun _ => 0) (fun i hi => hg i (by omega)), sumN_zero, Int32.add_zero]
theorem r_dancer {dn ln : Nat} {c m c' : eV} (h : RR dn ln c m) (x y : Int32) (g : cDancerC c dn x y = 0) (hc : cDanced c c' dn x y) : nI dn = mDancerV m dn x y ∧ RR (dn + 1) ln c' (mDancerS m dn x y) := by
  have e0 := g
  rw [r_dancerC h] at e0
  have g2 : ¬ 0 < mDancerC m dn x y := by rw [e0]; decide
  have g8 := mDancerC_ok g2
  have g3 : mIn x 0 7 = true ∧ mIn y 0 7 = true := by
    by_cases q : (mIn x 0 7 && mIn y 0 7) = true
    · exact Bool.and_eq_true_iff.mp q
    · unfold mDancerC at e0
      rw [if_neg q] at e0
      exact absurd e0 (by decide)
  unfold mDancerV mDancerS
  rw [if_neg g2, if_neg g2]
  refine ⟨rfl, ?_⟩
  generalize mDancerC m dn x y = w
  obtain ⟨c1, c2, c3, c4, c5⟩ := hc
  have h8 := h.d8
  have h12 := h.l12
  obtain ⟨h1, h2, h3, h4, h5, h6, h7, h9⟩ := h.T w
  obtain ⟨z1, z2, z3, z4⟩ := h3 dn (Nat.le_refl _) (by omega)
  obtain ⟨a1, a2, a3, a4, a5, a6, a7, a8⟩ := h1
  have up : ∀ {f : Nat → Int32}, (∀ i, i < ln → ∃ d, d < dn ∧ f i = nI d) → ∀ i, i < ln → ∃ d, d < dn + 1 ∧ f i = nI d := fun q i hi => by
    obtain ⟨d, q1, q2⟩ := q i hi
    exact ⟨d, by omega, q2⟩
  have e1 : ∀ i, i ≠ dn → e_set (e_set (e_set (mT m w) 101 dn x) 102 dn y) 100 4 (nI (dn + 1)) 101 i = mT m w 101 i := fun i hi => upd_ne hi
  have e2 : ∀ i, i ≠ dn → e_set (e_set (e_set (mT m w) 101 dn x) 102 dn y) 100 4 (nI (dn + 1)) 102 i = mT m w 102 i := fun i hi => upd_ne hi
  refine ⟨⟨rfl, a2, by omega, a4, a5, up a6, up a7, up a8⟩, fun i hi => ?_, fun i q1 q2 => h3 i (by omega) q2, fun l hl => (h4 l hl).c (c1 _ (by omega) (by omega) (by omega) (by omega)), h5, h6.cm (c1 3 (by decide) (by omega) (by decide) (by decide)) rfl, h7.cm (fun r hr => c1 _ (by omega) (by omega) (by omega) (by omega)) rfl, by rw [c1 0 (by decide) (by omega) (by decide) (by decide)]; exact h9⟩
  by_cases e : i = dn
  · subst e
    refine ⟨?_, ?_, c3.trans z3.symm, Or.inl z3, c2.trans z4.symm, ?_⟩
    · rw [show e_set (e_set (e_set (mT m w) 101 i x) 102 i y) 100 4 (nI (i + 1)) 101 i = x from upd_eq]
      exact tRel.new z1 g3.1 c4
    · rw [show e_set (e_set (e_set (mT m w) 101 i x) 102 i y) 100 4 (nI (i + 1)) 102 i = y from upd_eq]
      exact tRel.new z2 g3.2 c5
    · rw [show e_set (e_set (e_set (mT m w) 101 i x) 102 i y) 100 4 (nI (i + 1)) 104 i = mT m w 104 i from rfl, z4]
      decide
  · have hd := (h2 i (by omega)).c (c' := c') (fun q hq => c1 _ (by omega) (by omega) (by omega) (by omega))
    obtain ⟨d1, d2, d3⟩ := hd
    refine ⟨?_, ?_, d3⟩
    · rw [e1 i e]; exact d1
    · rw [e2 i e]; exact d2
/-! sleep -/
theorem cFill_at {v : eV} {n j : Nat} {x : Int32} : ∀ k, cFill v n x k n j = if j < k then x else v n j
  | 0 => by rw [if_neg (by omega)]; rfl
  | k + 1 => by
    show e_set (cFill v n x k) n k x n j = _
    rw [es_eq]
    by_cases e : j = k
    · subst e
      rw [upd_eq, if_pos (by omega)]
    · rw [upd_ne e, cFill_at k]
      by_cases g : j < k
      · rw [if_pos g, if_pos (by omega)]
      · rw [if_neg g, if_neg (by omega)]
theorem cFill_n2 {v : eV} {n m : Nat} {x : Int32} (h : m ≠ n) : ∀ k, cFill v n x k m = v m
  | 0 => rfl
  | k + 1 => (es_ne h).trans (cFill_n2 h k)
theorem cFreeR_ne {v : eV} {m : Nat} : ∀ r, (∀ i, i < r → m ≠ 5 + i) → cFreeR v r m = v m
  | 0, _ => rfl
  | r + 1, h => (cFill_n2 (h r (by omega)) 13).trans (cFreeR_ne r (fun i hi => h i (by omega)))
theorem cFreeR_at {v : eV} {i j : Nat} (hj : j < 13) : ∀ r, i < r → cFreeR v r (5 + i) j = -1
  | 0, h => absurd h (Nat.not_lt_zero _)
  | r + 1, h => by
    show cFill (cFreeR v r) (5 + r) (-1) 13 (5 + i) j = -1
    by_cases e : i = r
    · subst e
      rw [cFill_at, if_pos hj]
    · rw [cFill_n2 (by omega)]
      exact cFreeR_at hj r (by omega)
theorem cRest_ne {v : eV} {m : Nat} : ∀ n, (∀ i, i < n → m ≠ 20 + 7 * i) → cRest v n m = v m
  | 0, _ => rfl
  | n + 1, h => (es_ne (h n (by omega))).trans (cRest_ne n (fun i hi => h i (by omega)))
theorem cRest_at {v : eV} {i : Nat} : ∀ n, i < n → cRest v n (20 + 7 * i) = upd (v (20 + 7 * i)) 2 (cMax 0 (v (20 + 7 * i) 2 - 25))
  | 0, h => absurd h (Nat.not_lt_zero _)
  | n + 1, h => by
    show e_set (cRest v n) (20 + 7 * n) 2 (cMax 0 (cRest v n (20 + 7 * n) 2 - 25)) (20 + 7 * i) = _
    by_cases e : i = n
    · subst e
      rw [es_eq, cRest_ne i (fun q hq => by omega)]
    · rw [es_ne (by omega)]
      exact cRest_at n (by omega)
theorem mFrees_ne {v : eV} {m : Nat} (h : m ≠ 113) : ∀ n, mFrees v n m = v m
  | 0 => rfl
  | n + 1 => (es_ne h).trans (mFrees_ne h n)
theorem mFrees_at {v : eV} {j : Nat} : ∀ n, j < n → mFrees v n 113 j = -1
  | 0, h => absurd h (Nat.not_lt_zero _)
  | n + 1, h => by
    show e_set (mFrees v n) 113 n (-1) 113 j = -1
    rw [es_eq]
    by_cases e : j = n
    · subst e; rw [upd_eq]
    · rw [upd_ne e]; exact mFrees_at n (by omega)
theorem mRest_ne {v : eV} {m : Nat} (h : m ≠ 104) : ∀ n, mRest v n m = v m
  | 0 => rfl
  | n + 1 => (es_ne h).trans (mRest_ne h n)
def restV (x : Int32) : Int32 := if x < 25 then 0 else x - 25
theorem mRest_at {v : eV} {j : Nat} : ∀ n, mRest v n 104 j = if j < n then restV (v 104 j) else v 104 j
  | 0 => by rw [if_neg (by omega)]; rfl
  | n + 1 => by
    show e_set (mRest v n) 104 n (restV (mRest v n 104 n)) 104 j = _
    rw [es_eq]
    by_cases e : j = n
    · subst e
      rw [upd_eq, mRest_at j, if_neg (Nat.lt_irrefl _), if_pos (by omega)]
    · rw [upd_ne e, mRest_at n]
      by_cases g : j < n
      · rw [if_pos g, if_pos (by omega)]
      · rw [if_neg g, if_neg (by omega)]
theorem rest_eq {x : Int32} (h : mIn x 0 60 = true) : cMax 0 (x - 25) = restV x ∧ mIn (restV x) 0 60 = true := by
  obtain ⟨a1, a2⟩ := mIn_int.mp h
  have e0 : (0 : Int32).toInt = 0 := by decide
  have e6 : (60 : Int32).toInt = 60 := by decide
  have e25 : (25 : Int32).toInt = 25 := by decide
  rw [e0] at a1
  rw [e6] at a2
  have es := i_sub (a := x) (b := 25) (by omega) (by omega)
  rw [e25] at es
  unfold cMax restV
  by_cases g : x < 25
  · rw [if_pos g]
    rw [Int32.lt_iff_toInt_lt, e25] at g
    rw [if_neg (by rw [Int32.lt_iff_toInt_lt, es, e0]; omega)]
    exact ⟨rfl, by decide⟩
  · rw [if_neg g]
    rw [Int32.lt_iff_toInt_lt, e25] at g
    refine ⟨?_, mIn_int.mpr (by rw [es, e0, e6]; omega)⟩
    by_cases q : 0 < x - 25
    · rw [if_pos q]
    · rw [if_neg q]
      rw [Int32.lt_iff_toInt_lt, es, e0] at q
      exact Int32.toInt_inj.mp (by rw [es, e0]; omega)
theorem r_sleep {dn ln : Nat} {c m : eV} (h : RR dn ln c m) : cRest (cFreeR c 3) dn 0 4 + 1 = mSleepS m 100 15 ∧ RR dn ln (cSleepS c dn) (mSleepS m) := by
  have h8 := h.d8
  have h12 := h.l12
  have hc : ∀ n, n < 100 → n ≠ 0 → (∀ i, i < 3 → n ≠ 5 + i) → (∀ i, i < dn → n ≠ 20 + 7 * i) → cSleepS c dn n = c n := fun n h1 h2 h3 h4 => (es_ne h2).trans ((cRest_ne dn h4).trans (cFreeR_ne 3 h3))
  have hm : ∀ n, 101 ≤ n → n ≠ 104 → n ≠ 113 → mSleepS m n = m n := fun n h1 h2 h3 => (mRest_ne h2 8).trans ((mFrees_ne h3 39).trans ((es_ne (by omega)).trans (es_ne (by omega))))
  have h100 : mSleepS m 100 = upd (upd (m 100) 16 0) 15 (m 100 15 + 1) := (mRest_ne (by decide) 8).trans ((mFrees_ne (by decide) 39).trans (es_eq.trans rfl))
  have h104 : ∀ j, j < 8 → mSleepS m 104 j = restV (m 104 j) := fun j hj => by
    show mRest _ 8 104 j = _
    rw [mRest_at, if_pos hj, mFrees_ne (by decide)]
    rfl
  have c0 : cRest (cFreeR c 3) dn 0 = c 0 := (cRest_ne dn (fun i hi => by omega)).trans (cFreeR_ne 3 (fun i hi => by omega))
  obtain ⟨h1, h2, h3, h4, h5, h6, h7, h9⟩ := h
  refine ⟨?_, h1.m (by rw [h100]; rfl) (by rw [h100]; rfl) (fun n a b => hm n (by omega) (by omega) (by omega)), fun i hi => ?_, fun i a b => ?_, fun l hl => ((h4 l hl).c (hc _ (by omega) (by omega) (fun i hi => by omega) (fun i hi => by omega))).m (fun n a b => hm n (by omega) (by omega) (by omega)), fun l a b => by rw [hm 111 (by decide) (by decide) (by decide)]; exact h5 l a b, h6.cm (hc 3 (by decide) (by decide) (fun i hi => by omega) (fun i hi => by omega)) (hm 112 (by decide) (by decide) (by decide)), fun r hr j hj => ?_, ?_⟩
  · rw [c0, h100, upd_eq, h9]
  · obtain ⟨d1, d2, d3, d4, d5, d6⟩ := h2 i hi
    have e20 : cSleepS c dn (20 + 7 * i) = upd (c (20 + 7 * i)) 2 (cMax 0 (c (20 + 7 * i) 2 - 25)) := (es_ne (by omega)).trans ((cRest_at dn hi).trans (by rw [cFreeR_ne 3 (fun q hq => by omega)]))
    have eX : gX (mSleepS m) i = gX m i := by unfold gX; rw [hm 105 (by decide) (by decide) (by decide)]
    have eY : gY (mSleepS m) i = gY m i := by unfold gY; rw [hm 106 (by decide) (by decide) (by decide)]
    obtain ⟨q1, q2⟩ := rest_eq d6
    refine ⟨?_, ?_, ?_, ?_, ?_, ?_⟩
    · rw [hm 101 (by decide) (by decide) (by decide), eX]
      exact d1.c (fun k hk => hc _ (by omega) (by omega) (fun q hq => by omega) (fun q hq => by omega))
    · rw [hm 102 (by decide) (by decide) (by decide), eY]
      exact d2.c (fun k hk => hc _ (by omega) (by omega) (fun q hq => by omega) (fun q hq => by omega))
    · rw [e20, upd_ne (by decide), hm 103 (by decide) (by decide) (by decide)]
      exact d3
    · rw [hm 103 (by decide) (by decide) (by decide)]
      exact d4
    · rw [e20, upd_eq, h104 i (by omega), d5, q1]
    · rw [h104 i (by omega)]
      exact q2
  · obtain ⟨z1, z2, z3, z4⟩ := h3 i a b
    have eX : gX (mSleepS m) i = gX m i := by unfold gX; rw [hm 105 (by decide) (by decide) (by decide)]
    have eY : gY (mSleepS m) i = gY m i := by unfold gY; rw [hm 106 (by decide) (by decide) (by decide)]
    refine ⟨by rw [eX]; exact z1, by rw [eY]; exact z2, by rw [hm 103 (by decide) (by decide) (by decide)]; exact z3, ?_⟩
    rw [h104 i b, z4]
    decide
  · have e1 : cSleepS c dn (5 + r) j = -1 := by
      rw [show cSleepS c dn (5 + r) = cFreeR c 3 (5 + r) from (es_ne (by omega)).trans (cRest_ne dn (fun i hi => by omega))]
      exact cFreeR_at hj 3 hr
    have e2 : mSleepS m 113 (13 * r + j) = -1 := by
      rw [show mSleepS m 113 = mFrees (e_set (mT m 0) 100 15 (m 100 15 + 1)) 39 113 from mRest_ne (by decide) 8]
      exact mFrees_at 39 (by omega)
    rw [e1, e2]
    exact ⟨rfl, Or.inl rfl⟩
  · rw [show cSleepS c dn 0 = upd (cRest (cFreeR c 3) dn 0) 4 (cRest (cFreeR c 3) dn 0 4 + 1) from es_eq, upd_eq, c0, h100, upd_eq, h9]

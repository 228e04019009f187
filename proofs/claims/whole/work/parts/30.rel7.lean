/-! THE RELATION under hurt -/
theorem firstN_snoc {P : Nat → Bool} : ∀ (k i : Nat), i + k < 2 ^ 30 → firstN P (k + 1) i = if firstN P k i < 0 then (if P (i + k) = true then nI (i + k) else -1) else firstN P k i
  | 0, i, h => by
    show (if P i = true then nI i else -1) = if (-1 : Int32) < 0 then (if P (i + 0) = true then nI (i + 0) else -1) else -1
    rw [if_pos (show (-1 : Int32) < 0 by decide)]
    rfl
  | k + 1, i, h => by
    by_cases g : P i = true
    · have e1 : firstN P (k + 1) i = nI i := if_pos g
      have e2 : firstN P (k + 1 + 1) i = nI i := if_pos g
      rw [e1, e2, if_neg (nI_pos (n := i) (by omega))]
    · have e1 : firstN P (k + 1) i = firstN P k (i + 1) := if_neg g
      have e2 : firstN P (k + 1 + 1) i = firstN P (k + 1) (i + 1) := if_neg g
      rw [e1, e2, firstN_snoc k (i + 1) (by omega), show i + 1 + k = i + (k + 1) by omega]
theorem firstN_neg {P : Nat → Bool} : ∀ (k i : Nat), i + k < 2 ^ 30 → firstN P k i < 0 → firstN P k i = -1 ∧ ∀ j, i ≤ j → j < i + k → P j = false
  | 0, i, _, _ => ⟨rfl, fun j h1 h2 => by omega⟩
  | k + 1, i, hb, h => by
    have e : firstN P (k + 1) i = if P i = true then nI i else firstN P k (i + 1) := rfl
    rw [e] at h ⊢
    by_cases g : P i = true
    · rw [if_pos g] at h
      exact absurd h (nI_pos (by omega))
    · rw [if_neg g] at h ⊢
      obtain ⟨q1, q2⟩ := firstN_neg k (i + 1) (by omega) h
      refine ⟨q1, fun j h1 h2 => ?_⟩
      by_cases e : j = i
      · subst e; exact Bool.not_eq_true _ ▸ g
      · exact q2 j (by omega) (by omega)
theorem firstN_m1 {P : Nat → Bool} {k i : Nat} (hb : i + k < 2 ^ 30) : firstN P k i = -1 ↔ firstN P k i < 0 := ⟨fun e => by rw [e]; decide, fun h => (firstN_neg k i hb h).1⟩
/-- the best of needs 0, 2, 3 -/
theorem best_eq {f : Nat → Int32} (hf : ∀ j, f j = 0 ∨ f j = 2 ∨ f j = 3) : ∀ n, n < 1000 → cBest f n = if firstN (fun j => decide (f j = 0)) n 0 < 0 then (if firstN (fun j => decide (f j = 2)) n 0 < 0 then (-1, 3) else (firstN (fun j => decide (f j = 2)) n 0, 2)) else (firstN (fun j => decide (f j = 0)) n 0, 0)
  | 0, _ => by
    show ((-1 : Int32), (3 : Int32)) = if (-1 : Int32) < 0 then (if (-1 : Int32) < 0 then ((-1 : Int32), (3 : Int32)) else (-1, 2)) else (-1, 0)
    rw [if_pos (show (-1 : Int32) < 0 by decide), if_pos (show (-1 : Int32) < 0 by decide)]
  | n + 1, hn => by
    show (if f n < (cBest f n).2 then (nI n, f n) else cBest f n) = _
    rw [best_eq hf n (by omega), firstN_snoc (P := fun j => decide (f j = 0)) n 0 (by omega), firstN_snoc (P := fun j => decide (f j = 2)) n 0 (by omega), Nat.zero_add]
    have hp := nI_pos (n := n) (by omega)
    by_cases g0 : firstN (fun j => decide (f j = 0)) n 0 < 0
    · by_cases g2 : firstN (fun j => decide (f j = 2)) n 0 < 0
      · rcases hf n with e | e | e <;> simp [e, g0, g2, hp]
      · rcases hf n with e | e | e <;> simp [e, g0, g2, hp]
    · rcases hf n with e | e | e <;> simp [e, g0, hp]
theorem b7 (a b1 b2 b3 c1 c2 c3 : Bool) : (a && b1 && b2 && b3 && (a && c1 && c2 && c3)) = (a && b1 && c1 && b2 && c2 && b3 && c3) := by
  cases a <;> cases b1 <;> cases b2 <;> cases b3 <;> cases c1 <;> cases c2 <;> cases c3 <;> rfl
theorem r_can {dn ln : Nat} {c m : eV} (h : RR dn ln c m) {w lv k : Nat} (hw : w < dn) (hlv : lv < dn) (hk : k < 64) : cCanD c (20 + 7 * w) (20 + 7 * lv) k = mCanCome m w lv k := by
  unfold cCanD cCanT mCanCome mWX mWY cWay
  rw [h.X hw hk, h.X hlv hk, h.Y hw hk, h.Y hlv hk, b7]
  have hd := h.2.1 w hw
  by_cases e : k = 63
  · rw [decide_eq_true e, decide_eq_false (p := k < 63) (by omega)]
    simp only [Bool.false_and, Bool.not_true]
  · rw [decide_eq_true (p := k < 63) (by omega), decide_eq_false e, hd.1.2.1 k hk, hd.2.1.2.1 k hk, hd.1.2.1 (k + 1) (by omega), hd.2.1.2.1 (k + 1) (by omega)]
    rfl
theorem lifts0 {m : eV} {d k : Int32} {n : Nat} (hn : n ≤ 12) : 0 < mLiftsOf m d k n ↔ ¬ mLiftsOf m d k n = 0 := by
  have := lifts_bd (m := m) (d := d) (k := k) hn
  refine e_pos0 ?_
  rw [Int32.lt_iff_toInt_lt, show (0 : Int32).toInt = 0 by decide]
  omega
theorem r_need {dn ln : Nat} {c m : eV} (h : RR dn ln c m) {l lv j k dl : Nat} (hj : j < dn) (hlv : lv < dn) (hdl : dl < dn) (hk : k < 64) (e0 : c (80 + l) 0 = nI k) : cNeed c l lv j k dl ln = if mNear m ln k dl j = true then 0 else if mFar m ln k lv j = true then 2 else 3 := by
  unfold cNeed mNear mFar mFree cBesL
  rw [e0, r_liftsOf h _ hk, r_beside h hj hdl hk, r_can h hj hlv hk, decide_eq_decide.mpr (lifts0 h.l12)]
  have eo := h.out0 hj
  have eo2 : cOut c j = !decide (m 103 j = 0) := by rw [← eo, Bool.not_not]
  rw [eo2]
  have ed : decide (¬ mLiftsOf m (nI j) (nI k) ln = 0) = !decide (mLiftsOf m (nI j) (nI k) ln = 0) := by
    by_cases q : mLiftsOf m (nI j) (nI k) ln = 0
    · rw [decide_eq_true q, decide_eq_false (fun z => z q)]; rfl
    · rw [decide_eq_false q, decide_eq_true q]; rfl
  rw [ed]
  cases decide (m 103 j = 0) <;> cases decide (mLiftsOf m (nI j) (nI k) ln = 0) <;> cases mBeside m j dl k <;> cases mCanCome m j lv k <;> rfl
theorem r_find {dn ln : Nat} {c m : eV} (h : RR dn ln c m) {l lv k dl : Nat} (hlv : lv < dn) (hdl : dl < dn) (hk : k < 64) (e0 : c (80 + l) 0 = nI k) : cFind c l lv k dl dn ln = if firstN (mNear m ln k dl) dn 0 < 0 then (if firstN (mFar m ln k lv) dn 0 < 0 then (-1, 3) else (firstN (mFar m ln k lv) dn 0, 2)) else (firstN (mNear m ln k dl) dn 0, 0) := by
  have h8 := h.d8
  unfold cFind
  have ec : ∀ (f g : Nat → Int32) n, (∀ j, j < n → f j = g j) → cBest f n = cBest g n := by
    intro f g n
    induction n with
    | zero => intro _; rfl
    | succ n ih =>
      intro q
      show (if f n < (cBest f n).2 then (nI n, f n) else cBest f n) = (if g n < (cBest g n).2 then (nI n, g n) else cBest g n)
      rw [ih (fun j hj => q j (by omega)), q n (by omega)]
  rw [ec _ (fun j => if mNear m ln k dl j = true then 0 else if mFar m ln k lv j = true then 2 else 3) dn (fun j hj => r_need h hj hlv hdl hk e0)]
  rw [best_eq (fun j => by
    show (if mNear m ln k dl j = true then (0 : Int32) else if mFar m ln k lv j = true then 2 else 3) = 0 ∨ _
    cases mNear m ln k dl j <;> cases mFar m ln k lv j <;> simp) dn (by omega)]
  have e1 : firstN (fun j => decide ((if mNear m ln k dl j = true then (0 : Int32) else if mFar m ln k lv j = true then 2 else 3) = 0)) dn 0 = firstN (mNear m ln k dl) dn 0 := firstN_congr dn 0 (fun j _ _ => by cases mNear m ln k dl j <;> cases mFar m ln k lv j <;> rfl)
  rw [e1]
  by_cases g : firstN (mNear m ln k dl) dn 0 < 0
  · rw [if_pos g, if_pos g]
    have q := (firstN_neg dn 0 (by omega) g).2
    have e2 : firstN (fun j => decide ((if mNear m ln k dl j = true then (0 : Int32) else if mFar m ln k lv j = true then 2 else 3) = 2)) dn 0 = firstN (mFar m ln k lv) dn 0 := firstN_congr dn 0 (fun j a b => by rw [q j a b]; cases mFar m ln k lv j <;> rfl)
    rw [e2]
  · rw [if_neg g, if_neg g]
/-! one lift's place is taken -/
theorem RR.gone {dn ln : Nat} {c m : eV} (h : RR dn ln c m) {l : Nat} (hl : l < ln) : RR dn ln (e_set c (80 + l) 4 1) (e_set m 111 l 1) := by
  have h8 := h.d8
  have h12 := h.l12
  obtain ⟨h1, h2, h3, h4, h5, h6, h7, h9⟩ := h
  refine ⟨h1.m rfl rfl (fun n a b => es_ne (by omega)), fun i hi => ((h2 i hi).c (fun q hq => es_ne (by omega))).m (fun n a b => es_ne (by omega)), fun i a b => (h3 i a b).m (fun n a b => es_ne (by omega)), fun q hq => ?_, fun q a b => ?_, h6.cm (es_ne (by omega)) (es_ne (by decide)), h7.cm (fun r hr => es_ne (by omega)) (es_ne (by decide)), by rw [es_ne (by omega), es_ne (by decide)]; exact h9⟩
  · obtain ⟨b1, b2, b3, b4, b5, b6, b7⟩ := h4 q hq
    by_cases e : q = l
    · subst e
      refine ⟨?_, ?_, ?_, ?_, ?_, ?_, b7⟩
      · rw [es_eq]; exact b1
      · rw [es_eq]; exact b2
      · rw [es_eq]; exact b3
      · rw [es_eq]; exact b4
      · rw [es_eq, es_eq, upd_eq, upd_eq]
      · rw [es_eq, upd_eq]; exact Or.inr rfl
    · have ec : e_set c (80 + l) 4 1 (80 + q) = c (80 + q) := es_ne (by omega)
      have em : e_set m 111 l 1 111 q = m 111 q := upd_ne e
      exact ⟨by rw [ec]; exact b1, by rw [ec]; exact b2, by rw [ec]; exact b3, by rw [ec]; exact b4, by rw [ec, em]; exact b5, by rw [em]; exact b6, b7⟩
  · rw [show e_set m 111 l 1 111 q = m 111 q from upd_ne (by omega)]
    exact h5 q a b
theorem mTake_109 {m : eV} {l : Nat} {a b : Int32} (q : Nat) : mTake m l a b 109 q = if q = l then (if m 109 l = a then b else m 109 l) else m 109 q := rfl
theorem mTake_110 {m : eV} {l : Nat} {a b : Int32} (q : Nat) : mTake m l a b 110 q = if q = l then (if m 110 l = a then b else m 110 l) else m 110 q := rfl
theorem mTake_ne {m : eV} {l : Nat} {a b : Int32} {n : Nat} (h1 : n ≠ 109) (h2 : n ≠ 110) : mTake m l a b n = m n := (es_ne h2).trans (es_ne h1)
theorem RR.take {dn ln : Nat} {c m : eV} (h : RR dn ln c m) {l w : Nat} {a : Int32} (hl : l < ln) (hw : w < dn) (ha : m 109 l = a ∨ m 110 l = a) (n1 : m 109 l ≠ nI w) (n2 : m 110 l ≠ nI w) : RR dn ln (cRepl c (80 + l) a (nI w)) (mTake m l a (nI w)) := by
  have h8 := h.d8
  have h12 := h.l12
  have hmI := mI_taken (l := l) (h := a) h.1 hw
  obtain ⟨h1, h2, h3, h4, h5, h6, h7, h9⟩ := h
  have hc : ∀ n, n ≠ 80 + l → cRepl c (80 + l) a (nI w) n = c n := fun n hn => by
    unfold cRepl
    split <;> exact es_ne hn
  refine ⟨hmI, fun i hi => ((h2 i hi).c (fun q hq => hc _ (by omega))).m (fun n a b => mTake_ne (by omega) (by omega)), fun i a b => (h3 i a b).m (fun n a b => mTake_ne (by omega) (by omega)), fun q hq => ?_, fun q a b => by rw [mTake_ne (by decide) (by decide)]; exact h5 q a b, h6.cm (hc _ (by omega)) (mTake_ne (by decide) (by decide)), h7.cm (fun r hr => hc _ (by omega)) (mTake_ne (by decide) (by decide)), by rw [hc _ (by omega), mTake_ne (by decide) (by decide)]; exact h9⟩
  obtain ⟨b1, b2, b3, b4, b5, b6, b7⟩ := h4 q hq
  unfold lRel
  rw [mTake_ne (n := 107) (by decide) (by decide), mTake_ne (n := 108) (by decide) (by decide), mTake_ne (n := 111) (by decide) (by decide), mTake_109, mTake_110]
  by_cases e : q = l
  · subst e
    rw [if_pos rfl, if_pos rfl]
    by_cases g : m 109 q = a
    · have g2 : ¬ m 110 q = a := fun z => b7 (g.trans z.symm)
      have ec : cRepl c (80 + q) a (nI w) = e_set c (80 + q) 2 (nI w) := if_pos (b3.trans g)
      rw [if_pos g, if_neg g2, ec, es_eq]
      exact ⟨b1, b2, rfl, b4, b5, b6, fun z => n2 z.symm⟩
    · have g2 : m 110 q = a := ha.resolve_left g
      have ec : cRepl c (80 + q) a (nI w) = e_set c (80 + q) 3 (nI w) := if_neg (fun z => g (b3.symm.trans z))
      rw [if_neg g, if_pos g2, ec, es_eq]
      exact ⟨b1, b2, b3, rfl, b5, b6, n1⟩
  · rw [if_neg e, if_neg e, hc _ (by omega)]
    exact ⟨b1, b2, b3, b4, b5, b6, b7⟩
/-! one comes to another's place -/
theorem mComes_eq (m : eV) (d h k : Nat) : mComes m d h k = e_set (e_set (e_set (e_set m 105 (64 * d + k) (m 105 (64 * d + k) + mWX m d h k)) 106 (64 * d + k) (m 106 (64 * d + k) + mWY m d h k)) 105 (64 * d + k + 1) (m 105 (64 * d + k + 1) - mWX m d h k)) 106 (64 * d + k + 1) (m 106 (64 * d + k + 1) - mWY m d h k) := by
  unfold mComes
  have e1 : ∀ x y : Int32, e_set (e_set m 105 (64 * d + k) x) 106 (64 * d + k) y 105 (64 * d + k + 1) = m 105 (64 * d + k + 1) := fun x y => upd_ne (by omega)
  have e2 : ∀ x y z : Int32, e_set (e_set (e_set m 105 (64 * d + k) x) 106 (64 * d + k) y) 105 (64 * d + k + 1) z 106 (64 * d + k + 1) = m 106 (64 * d + k + 1) := fun x y z => upd_ne (by omega)
  rw [e1, e2]
  rfl
theorem es_comm {v : eV} {n n' k k' : Nat} {x x' : Int32} (h : n ≠ n') : e_set (e_set v n k x) n' k' x' = e_set (e_set v n' k' x') n k x := by
  funext q
  unfold e_set
  have h' : ¬ n' = n := fun z => h z.symm
  by_cases e : q = n
  · subst e
    simp [h]
  · by_cases e2 : q = n'
    · subst e2
      simp [e]
    · simp [e, e2]
theorem RR.visit {dn ln : Nat} {c m : eV} (h : RR dn ln c m) {w lv k : Nat} (hw : w < dn) (hlv : lv < dn) (hk : k < 63) (hcan : mCanCome m w lv k = true) : RR dn ln (cVisitD c (20 + 7 * w) (20 + 7 * lv) k) (mComes m w lv k) := by
  have h8 := h.d8
  have hd := h.2.1 w hw
  unfold mCanCome at hcan
  simp only [Bool.and_eq_true] at hcan
  obtain ⟨⟨⟨⟨⟨⟨-, -⟩, -⟩, q1⟩, q2⟩, q3⟩, q4⟩ := hcan
  have a1 := h.wX (k := k) hw (by omega) q1
  have a2 := a1.wX (k := k + 1) hw (by omega) q3
  have a3 := a2.wY (k := k) hw (by omega) q2
  have a4 := a3.wY (k := k + 1) hw (by omega) q4
  have em : mComes m w lv k = e_set (e_set (e_set (e_set m 105 (64 * w + k) (m 105 (64 * w + k) + mWX m w lv k)) 105 (64 * w + (k + 1)) (m 105 (64 * w + k + 1) - mWX m w lv k)) 106 (64 * w + k) (m 106 (64 * w + k) + mWY m w lv k)) 106 (64 * w + (k + 1)) (m 106 (64 * w + k + 1) - mWY m w lv k) := by
    rw [mComes_eq, es_comm (n := 106) (n' := 105) (by decide)]
    rfl
  rw [em]
  have wX : cWay c (20 + 7 * w + 1) (20 + 7 * lv + 1) k = mWX m w lv k := by
    unfold cWay mWX
    rw [h.X hw (by omega), h.X hlv (by omega)]
  have wY : cWay c (20 + 7 * w + 4) (20 + 7 * lv + 4) k = mWY m w lv k := by
    unfold cWay mWY
    rw [h.Y hw (by omega), h.Y hlv (by omega)]
  have vX : cVisit c (20 + 7 * w + 1) (20 + 7 * lv + 1) k = cWrite (cWrite c (20 + 7 * w + 1) k (m 105 (64 * w + k) + mWX m w lv k)) (20 + 7 * w + 1) (k + 1) (m 105 (64 * w + k + 1) - mWX m w lv k) := by
    unfold cVisit
    rw [wX, hd.1.2.1 k (by omega), cWrite_m, upd_ne (by omega), hd.1.2.1 (k + 1) (by omega)]
    rfl
  have hne : ∀ n, n ≠ 20 + 7 * w + 1 + 1 → n ≠ 20 + 7 * w + 1 + 2 → cVisit c (20 + 7 * w + 1) (20 + 7 * lv + 1) k n = c n := fun n a b => cVisit_ne a b
  unfold cVisitD
  rw [← vX] at a2 a3 a4
  generalize cVisit c (20 + 7 * w + 1) (20 + 7 * lv + 1) k = C at *
  have vY : cVisit C (20 + 7 * w + 4) (20 + 7 * lv + 4) k = cWrite (cWrite C (20 + 7 * w + 4) k (m 106 (64 * w + k) + mWY m w lv k)) (20 + 7 * w + 4) (k + 1) (m 106 (64 * w + k + 1) - mWY m w lv k) := by
    unfold cVisit
    have wY' : cWay C (20 + 7 * w + 4) (20 + 7 * lv + 4) k = mWY m w lv k := by
      rw [← wY]
      unfold cWay
      rw [hne _ (by omega) (by omega), hne _ (by omega) (by omega)]
    rw [wY', hne (20 + 7 * w + 4 + 1) (by omega) (by omega), hd.2.1.2.1 k (by omega), cWrite_m, upd_ne (by omega), hne (20 + 7 * w + 4 + 1) (by omega) (by omega), hd.2.1.2.1 (k + 1) (by omega)]
    rfl
  rw [vY]
  exact a4

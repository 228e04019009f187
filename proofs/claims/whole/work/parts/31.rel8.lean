/-! THE RELATION under hurt: the step -/
theorem sum_b0 {f : Nat → Bool} : ∀ n, n ≤ 12 → sumN (fun i => bI (f i)) n = 0 → ∀ i, i < n → f i = false
  | 0, _, _, i, hi => absurd hi (Nat.not_lt_zero _)
  | n + 1, hn, h, i, hi => by
    have h : sumN (fun i => bI (f i)) n + bI (f n) = 0 := h
    have b1 := sumN_bd (g := fun i => bI (f i)) (A := 0) (B := 1) (by decide) (by decide) (by decide) (by decide) n (by omega) (fun j _ => bI_int _)
    have b2 := bI_int (f n)
    have es := i_add (a := sumN (fun i => bI (f i)) n) (b := bI (f n)) (by omega) (by omega)
    have e0 : (0 : Int32).toInt = 0 := by decide
    rw [h, e0] at es
    have s0 : sumN (fun i => bI (f i)) n = 0 := Int32.toInt_inj.mp (by rw [e0]; omega)
    have f0 : bI (f n) = 0 := Int32.toInt_inj.mp (by rw [e0]; omega)
    by_cases e : i = n
    · subst e; exact bI_0.mp f0
    · exact sum_b0 n (by omega) s0 i (by omega)
theorem free_not {dn ln : Nat} {c m : eV} (h : RR dn ln c m) {l w k : Nat} (hl : l < ln) (hg : m 111 l = 0) (ek : m 107 l = nI k) (hf : mFree m w ln k = true) : m 109 l ≠ nI w ∧ m 110 l ≠ nI w := by
  unfold mFree at hf
  have h0 := of_decide_eq_true (Bool.and_eq_true_iff.mp hf).2
  have q := sum_b0 ln h.l12 (show sumN (fun i => bI (decide (m 111 i = 0) && decide (m 107 i = nI k) && mOf m i (nI w))) ln = 0 from h0) l hl
  rw [hg, ek] at q
  unfold mOf at q
  constructor
  · intro e
    rw [e] at q
    simp at q
  · intro e
    rw [e] at q
    simp at q
theorem neg1 {n : Nat} (h : n < 2 ^ 30) : ¬ nI n = -1 := fun e => nI_pos (n := n) (by omega) (by rw [e]; decide)
theorem r_mends {dn ln : Nat} {c m : eV} (h : RR dn ln c m) {l lv k dl : Nat} (hl : l < ln) (hlv : lv < dn) (hdl : dl < dn) (hk : k < 64) (ek : m 107 l = nI k) (hg : m 111 l = 0) (hby : m 109 l = nI lv ∨ m 110 l = nI lv) : cReplV c l lv k dl dn ln = mMendsV m dn ln l k dl lv ∧ RR dn ln (cReplS c l lv k dl dn ln) (mMendsS m dn ln l k dl lv) := by
  have e0 : c (80 + l) 0 = nI k := (h.2.2.2.1 l hl).1.trans ek
  have h8 := h.d8
  unfold cReplV cReplS mMendsV mMendsS
  rw [r_find h hlv hdl hk e0]
  by_cases g1 : firstN (mNear m ln k dl) dn 0 < 0
  · rw [if_pos g1, if_pos g1, if_pos g1]
    by_cases g2 : firstN (mFar m ln k lv) dn 0 < 0
    · rw [if_pos g2, if_pos g2, if_pos g2]
      exact ⟨if_pos rfl, by rw [if_pos rfl]; exact h.gone hl⟩
    · rw [if_neg g2, if_neg g2, if_neg g2]
      obtain ⟨w, -, hw, ew, hf⟩ := firstN_get dn 0 (by omega) g2
      have hw : w < dn := by omega
      rw [ew]
      show (if nI w = -1 then (0 : Int32) else 2) = 2 ∧ RR dn ln (if nI w = -1 then _ else cRepl (if (0 : Int32) < 2 then cVisitD c (20 + 7 * nN (nI w)) (20 + 7 * lv) k else c) (80 + l) (nI lv) (nI w)) _
      rw [if_neg (neg1 (n := w) (by omega)), if_neg (neg1 (n := w) (by omega)), if_pos (show (0 : Int32) < 2 by decide), nN_of (x := nI w) rfl (by omega)]
      refine ⟨rfl, ?_⟩
      have hk63 := mFar_c hf
      unfold mFar at hf
      obtain ⟨hf1, hf2⟩ := Bool.and_eq_true_iff.mp hf
      obtain ⟨n1, n2⟩ := free_not h hl hg ek hf1
      exact (h.visit hw hlv (by omega) hf2).take hl hw hby n1 n2
  · rw [if_neg g1, if_neg g1, if_neg g1]
    obtain ⟨w, -, hw, ew, hf⟩ := firstN_get dn 0 (by omega) g1
    have hw : w < dn := by omega
    rw [ew]
    show (if nI w = -1 then (0 : Int32) else 0) = 0 ∧ RR dn ln (if nI w = -1 then _ else cRepl (if (0 : Int32) < 0 then cVisitD c (20 + 7 * nN (nI w)) (20 + 7 * lv) k else c) (80 + l) (nI lv) (nI w)) _
    rw [if_neg (neg1 (n := w) (by omega)), if_neg (neg1 (n := w) (by omega)), if_neg (show ¬ (0 : Int32) < 0 by decide)]
    refine ⟨rfl, ?_⟩
    unfold mNear at hf
    obtain ⟨n1, n2⟩ := free_not h hl hg ek (Bool.and_eq_true_iff.mp hf).1
    exact h.take hl hw hby n1 n2
theorem es_self {v : eV} {n k : Nat} : e_set v n k (v n k) = v := by
  funext q
  unfold e_set
  by_cases e : q = n
  · subst e
    rw [if_pos rfl]
    funext j
    unfold upd
    by_cases e2 : j = k
    · subst e2; rw [if_pos rfl]
    · rw [if_neg e2]
  · rw [if_neg e]
theorem r_hurtC {dn ln : Nat} {c m : eV} (h : RR dn ln c m) (d : Int32) : cHurtC c dn d = mHurtC m dn d := by
  unfold cHurtC mHurtC
  rw [okN_eq (by have := h.d8; omega)]
  by_cases g : mOkD dn d = true
  · obtain ⟨i, hi, rfl⟩ := e_okD h.d8 g
    have := h.d8
    rw [nN_of (x := nI i) rfl (by omega), h.out hi]
    simp only [decide_eq_true_eq]
  · rw [if_neg g, if_neg g]
theorem RR.outs {dn ln : Nat} {c m : eV} (h : RR dn ln c m) {d : Nat} (hd : d < dn) : RR dn ln (e_set c (20 + 7 * d) 3 1) (e_set m 103 d 1) := by
  have h8 := h.d8
  have h12 := h.l12
  obtain ⟨h1, h2, h3, h4, h5, h6, h7, h9⟩ := h
  refine ⟨h1, fun i hi => ?_, fun i a b => ?_, fun l hl => (h4 l hl).c (es_ne (by omega)), h5, h6.cm (es_ne (by omega)) (es_ne (by decide)), h7.cm (fun r hr => es_ne (by omega)) (es_ne (by decide)), by rw [es_ne (by omega)]; exact h9⟩
  · obtain ⟨d1, d2, d3, d4, d5, d6⟩ := h2 i hi
    have a1 : tRel (e_set c (20 + 7 * d) 3 1) (20 + 7 * i + 1) (m 101 i) (gX m i) := d1.c (fun q hq => es_ne (by omega))
    have a2 : tRel (e_set c (20 + 7 * d) 3 1) (20 + 7 * i + 4) (m 102 i) (gY m i) := d2.c (fun q hq => es_ne (by omega))
    by_cases e : i = d
    · subst e
      refine ⟨a1, a2, ?_, ?_, ?_, d6⟩
      · rw [es_eq, es_eq, upd_eq, upd_eq]
      · rw [es_eq, upd_eq]; exact Or.inr rfl
      · rw [es_eq, upd_ne (by decide)]; exact d5
    · have ec : e_set c (20 + 7 * d) 3 1 (20 + 7 * i) = c (20 + 7 * i) := es_ne (by omega)
      have em : e_set m 103 d 1 103 i = m 103 i := upd_ne e
      exact ⟨a1, a2, by rw [ec, em]; exact d3, by rw [em]; exact d4, by rw [ec]; exact d5, d6⟩
  · obtain ⟨z1, z2, z3, z4⟩ := h3 i a b
    exact ⟨z1, z2, by rw [show e_set m 103 d 1 103 i = m 103 i from upd_ne (by omega)]; exact z3, z4⟩
theorem mDrop_ne {v : eV} {d : Int32} {q : Nat} (h : q ≠ 111) : ∀ n, mDrop v d n q = v q
  | 0 => rfl
  | n + 1 => (es_ne h).trans (mDrop_ne h n)
theorem mDrop_at {v : eV} {d : Int32} {j : Nat} : ∀ n, j < n → v 108 j = d → mDrop v d n 111 j = 1
  | 0, h, _ => absurd h (Nat.not_lt_zero _)
  | n + 1, h, e => by
    show e_set (mDrop v d n) 111 n (if mDrop v d n 108 n = d then 1 else mDrop v d n 111 n) 111 j = 1
    rw [es_eq, show mDrop v d n 108 = v 108 from mDrop_ne (by decide) n]
    by_cases q : j = n
    · subst q
      rw [upd_eq, if_pos e]
    · rw [upd_ne q]
      exact mDrop_at n (by omega) e
theorem RR.drop {dn ln : Nat} {c m : eV} (h : RR dn ln c m) (d : Int32) : ∀ n, n ≤ ln → RR dn ln (cDrop c d n) (mDrop m d n)
  | 0, _ => h
  | n + 1, hn => by
    have ih := h.drop d n (by omega)
    have e1 : cDrop c d n (80 + n) 1 = mDrop m d n 108 n := (ih.2.2.2.1 n (by omega)).2.1
    show RR dn ln (if cDrop c d n (80 + n) 1 = d then e_set (cDrop c d n) (80 + n) 4 1 else cDrop c d n) (e_set (mDrop m d n) 111 n (if mDrop m d n 108 n = d then 1 else mDrop m d n 111 n))
    rw [e1]
    by_cases g : mDrop m d n 108 n = d
    · rw [if_pos g, if_pos g]
      exact ih.gone (by omega)
    · rw [if_neg g, if_neg g, es_self]
      exact ih
theorem mMendsS_103 {v : eV} {dn ln l k dl h : Nat} : mMendsS v dn ln l k dl h 103 = v 103 ∧ mMendsS v dn ln l k dl h 108 = v 108 := by
  unfold mMendsS
  split
  · split
    · exact ⟨rfl, rfl⟩
    · exact ⟨rfl, rfl⟩
  · exact ⟨rfl, rfl⟩
theorem mMendsS_111 {v : eV} {dn ln l k dl h q : Nat} (e : v 111 q = 1) : mMendsS v dn ln l k dl h 111 q = 1 := by
  unfold mMendsS
  split
  · split
    · show upd (v 111) l 1 q = 1
      unfold upd
      split
      · rfl
      · exact e
    · exact e
  · exact e
def jHurt (m : eV) (ln d : Nat) : Prop := ∀ l, l < ln → m 108 l = nI d → m 111 l = 1
theorem r_hit {dn ln : Nat} {c m : eV} (h : RR dn ln c m) {l d : Nat} (hl : l < ln) (hJ : jHurt m ln d) : cHit c l d = mHit m l d := by
  obtain ⟨b1, b2, b3, b4, b5, b6, b7⟩ := h.2.2.2.1 l hl
  unfold cHit mHit cBy mOf
  rw [b5, b3, b4]
  by_cases e : m 108 l = nI d
  · rw [hJ l hl e]
    rfl
  · rw [decide_eq_false e, Bool.false_or]
theorem r_mendAll {dn ln : Nat} {c m : eV} (h : RR dn ln c m) {d : Nat} (hd : d < dn) (hJ : jHurt m ln d) : ∀ n, n ≤ ln → RR dn ln (cMendAll c dn ln d n).1 (mMendAll m dn ln d n).1 ∧ (cMendAll c dn ln d n).2 = (mMendAll m dn ln d n).2 ∧ jHurt (mMendAll m dn ln d n).1 ln d
  | 0, _ => ⟨h, rfl, hJ⟩
  | n + 1, hn => by
    obtain ⟨i1, i2, i3⟩ := r_mendAll h hd hJ n (by omega)
    obtain ⟨C, y, eC⟩ : ∃ C y, cMendAll c dn ln d n = (C, y) := ⟨_, _, rfl⟩
    obtain ⟨M, z, eM⟩ : ∃ M z, mMendAll m dn ln d n = (M, z) := ⟨_, _, rfl⟩
    rw [eC] at i1 i2
    rw [eM] at i1 i2 i3
    change RR dn ln C M at i1
    change y = z at i2
    change jHurt M ln d at i3
    have h8 := i1.d8
    obtain ⟨k, dl, da, db, hk, hdl, hda, hdb, e1, e2, e3, e4, f1, f2, f3, f4⟩ := i1.lift (l := n) (by omega)
    have eh := r_hit i1 (l := n) (by omega) i3
    by_cases g : mHit M n d = true
    · rw [cMendAll_hit eC (eh.trans g) f1 f2 hk (by omega), mMendAll_hit eM g e1 e2 hk (by omega)]
      unfold mHit at g
      obtain ⟨g1, g2⟩ := Bool.and_eq_true_iff.mp g
      have g1 := of_decide_eq_true g1
      have hby : M 109 n = nI d ∨ M 110 n = nI d := by
        unfold mOf at g2
        rcases Bool.or_eq_true_iff.mp g2 with q | q
        · rcases Bool.or_eq_true_iff.mp q with q | q
          · have := i3 n (by omega) (of_decide_eq_true q)
            rw [g1] at this
            exact absurd this (by decide)
          · exact Or.inl (of_decide_eq_true q)
        · exact Or.inr (of_decide_eq_true q)
      obtain ⟨q1, q2⟩ := r_mends i1 (l := n) (by omega) hd hdl hk e1 g1 hby
      refine ⟨q2, by show y + _ = z + _; rw [i2, q1], fun l hl e => mMendsS_111 (i3 l hl ?_)⟩
      change mMendsS M dn ln n k dl d 108 l = nI d at e
      rw [mMendsS_103.2] at e
      exact e
    · have g' : ¬ cHit C n d = true := by rw [eh]; exact g
      rw [cMendAll_miss eC g', mMendAll_miss eM g]
      exact ⟨i1, by show y = z + 0; rw [Int32.add_zero]; exact i2, i3⟩
theorem r_hurt {dn ln : Nat} {c m : eV} (h : RR dn ln c m) (d : Int32) (g : cHurtC c dn d = 0) : (cMendAll (cHurt0 c ln (nN d)) dn ln (nN d) ln).2 = mHurtV m dn ln d ∧ RR dn ln (cMendAll (cHurt0 c ln (nN d)) dn ln (nN d) ln).1 (mHurtS m dn ln d) := by
  have e0 := g
  rw [r_hurtC h] at e0
  have g2 : ¬ 0 < mHurtC m dn d := by rw [e0]; decide
  obtain ⟨i, hi, rfl⟩ := e_okD h.d8 (mHurtC_ok g2)
  have h8 := h.d8
  unfold mHurtV mHurtS
  rw [if_neg g2, if_neg g2]
  unfold mHurt0 cHurt0
  rw [nN_of (x := nI i) rfl (by omega)]
  generalize mHurtC m dn (nI i) = w
  have hR := ((h.T w).outs hi).drop (nI i) ln (Nat.le_refl _)
  have hJ : jHurt (mDrop (e_set (mT m w) 103 i 1) (nI i) ln) ln i := fun l hl e => mDrop_at ln hl (by
    rw [mDrop_ne (by decide)] at e
    exact e)
  obtain ⟨q1, q2, -⟩ := r_mendAll hR hi hJ ln (Nat.le_refl _)
  exact ⟨q2, q1⟩

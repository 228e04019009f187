/-! THE RELATION under rehearse: the step -/
theorem cCharge_ne {v : eV} {n2 a b q : Nat} {p : Int32} : ∀ n, (∀ i, i < n → q ≠ 20 + 7 * i) → cCharge v n2 p a b n q = v q
  | 0, _ => rfl
  | n + 1, h => by
    unfold cCharge
    split
    · exact (es_ne (h n (by omega))).trans (cCharge_ne n (fun i hi => h i (by omega)))
    · exact cCharge_ne n (fun i hi => h i (by omega))
theorem cPts_congr {v u : eV} {n2 d a b : Nat} (h1 : u (20 + 7 * d + 1 + 1) = v (20 + 7 * d + 1 + 1)) (h2 : u (20 + 7 * d + 4 + 1) = v (20 + 7 * d + 4 + 1)) (h3 : ∀ l, l < n2 → u (80 + l) = v (80 + l)) : cPts u n2 d a b = cPts v n2 d a b := by
  unfold cPts cWayIn cLiftsW cHas cBy
  rw [h1, h2]
  congr 2
  exact sumN_congr (fun l hl => by rw [h3 l hl])
theorem cCharge_at {v : eV} {n2 a b i : Nat} {p : Int32} (h12 : n2 ≤ 12) : ∀ n, n ≤ 8 → cCharge v n2 p a b n (20 + 7 * i) = if i < n ∧ cTakes p i = true then upd (v (20 + 7 * i)) 2 (v (20 + 7 * i) 2 + cPts v n2 i a b) else v (20 + 7 * i)
  | 0, _ => by rw [if_neg (by omega)]; rfl
  | n + 1, hn => by
    by_cases g : cTakes p n = true
    · rw [cCharge_t g]
      by_cases e : i = n
      · subst e
        rw [es_eq, cCharge_ne i (fun q hq => by omega), cPts_congr (cCharge_ne i (fun q hq => by omega)) (cCharge_ne i (fun q hq => by omega)) (fun l hl => cCharge_ne i (fun q hq => by omega)), if_pos ⟨by omega, g⟩]
      · rw [es_ne (by omega), cCharge_at h12 n (by omega)]
        by_cases q : i < n ∧ cTakes p i = true
        · rw [if_pos q, if_pos ⟨by omega, q.2⟩]
        · rw [if_neg q, if_neg (fun z => q ⟨by omega, z.2⟩)]
    · rw [cCharge_f (Bool.not_eq_true _ ▸ g), cCharge_at h12 n (by omega)]
      by_cases q : i < n ∧ cTakes p i = true
      · rw [if_pos q, if_pos ⟨by omega, q.2⟩]
      · rw [if_neg q, if_neg (fun z => q ⟨by
          by_cases e : i = n
          · subst e; exact absurd z.2 g
          · omega, z.2⟩)]
theorem mCharge_ne {v : eV} {ln a b q : Nat} {p : Int32} (h : q ≠ 104) : ∀ n, mCharge v ln p a b n q = v q
  | 0 => rfl
  | n + 1 => (es_ne h).trans (mCharge_ne h n)
theorem mCost_congr {v u : eV} {ln d a n : Nat} (h : ∀ q, q ≠ 104 → u q = v q) : mCost u ln d a n = mCost v ln d a n := by
  unfold mCost mLiftsOf mOf
  rw [h 105 (by decide), h 106 (by decide), h 107 (by decide), h 108 (by decide), h 109 (by decide), h 110 (by decide), h 111 (by decide)]
theorem mCharge_at {v : eV} {ln a b i : Nat} {p : Int32} : ∀ n, n ≤ 8 → mCharge v ln p a b n 104 i = if i < n ∧ bt p i = true then v 104 i + mCost v ln i a (b + 1 - a) else v 104 i
  | 0, _ => by rw [if_neg (by omega)]; rfl
  | n + 1, hn => by
    show e_set (mCharge v ln p a b n) 104 n (mCharge v ln p a b n 104 n + (if (p >>> (nI n &&& 31)) &&& 1 = 1 then mCost (mCharge v ln p a b n) ln n a (b + 1 - a) else 0)) 104 i = _
    rw [es_eq]
    by_cases e : i = n
    · subst e
      rw [upd_eq, mCharge_at i (by omega), if_neg (by omega), mCost_congr (fun q hq => mCharge_ne hq i), b_get (by omega)]
      by_cases g : bt p i = true
      · rw [if_pos g, if_pos rfl, if_pos ⟨by omega, g⟩]
      · rw [if_neg g, if_neg (by decide), if_neg (fun z => g z.2), Int32.add_zero]
    · rw [upd_ne e, mCharge_at n (by omega)]
      by_cases q : i < n ∧ bt p i = true
      · rw [if_pos q, if_pos ⟨by omega, q.2⟩]
      · rw [if_neg q, if_neg (fun z => q ⟨by omega, z.2⟩)]
theorem r_rehC {dn ln : Nat} {c m : eV} (h : RR dn ln c m) (r k a b : Int32) : cRehC c dn ln r k a b = mRehC m dn ln r k a b := by
  unfold cRehC mRehC mRehC0
  rw [okR_eq, okH_eq, okC_eq, okC_eq]
  show (if mRehT r k a b = true then _ else _) = _
  by_cases gT : mRehT r k a b = true
  · rw [if_pos gT, if_pos gT]
    by_cases gR : b < a
    · rw [if_pos gR]
      have e : mRehR r k a b = false := by unfold mRehR; rw [gT, decide_eq_true gR]; rfl
      rw [if_neg (by rw [e]; decide)]
    · have e : mRehR r k a b = true := by unfold mRehR; rw [gT, decide_eq_false gR]; rfl
      rw [if_neg gR, if_pos e]
      obtain ⟨o1, o2, o3, o4⟩ := mRehT_ok gT
      obtain ⟨r0, -, hr, rfl⟩ := e_okR (lo := 0) (hi := 2) (by decide) (by decide) rfl (by decide) o1
      obtain ⟨k0, hk, hk2, rfl⟩ := e_okR (lo := 8) (hi := 20) (by decide) (by decide) rfl (by decide) o2
      obtain ⟨a0, ha, rfl⟩ := e_okC o3
      obtain ⟨b0, hb, rfl⟩ := e_okC o4
      have hab : a0 ≤ b0 := Nat.not_lt.mp (fun z => gR ((nI_ltI (by omega) (by omega)).mpr z))
      rw [nN_of (x := nI r0) rfl (by omega), nN_of (x := nI k0) rfl (by omega), nN_of (x := nI a0) rfl (by omega), nN_of (x := nI b0) rfl (by omega)]
      unfold cRehB mRehK
      rw [e, Bool.true_and, nN_of (x := nI r0) rfl (by omega), nN_of (x := nI k0) rfl (by omega), r_parts h hab hb dn (Nat.le_refl _), Bool.or_assoc, r_bars h hab hb hk hk2]
      obtain ⟨f1, f2⟩ := r_busy1 h (r := r0) (by omega) hk hk2
      rw [f1, decide_eq_decide.mpr f2]
  · rw [if_neg gT, if_neg gT]
theorem r_reh {dn ln : Nat} {c m : eV} (h : RR dn ln c m) (r k a b : Int32) (g : cRehC c dn ln r k a b = 0) : cParts c ln (nN a) (nN b) dn = mRehV m dn ln r k a b ∧ RR dn ln (cRehS c dn ln (nN r) (nN k) (nN a) (nN b)) (mRehS m dn ln r k a b) := by
  have e0 := g
  rw [r_rehC h] at e0
  have g2 : ¬ 0 < mRehC m dn ln r k a b := by rw [e0]; decide
  obtain ⟨gT, gR, gK⟩ := mRehC0_ok g2
  have gB := (Bool.or_eq_false_iff.mp gK).2
  obtain ⟨-, gab⟩ := mRehR_ok gR
  obtain ⟨o1, o2, o3, o4⟩ := mRehT_ok gT
  obtain ⟨r0, -, hr, rfl⟩ := e_okR (lo := 0) (hi := 2) (by decide) (by decide) rfl (by decide) o1
  obtain ⟨k0, hk, hk2, rfl⟩ := e_okR (lo := 8) (hi := 20) (by decide) (by decide) rfl (by decide) o2
  obtain ⟨a0, ha, rfl⟩ := e_okC o3
  obtain ⟨b0, hb, rfl⟩ := e_okC o4
  have hab : a0 ≤ b0 := Nat.not_lt.mp (fun z => gab ((nI_ltI (by omega) (by omega)).mpr z))
  have h8 := h.d8
  have h12 := h.l12
  unfold mRehV mRehS
  rw [if_neg g2, if_neg g2]
  generalize mRehC m dn ln (nI r0) (nI k0) (nI a0) (nI b0) = w
  rw [nN_of (x := nI r0) rfl (by omega), nN_of (x := nI k0) rfl (by omega), nN_of (x := nI a0) rfl (by omega), nN_of (x := nI b0) rfl (by omega)] at *
  refine ⟨r_parts h hab hb dn (Nat.le_refl _), ?_⟩
  unfold cRehS
  rw [r_parts h hab hb dn (Nat.le_refl _)]
  have hcost : ∀ i, i < dn → cPts c ln i a0 b0 = mCost (mT m w) ln i a0 (b0 + 1 - a0) := fun i hi => (r_cost h hi hab hb)
  have hbit : ∀ i, i < dn → bt (mWho m ln a0 b0 dn) i = true → m 103 i = 0 ∧ 0 < mCost m ln i a0 (b0 + 1 - a0) ∧ ¬ 60 < m 104 i + mCost m ln i a0 (b0 + 1 - a0) := fun i hi q => by
    rw [who_bit dn h8 i (by omega)] at q
    have q2 := of_decide_eq_true (Bool.and_eq_true_iff.mp q).2
    have q3 : ¬ m 103 i = 1 := fun e => by
      unfold mCostO at q2
      rw [if_pos e] at q2
      exact absurd q2 (by decide)
    have q4 : mCostO m ln i a0 b0 = mCost m ln i a0 (b0 + 1 - a0) := if_neg q3
    refine ⟨(h.o01 hi).resolve_right q3, by rw [← q4]; exact q2, fun z => ?_⟩
    have : mBars m ln a0 b0 k0 dn = true := anyN_iff.mpr ⟨i, hi, by
      unfold mBar1
      rw [q4, decide_eq_true z, Bool.or_true, ← q4, decide_eq_true q2]
      rfl⟩
    rw [this] at gB
    exact absurd gB (by decide)
  have hnn : ¬ mWho m ln a0 b0 dn < 0 := b_nneg (by rw [who_bit dn h8 31 (by decide), decide_eq_false (by omega)]; rfl)
  have hcb : ∀ i, i < dn → 0 ≤ (mCost m ln i a0 (b0 + 1 - a0)).toInt ∧ (mCost m ln i a0 (b0 + 1 - a0)).toInt ≤ 6400 := fun i hi => cost_bd h hi hab hb
  generalize mWho m ln a0 b0 dn = p at *
  have hc : ∀ n, n < 100 → (∀ i, i < 3 → n ≠ 5 + i) → (∀ i, i < dn → n ≠ 20 + 7 * i) → e_set (cCharge c ln p a0 b0 dn) (5 + r0) (k0 - 8) p n = c n := fun n h1 h2 h3 => (es_ne (h2 r0 (by omega))).trans (cCharge_ne dn h3)
  have hm : ∀ n, n ≠ 104 → n ≠ 113 → e_set (mCharge (mT m w) ln p a0 b0 dn) 113 (13 * r0 + k0 - 8) p n = mT m w n := fun n h1 h2 => (es_ne h2).trans (mCharge_ne h1 dn)
  have h104 : ∀ j, e_set (mCharge (mT m w) ln p a0 b0 dn) 113 (13 * r0 + k0 - 8) p 104 j = if j < dn ∧ bt p j = true then m 104 j + mCost m ln j a0 (b0 + 1 - a0) else m 104 j := fun j => by
    rw [es_ne (by decide), mCharge_at dn h8]
    rfl
  have h113 : e_set (mCharge (mT m w) ln p a0 b0 dn) 113 (13 * r0 + k0 - 8) p 113 = upd (m 113) (13 * r0 + k0 - 8) p := by
    rw [es_eq, mCharge_ne (by decide)]
    rfl
  generalize hM : e_set (mCharge (mT m w) ln p a0 b0 dn) 113 (13 * r0 + k0 - 8) p = M at *
  obtain ⟨h1, h2, h3, h4, h5, h6, h7, h9⟩ := h
  have eX : ∀ i, gX M i = gX m i := fun i => by unfold gX; rw [hm 105 (by decide) (by decide)]; rfl
  have eY : ∀ i, gY M i = gY m i := fun i => by unfold gY; rw [hm 106 (by decide) (by decide)]; rfl
  have e103 : M 103 = m 103 := hm 103 (by decide) (by decide)
  refine ⟨h1.m (by rw [hm 100 (by decide) (by decide)]; rfl) (by rw [hm 100 (by decide) (by decide)]; rfl) (fun n a b => by rw [hm n (by omega) (by omega)]; exact es_ne (by omega)), fun i hi => ?_, fun i a b => ?_, fun l hl => ((h4 l hl).c (hc _ (by omega) (fun i hi => by omega) (fun i hi => by omega))).m (fun n a b => by rw [hm n (by omega) (by omega)]; exact es_ne (by omega)), fun l a b => by rw [hm 111 (by decide) (by decide)]; exact h5 l a b, h6.cm (hc 3 (by decide) (fun i hi => by omega) (fun i hi => by omega)) (hm 112 (by decide) (by decide)), fun r hr j hj => ?_, ?_⟩
  · obtain ⟨d1, d2, d3, d4, d5, d6⟩ := h2 i hi
    have e20 : e_set (cCharge c ln p a0 b0 dn) (5 + r0) (k0 - 8) p (20 + 7 * i) = if i < dn ∧ cTakes p i = true then upd (c (20 + 7 * i)) 2 (c (20 + 7 * i) 2 + cPts c ln i a0 b0) else c (20 + 7 * i) := by
      rw [es_ne (by omega)]
      exact cCharge_at h12 dn h8
    rw [b_takes (by omega)] at e20
    refine ⟨?_, ?_, ?_, ?_, ?_, ?_⟩
    · rw [show M 101 = m 101 from hm 101 (by decide) (by decide), eX]
      exact d1.c (fun q hq => hc _ (by omega) (fun i hi => by omega) (fun i hi => by omega))
    · rw [show M 102 = m 102 from hm 102 (by decide) (by decide), eY]
      exact d2.c (fun q hq => hc _ (by omega) (fun i hi => by omega) (fun i hi => by omega))
    · rw [e20, e103]
      split
      · rw [upd_ne (by decide)]; exact d3
      · exact d3
    · rw [e103]; exact d4
    · rw [e20, h104 i]
      split
      · rw [upd_eq, d5, hcost i hi]
        rfl
      · exact d5
    · rw [h104 i]
      split
      · rename_i q
        obtain ⟨q1, q2, q3⟩ := hbit i hi q.2
        obtain ⟨x1, x2⟩ := mIn_int.mp d6
        obtain ⟨y1, y2⟩ := hcb i hi
        have z0 : (0 : Int32).toInt = 0 := by decide
        have z6 : (60 : Int32).toInt = 60 := by decide
        rw [z0] at x1
        rw [z6] at x2
        have es := i_add (a := m 104 i) (b := mCost m ln i a0 (b0 + 1 - a0)) (by omega) (by omega)
        rw [Int32.lt_iff_toInt_lt, es, z6] at q3
        exact mIn_int.mpr (by rw [es, z0, z6]; omega)
      · exact d6
  · obtain ⟨z1, z2, z3, z4⟩ := h3 i a b
    refine ⟨by rw [eX]; exact z1, by rw [eY]; exact z2, by rw [e103]; exact z3, ?_⟩
    rw [h104 i, if_neg (by omega)]
    exact z4
  · have e1 : e_set (cCharge c ln p a0 b0 dn) (5 + r0) (k0 - 8) p (5 + r) j = if r = r0 ∧ j = k0 - 8 then p else c (5 + r) j := by
      by_cases e : r = r0
      · subst e
        rw [es_eq, cCharge_ne dn (fun i hi => by omega)]
        by_cases e2 : j = k0 - 8
        · subst e2
          rw [upd_eq, if_pos ⟨rfl, rfl⟩]
        · rw [upd_ne e2, if_neg (fun z => e2 z.2)]
      · rw [es_ne (by omega), cCharge_ne dn (fun i hi => by omega), if_neg (fun z => e z.1)]
    have e2 : M 113 (13 * r + j) = if r = r0 ∧ j = k0 - 8 then p else m 113 (13 * r + j) := by
      rw [h113]
      by_cases e : r = r0 ∧ j = k0 - 8
      · rw [if_pos e, show 13 * r + j = 13 * r0 + k0 - 8 by omega, upd_eq]
      · rw [if_neg e, upd_ne (by omega)]
    rw [e1, e2]
    by_cases e : r = r0 ∧ j = k0 - 8
    · rw [if_pos e, if_pos e]
      exact ⟨rfl, Or.inr hnn⟩
    · rw [if_neg e, if_neg e]
      exact h7 r hr j hj
  · rw [hc 0 (by decide) (fun i hi => by omega) (fun i hi => by omega), hm 100 (by decide) (by decide)]
    exact h9

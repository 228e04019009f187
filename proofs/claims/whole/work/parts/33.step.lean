/-! ONE CALL OF BOTH, on numbers: v before; v9 behind the class's call; then the reference's; the codes, the answers, the relation -/
theorem st_v9 {dn ln : Nat} {v C : eV} {a : Int32} (h : RR dn ln v v) (hc : ∀ n, 100 ≤ n → C n = v n) : RR dn ln v (e_set C 120 0 a) := by
  have e : ∀ n, 100 ≤ n → n ≠ 120 → e_set C 120 0 a n = v n := fun n h1 h2 => (es_ne h2).trans (hc n h1)
  exact h.cm (fun _ _ => rfl) (fun n a b => e n (by omega) (by omega)) (by rw [e 100 (by decide) (by decide)]) (by rw [e 100 (by decide) (by decide)]) (by rw [e 100 (by decide) (by decide)])
theorem st_ok {dn ln : Nat} {C u : eV} {a : Int32} (hR : RR dn ln C u) (hu : ∀ n, n < 100 → u n = e_set C 120 0 a n) : RR dn ln u u := hR.cm (fun n hn => (hu n hn).trans (es_ne (by omega))) (fun _ _ _ => rfl) rfl rfl rfl
theorem st_T {dn ln : Nat} {v : eV} (h : RR dn ln v v) (w : Int32) : RR dn ln (mT v w) (mT v w) := (h.T w).cm (fun n hn => es_ne (by omega)) (fun _ _ _ => rfl) rfl rfl rfl
/-- a call that writes nothing in either: code k, answer a, the reference's answer r -/
theorem st_pure {dn ln : Nat} {v v9 : eV} {a k : Int32} (h : RR dn ln v v) (h0 : k = 0 → e_set v 120 0 a = v9) (h1 : ¬ k = 0 → v = v9) : RR dn ln v v9 ∧ (k = 0 → v9 120 0 = a) ∧ ∀ w, RR dn ln (mT v9 w) (mT v9 w) := by
  by_cases g : k = 0
  · have e := h0 g
    subst e
    have h9 := st_v9 (C := v) (a := a) h (fun _ _ => rfl)
    refine ⟨h9, fun _ => ?_, fun w => ?_⟩
    · rw [es_eq, upd_eq]
    · exact st_T (h9.cm (fun n hn => es_ne (by omega)) (fun _ _ _ => rfl) rfl rfl rfl) w
  · have e := h1 g
    subst e
    exact ⟨h, fun z => absurd z g, fun w => st_T h w⟩
theorem mT_fr {v : eV} {w : Int32} {n : Nat} (h : n < 100 ∨ n = 120) : mT v w n = v n := es_ne (by omega)
theorem mT_16 {v : eV} {w : Int32} : mT v w 100 16 = w := rfl
theorem n_nz {k : Int32} (h : 0 < k) : ¬ k = 0 := fun e => by rw [e] at h; exact absurd h (by decide)
theorem s_place {dn ln : Nat} {v v9 : eV} (h : RR dn ln v v) (d k b : Int32) (h0 : cPlaceC dn d k = 0 → e_set v 120 0 (cPlaceV v d k b) = v9) (h1 : ¬ cPlaceC dn d k = 0 → v = v9) : mI dn ln v9 ∧ mT v9 (mPlaceC dn d k) 100 16 = cPlaceC dn d k ∧ (cPlaceC dn d k = 0 → mT v9 (mPlaceC dn d k) 120 0 = mPlaceV v9 dn d k b) ∧ RR dn ln (mT v9 (mPlaceC dn d k)) (mT v9 (mPlaceC dn d k)) := by
  obtain ⟨a1, a2, a3⟩ := st_pure h h0 h1
  refine ⟨a1.1, (r_placeC a1 d k).symm, fun g => ?_, a3 _⟩
  rw [mT_fr (Or.inr rfl), a2 g]
  exact r_place a1 d k b g
theorem s_anew {dn ln : Nat} {v v9 : eV} (h : RR dn ln v v) (d k b : Int32) (h0 : cPlaceC dn d k = 0 → e_set v 120 0 (cAnewV v d k b) = v9) (h1 : ¬ cPlaceC dn d k = 0 → v = v9) : mI dn ln v9 ∧ mT v9 (mPlaceC dn d k) 100 16 = cPlaceC dn d k ∧ (cPlaceC dn d k = 0 → mT v9 (mPlaceC dn d k) 120 0 = mPlaceV v9 dn d k b) ∧ RR dn ln (mT v9 (mPlaceC dn d k)) (mT v9 (mPlaceC dn d k)) := by
  obtain ⟨a1, a2, a3⟩ := st_pure h h0 h1
  refine ⟨a1.1, (r_placeC a1 d k).symm, fun g => ?_, a3 _⟩
  rw [mT_fr (Or.inr rfl), a2 g]
  exact r_anew a1 d k b g
theorem s_clashes {dn ln : Nat} {v v9 : eV} (h : RR dn ln v v) (k : Int32) (h0 : cClashesC k = 0 → e_set v 120 0 (cClash v (nN k) dn dn) = v9) (h1 : ¬ cClashesC k = 0 → v = v9) : mI dn ln v9 ∧ mT v9 (mClashesC k) 100 16 = cClashesC k ∧ (cClashesC k = 0 → mT v9 (mClashesC k) 120 0 = mClashesV v9 dn k) ∧ RR dn ln (mT v9 (mClashesC k)) (mT v9 (mClashesC k)) := by
  obtain ⟨a1, a2, a3⟩ := st_pure h h0 h1
  refine ⟨a1.1, (r_clashesC k).symm, fun g => ?_, a3 _⟩
  rw [mT_fr (Or.inr rfl), a2 g]
  exact r_clashes a1 k g
theorem s_ofLift {dn ln : Nat} {v v9 : eV} (h : RR dn ln v v) (i x : Int32) (h0 : cOfLiftC ln i x = 0 → e_set v 120 0 (cOfLiftV v ln i x) = v9) (h1 : ¬ cOfLiftC ln i x = 0 → v = v9) : mI dn ln v9 ∧ mT v9 (mOfLiftC ln i x) 100 16 = cOfLiftC ln i x ∧ (cOfLiftC ln i x = 0 → mT v9 (mOfLiftC ln i x) 120 0 = mOfLiftV v9 ln i x) ∧ RR dn ln (mT v9 (mOfLiftC ln i x)) (mT v9 (mOfLiftC ln i x)) := by
  obtain ⟨a1, a2, a3⟩ := st_pure h h0 h1
  refine ⟨a1.1, (r_ofLiftC a1 i x).symm, fun g => ?_, a3 _⟩
  rw [mT_fr (Or.inr rfl), a2 g]
  exact r_ofLift a1 i x g
theorem s_begins {dn ln : Nat} {v v9 : eV} (h : RR dn ln v v) (k : Int32) (h0 : cBeginsC v k = 0 → e_set v 120 0 ((cSum v (nN k)).toInt32) = v9) (h1 : ¬ cBeginsC v k = 0 → v = v9) : mI dn ln v9 ∧ mT v9 (mBeginsC v9 k) 100 16 = cBeginsC v k ∧ (cBeginsC v k = 0 → mT v9 (mBeginsC v9 k) 120 0 = mBeginsV v9 k) ∧ RR dn ln (mT v9 (mBeginsC v9 k)) (mT v9 (mBeginsC v9 k)) := by
  obtain ⟨a1, a2, a3⟩ := st_pure h h0 h1
  refine ⟨a1.1, (r_beginsC a1 k).symm, fun g => ?_, a3 _⟩
  rw [mT_fr (Or.inr rfl), a2 g]
  exact r_begins a1 k g
theorem s_rehearsal {dn ln : Nat} {v v9 : eV} (h : RR dn ln v v) (r k : Int32) (h0 : cRehearsalC r k = 0 → e_set v 120 0 (v (5 + nN r) (nN k - 8)) = v9) (h1 : ¬ cRehearsalC r k = 0 → v = v9) : mI dn ln v9 ∧ mT v9 (mRehearsalC r k) 100 16 = cRehearsalC r k ∧ (cRehearsalC r k = 0 → mT v9 (mRehearsalC r k) 120 0 = mRehearsalV v9 r k) ∧ RR dn ln (mT v9 (mRehearsalC r k)) (mT v9 (mRehearsalC r k)) := by
  obtain ⟨a1, a2, a3⟩ := st_pure h h0 h1
  refine ⟨a1.1, (r_rehearsalC r k).symm, fun g => ?_, a3 _⟩
  rw [mT_fr (Or.inr rfl), a2 g]
  exact r_rehearsal a1 r k g
theorem s_knees {dn ln : Nat} {v v9 : eV} (h : RR dn ln v v) (d : Int32) (h0 : cKneesC dn d = 0 → e_set v 120 0 (v (20 + 7 * nN d) 2) = v9) (h1 : ¬ cKneesC dn d = 0 → v = v9) : mI dn ln v9 ∧ mT v9 (mKneesC dn d) 100 16 = cKneesC dn d ∧ (cKneesC dn d = 0 → mT v9 (mKneesC dn d) 120 0 = mKneesV v9 dn d) ∧ RR dn ln (mT v9 (mKneesC dn d)) (mT v9 (mKneesC dn d)) := by
  obtain ⟨a1, a2, a3⟩ := st_pure h h0 h1
  refine ⟨a1.1, (r_kneesC a1 d).symm, fun g => ?_, a3 _⟩
  rw [mT_fr (Or.inr rfl), a2 g]
  exact r_knees a1 d g
/-! calls that write: what they leave alone -/
theorem ok_lt8 {dn ln : Nat} {c m : eV} (h : RR dn ln c m) {d : Int32} (g : mOkD dn d = true) : nN d < 8 := by
  obtain ⟨i, hi, rfl⟩ := e_okD h.d8 g
  have := h.d8
  rw [nN_of (x := nI i) rfl (by omega)]
  omega
theorem cMoveS_fr {v : eV} {d k : Nat} {x y : Int32} {n : Nat} (hd : d < 8) (h : 100 ≤ n) : cMoveS v d k x y n = v n := (cWrite_ne (by omega) (by omega)).trans (cWrite_ne (by omega) (by omega))
theorem mMoveS_fr {v : eV} {dn : Nat} {d k x y : Int32} {n : Nat} (h : n < 100 ∨ n = 120) : mMoveS v dn d k x y n = v n := by
  unfold mMoveS
  split
  · exact mT_fr h
  · exact (es_ne (by omega)).trans ((es_ne (by omega)).trans (mT_fr h))
theorem mMoveS_16 {v : eV} {dn : Nat} {d k x y : Int32} : mMoveS v dn d k x y 100 16 = mMoveC v dn d k x y := by
  unfold mMoveS
  split <;> rfl
theorem s_move {dn ln : Nat} {v v9 : eV} (h : RR dn ln v v) (d k x y : Int32) (h0 : cMoveC v dn d k x y = 0 → e_set (cMoveS v (nN d) (nN k) x y) 120 0 (cCount (cMoveS v (nN d) (nN k) x y) (20 + 7 * nN d) 64) = v9) (h1 : ¬ cMoveC v dn d k x y = 0 → v = v9) : mI dn ln v9 ∧ mMoveS v9 dn d k x y 100 16 = cMoveC v dn d k x y ∧ (cMoveC v dn d k x y = 0 → mMoveS v9 dn d k x y 120 0 = mMoveV v9 dn d k x y) ∧ RR dn ln (mMoveS v9 dn d k x y) (mMoveS v9 dn d k x y) := by
  by_cases g : cMoveC v dn d k x y = 0
  · have e := h0 g
    subst e
    have g2 : ¬ 0 < mMoveC v dn d k x y := by rw [← r_moveC h, g]; decide
    have hd := ok_lt8 h (mMoveC_ok g2).1
    have h9 := st_v9 (C := cMoveS v (nN d) (nN k) x y) (a := cCount (cMoveS v (nN d) (nN k) x y) (20 + 7 * nN d) 64) h (fun n hn => cMoveS_fr hd hn)
    obtain ⟨q1, q2⟩ := r_move h9 d k x y g
    refine ⟨h9.1, by rw [mMoveS_16]; exact (r_moveC h9 d k x y).symm, fun _ => ?_, st_ok q2 (fun n hn => mMoveS_fr (Or.inl hn))⟩
    rw [mMoveS_fr (Or.inr rfl), es_eq, upd_eq]
    exact q1
  · have e := h1 g
    subst e
    refine ⟨h.1, by rw [mMoveS_16]; exact (r_moveC h d k x y).symm, fun z => absurd z g, ?_⟩
    have g2 : 0 < mMoveC v dn d k x y := by
      rw [← r_moveC h]
      revert g
      unfold cMoveC
      split <;> (try split) <;> (try split) <;> intro g <;> first | decide | exact absurd rfl g
    have e : mMoveS v dn d k x y = mT v (mMoveC v dn d k x y) := if_pos g2
    rw [e]
    exact st_T h _
theorem mTempoS_fr {v : eV} {k x : Int32} {n : Nat} (h : n < 100 ∨ n = 120) : mTempoS v k x n = v n := by
  unfold mTempoS
  split
  · exact mT_fr h
  · exact (es_ne (by omega)).trans (mT_fr h)
theorem mTempoS_16 {v : eV} {k x : Int32} : mTempoS v k x 100 16 = mTempoC k x := by
  unfold mTempoS
  split <;> rfl
theorem s_tempo {dn ln : Nat} {v v9 : eV} (h : RR dn ln v v) (k x : Int32) (h0 : cTempoC k x = 0 → e_set (e_set v 3 (nN k) x) 120 0 (cLast v (nN k)) = v9) (h1 : ¬ cTempoC k x = 0 → v = v9) : mI dn ln v9 ∧ mTempoS v9 k x 100 16 = cTempoC k x ∧ (cTempoC k x = 0 → mTempoS v9 k x 120 0 = mTempoV v9 k x) ∧ RR dn ln (mTempoS v9 k x) (mTempoS v9 k x) := by
  by_cases g : cTempoC k x = 0
  · have e := h0 g
    subst e
    have h9 := st_v9 (C := e_set v 3 (nN k) x) (a := cLast v (nN k)) h (fun n hn => es_ne (by omega))
    obtain ⟨q1, q2⟩ := r_tempo h9 k x g
    refine ⟨h9.1, by rw [mTempoS_16]; exact (r_tempoC k x).symm, fun _ => ?_, st_ok q2 (fun n hn => mTempoS_fr (Or.inl hn))⟩
    rw [mTempoS_fr (Or.inr rfl), es_eq, upd_eq]
    exact q1
  · have e := h1 g
    subst e
    refine ⟨h.1, by rw [mTempoS_16]; exact (r_tempoC k x).symm, fun z => absurd z g, ?_⟩
    have g2 : 0 < mTempoC k x := by
      rw [← r_tempoC]
      revert g
      unfold cTempoC
      split <;> (try split) <;> (try split) <;> intro g <;> first | decide | exact absurd rfl g
    have e : mTempoS v k x = mT v (mTempoC k x) := if_pos g2
    rw [e]
    exact st_T h _
theorem mRehS_fr {v : eV} {dn ln : Nat} {r k a b : Int32} {n : Nat} (h : n < 100 ∨ n = 120) : mRehS v dn ln r k a b n = v n := by
  unfold mRehS
  split
  · exact mT_fr h
  · exact (es_ne (by omega)).trans ((mCharge_ne (by omega) dn).trans (mT_fr h))
theorem mRehS_16 {v : eV} {dn ln : Nat} {r k a b : Int32} : mRehS v dn ln r k a b 100 16 = mRehC v dn ln r k a b := by
  unfold mRehS
  split
  · rfl
  · rw [es_ne (by decide), mCharge_ne (by decide)]
    rfl
theorem cRehS_fr {v : eV} {dn ln r k a b n : Nat} (h8 : dn ≤ 8) (hr : r < 3) (h : 100 ≤ n) : cRehS v dn ln r k a b n = v n := (es_ne (by omega)).trans (cCharge_ne dn (fun i hi => by omega))
theorem rehC_pos {v : eV} {n n2 : Nat} {r k a b : Int32} (g : ¬ cRehC v n n2 r k a b = 0) : 0 < cRehC v n n2 r k a b := by
  unfold cRehC at g ⊢
  split
  · rename_i g1
    rw [if_pos g1] at g
    split
    · decide
    · rename_i g2
      rw [if_neg g2] at g
      split
      · decide
      · rename_i g3
        rw [if_neg g3] at g
        exact absurd rfl g
  · decide
theorem s_rehearse {dn ln : Nat} {v v9 : eV} (h : RR dn ln v v) (r k a b : Int32) (h0 : cRehC v dn ln r k a b = 0 → e_set (cRehS v dn ln (nN r) (nN k) (nN a) (nN b)) 120 0 (cParts v ln (nN a) (nN b) dn) = v9) (h1 : ¬ cRehC v dn ln r k a b = 0 → v = v9) : mI dn ln v9 ∧ mRehS v9 dn ln r k a b 100 16 = cRehC v dn ln r k a b ∧ (cRehC v dn ln r k a b = 0 → mRehS v9 dn ln r k a b 120 0 = mRehV v9 dn ln r k a b) ∧ RR dn ln (mRehS v9 dn ln r k a b) (mRehS v9 dn ln r k a b) := by
  by_cases g : cRehC v dn ln r k a b = 0
  · have e := h0 g
    subst e
    have g2 : ¬ 0 < mRehC v dn ln r k a b := by rw [← r_rehC h, g]; decide
    have hr : nN r < 3 := by
      obtain ⟨gT, -, -⟩ := mRehC0_ok g2
      obtain ⟨i, -, hi, rfl⟩ := e_okR (lo := 0) (hi := 2) (by decide) (by decide) rfl (by decide) (mRehT_ok gT).1
      rw [nN_of (x := nI i) rfl (by omega)]
      omega
    have h9 := st_v9 (C := cRehS v dn ln (nN r) (nN k) (nN a) (nN b)) (a := cParts v ln (nN a) (nN b) dn) h (fun n hn => cRehS_fr h.d8 hr hn)
    obtain ⟨q1, q2⟩ := r_reh h9 r k a b g
    refine ⟨h9.1, by rw [mRehS_16]; exact (r_rehC h9 r k a b).symm, fun _ => ?_, st_ok q2 (fun n hn => mRehS_fr (Or.inl hn))⟩
    rw [mRehS_fr (Or.inr rfl), es_eq, upd_eq]
    exact q1
  · have e := h1 g
    subst e
    refine ⟨h.1, by rw [mRehS_16]; exact (r_rehC h r k a b).symm, fun z => absurd z g, ?_⟩
    have g2 : 0 < mRehC v dn ln r k a b := by
      rw [← r_rehC h]
      exact rehC_pos g
    have e : mRehS v dn ln r k a b = mT v (mRehC v dn ln r k a b) := if_pos g2
    rw [e]
    exact st_T h _
/-! hurt -/
theorem mMendsS_fr {v : eV} {dn ln l k dl h n : Nat} (hn : n ≤ 104 ∨ 112 ≤ n) : mMendsS v dn ln l k dl h n = v n := by
  have c : ∀ (u : eV) w, mComes u w h k n = u n := fun u w => by
    rw [mComes_eq, es_ne (by omega), es_ne (by omega), es_ne (by omega), es_ne (by omega)]
  unfold mMendsS
  split
  · split
    · exact es_ne (by omega)
    · exact (mTake_ne (by omega) (by omega)).trans (c v _)
  · exact mTake_ne (by omega) (by omega)
theorem mMendAll_fr {v : eV} {dn ln d n : Nat} (hn : n ≤ 104 ∨ 112 ≤ n) : ∀ k, (mMendAll v dn ln d k).1 n = v n
  | 0 => rfl
  | k + 1 => by
    unfold mMendAll
    split
    · exact (mMendsS_fr hn).trans (mMendAll_fr hn k)
    · exact mMendAll_fr hn k
theorem mHurtS_fr {v : eV} {dn ln : Nat} {d : Int32} {n : Nat} (h : n < 100 ∨ n = 120) : mHurtS v dn ln d n = v n := by
  unfold mHurtS
  split
  · exact mT_fr h
  · exact (mMendAll_fr (by omega) ln).trans ((mDrop_ne (by omega) ln).trans ((es_ne (by omega)).trans (mT_fr h)))
theorem mHurtS_16 {v : eV} {dn ln : Nat} {d : Int32} : mHurtS v dn ln d 100 16 = mHurtC v dn d := by
  unfold mHurtS
  split
  · rfl
  · rw [mMendAll_fr (by omega)]
    unfold mHurt0
    rw [mDrop_ne (by decide)]
    rfl
theorem cRepl_fr {v : eV} {q n : Nat} {a b : Int32} (h : n ≠ q) : cRepl v q a b n = v n := by
  unfold cRepl
  split <;> exact es_ne h
theorem cReplS_fr {v : eV} {l lv c dl n n2 q : Nat} (hl : l < 12) (hn : n ≤ 8) (hq : 100 ≤ q) : cReplS v l lv c dl n n2 q = v q := by
  unfold cReplS
  obtain ⟨x, y, e⟩ : ∃ x y, cFind v l lv c dl n n2 = (x, y) := ⟨_, _, rfl⟩
  rw [e]
  split
  · exact es_ne (by omega)
  · rename_i g
    refine (cRepl_fr (by omega)).trans ?_
    obtain ⟨j, hj, ej, -, -⟩ := (cBest_get e).2 g
    show (if 0 < y then cVisitD v (20 + 7 * nN x) (20 + 7 * lv) c else v) q = v q
    rw [ej, nN_of (x := nI j) rfl (by omega)]
    split
    · exact cVisitD_ne (by omega) (by omega) (by omega) (by omega)
    · rfl
theorem cMendAll_fr {v : eV} {n n2 d q : Nat} (hn : n ≤ 8) (hq : 100 ≤ q) : ∀ k, k ≤ 12 → (cMendAll v n n2 d k).1 q = v q
  | 0, _ => rfl
  | k + 1, hk => by
    unfold cMendAll
    split
    · exact (cReplS_fr (by omega) hn hq).trans (cMendAll_fr hn hq k (by omega))
    · exact cMendAll_fr hn hq k (by omega)
theorem cHurt0_fr {v : eV} {n2 d q : Nat} (hd : d < 8) (h2 : n2 ≤ 12) (hq : 100 ≤ q) : cHurt0 v n2 d q = v q := (cDrop_ne n2 (fun i hi => by omega)).trans (es_ne (by omega))
theorem s_hurt {dn ln : Nat} {v v9 : eV} (h : RR dn ln v v) (d : Int32) (h0 : cHurtC v dn d = 0 → e_set ((cMendAll (cHurt0 v ln (nN d)) dn ln (nN d) ln).1) 120 0 ((cMendAll (cHurt0 v ln (nN d)) dn ln (nN d) ln).2) = v9) (h1 : ¬ cHurtC v dn d = 0 → v = v9) : mI dn ln v9 ∧ mHurtS v9 dn ln d 100 16 = cHurtC v dn d ∧ (cHurtC v dn d = 0 → mHurtS v9 dn ln d 120 0 = mHurtV v9 dn ln d) ∧ RR dn ln (mHurtS v9 dn ln d) (mHurtS v9 dn ln d) := by
  by_cases g : cHurtC v dn d = 0
  · have e := h0 g
    subst e
    have g2 : ¬ 0 < mHurtC v dn d := by rw [← r_hurtC h, g]; decide
    have hd := ok_lt8 h (mHurtC_ok g2)
    have h9 := st_v9 (C := (cMendAll (cHurt0 v ln (nN d)) dn ln (nN d) ln).1) (a := (cMendAll (cHurt0 v ln (nN d)) dn ln (nN d) ln).2) h (fun n hn => (cMendAll_fr h.d8 hn ln h.l12).trans (cHurt0_fr hd h.l12 hn))
    obtain ⟨q1, q2⟩ := r_hurt h9 d g
    refine ⟨h9.1, by rw [mHurtS_16]; exact (r_hurtC h9 d).symm, fun _ => ?_, st_ok q2 (fun n hn => mHurtS_fr (Or.inl hn))⟩
    rw [mHurtS_fr (Or.inr rfl), es_eq, upd_eq]
    exact q1
  · have e := h1 g
    subst e
    refine ⟨h.1, by rw [mHurtS_16]; exact (r_hurtC h d).symm, fun z => absurd z g, ?_⟩
    have g2 : 0 < mHurtC v dn d := by
      rw [← r_hurtC h]
      revert g
      unfold cHurtC
      split <;> (try split) <;> (try split) <;> intro g <;> first | decide | exact absurd rfl g
    have e : mHurtS v dn ln d = mT v (mHurtC v dn d) := if_pos g2
    rw [e]
    exact st_T h _
/-! firstClash, sleep: no code -/
theorem s_sleep {dn ln : Nat} {v : eV} (h : RR dn ln v v) : cRest (cFreeR v 3) dn 0 4 + 1 = mSleepS (cSleepS v dn) 100 15 ∧ RR dn ln (mSleepS (cSleepS v dn)) (mSleepS (cSleepS v dn)) := by
  have h8 := h.d8
  have hf : ∀ n, 100 ≤ n → cSleepS v dn n = v n := fun n hn => (es_ne (by omega)).trans ((cRest_ne dn (fun i hi => by omega)).trans (cFreeR_ne 3 (fun i hi => by omega)))
  have h9 : RR dn ln v (cSleepS v dn) := h.cm (fun _ _ => rfl) (fun n a b => hf n (by omega)) (by rw [hf 100 (by decide)]) (by rw [hf 100 (by decide)]) (by rw [hf 100 (by decide)])
  obtain ⟨q1, q2⟩ := r_sleep h9
  refine ⟨q1, q2.cm (fun n hn => ?_) (fun _ _ _ => rfl) rfl rfl rfl⟩
  exact (mRest_ne (by omega) 8).trans ((mFrees_ne (by omega) 39).trans ((es_ne (by omega)).trans (es_ne (by omega))))
/-! dancer, lift: what the class's chain of writes holds -/
def vD (v : eV) (D : Nat) (x y : Int32) : eV := e_set (cFill (e_set (e_set (e_z (e_set (e_z (e_z (e_set (cFill (e_set (e_set (e_z (e_set (e_z (e_z (e_set (e_set (e_z v D) D 2 0) D 3 0) (D + 1)) ((D + 1) + 1)) (D + 1) 21 1) ((D + 1) + 2)) (D + 1) 22 1) (D + 1) 0 x) ((D + 1) + 2) x 64) D 21 1) (D + 4)) ((D + 4) + 1)) (D + 4) 21 1) ((D + 4) + 2)) (D + 4) 22 1) (D + 4) 0 y) ((D + 4) + 2) y 64) D 22 1
theorem vD_o {v : eV} {D n : Nat} {x y : Int32} (h : n < D ∨ D + 7 ≤ n) : vD v D x y n = v n := by
  unfold vD
  simp (disch := omega) only [es_ne, e_z_n, cFill_n2]
theorem vD_0 {v : eV} {D : Nat} {x y : Int32} : vD v D x y D 2 = 0 ∧ vD v D x y D 3 = 0 := by
  unfold vD
  constructor <;> simp (disch := omega) only [es_ne, e_z_n, cFill_n2, es_eq, upd_eq, upd_ne]
theorem vD_1 {v : eV} {D : Nat} {x y : Int32} : vD v D x y (D + 1) 0 = x ∧ (∀ j, j < 64 → vD v D x y (D + 1 + 1) j = 0) ∧ ∀ j, j < 64 → vD v D x y (D + 1 + 2) j = x := by
  unfold vD
  refine ⟨?_, fun j hj => ?_, fun j hj => ?_⟩
  · simp (disch := omega) only [es_ne, e_z_n, cFill_n2, es_eq, upd_eq, upd_ne]
  · simp (disch := omega) only [es_ne, e_z_n, cFill_n2, e_z_s]
  · simp (disch := omega) only [es_ne, e_z_n, cFill_n2, cFill_at, if_pos hj]
theorem vD_4 {v : eV} {D : Nat} {x y : Int32} : vD v D x y (D + 4) 0 = y ∧ (∀ j, j < 64 → vD v D x y (D + 4 + 1) j = 0) ∧ ∀ j, j < 64 → vD v D x y (D + 4 + 2) j = y := by
  unfold vD
  refine ⟨?_, fun j hj => ?_, fun j hj => ?_⟩
  · simp (disch := omega) only [es_ne, e_z_n, cFill_n2, es_eq, upd_eq, upd_ne]
  · simp (disch := omega) only [es_ne, e_z_n, cFill_n2, e_z_s]
  · simp (disch := omega) only [es_ne, e_z_n, cFill_n2, cFill_at, if_pos hj]
def vL (v : eV) (n : Nat) (k d a b : Int32) : eV := e_set (e_set (e_set (e_set (e_set (e_z v n) n 4 0) n 0 k) n 1 d) n 2 a) n 3 b
theorem vL_o {v : eV} {q n : Nat} {k d a b : Int32} (h : n ≠ q) : vL v q k d a b n = v n := by
  unfold vL
  simp (disch := omega) only [es_ne, e_z_n]
theorem vL_i {v : eV} {q : Nat} {k d a b : Int32} : vL v q k d a b q 0 = k ∧ vL v q k d a b q 1 = d ∧ vL v q k d a b q 2 = a ∧ vL v q k d a b q 3 = b ∧ vL v q k d a b q 4 = 0 := by
  unfold vL
  refine ⟨?_, ?_, ?_, ?_, ?_⟩ <;> simp (disch := omega) only [es_eq, upd_eq, upd_ne]
theorem mDancerS_fr {v : eV} {dn : Nat} {x y : Int32} {n : Nat} (h : n < 100 ∨ n = 120) : mDancerS v dn x y n = v n := by
  unfold mDancerS
  split
  · exact mT_fr h
  · exact (es_ne (by omega)).trans ((es_ne (by omega)).trans ((es_ne (by omega)).trans (mT_fr h)))
theorem mDancerS_16 {v : eV} {dn : Nat} {x y : Int32} : mDancerS v dn x y 100 16 = mDancerC v dn x y := by
  unfold mDancerS
  split <;> rfl
theorem mLiftS_fr {v : eV} {dn ln : Nat} {k d a b : Int32} {n : Nat} (h : n < 100 ∨ n = 120) : mLiftS v dn ln k d a b n = v n := by
  unfold mLiftS
  split
  · exact mT_fr h
  · exact (es_ne (by omega)).trans ((es_ne (by omega)).trans ((es_ne (by omega)).trans ((es_ne (by omega)).trans ((es_ne (by omega)).trans (mT_fr h)))))
theorem mLiftS_16 {v : eV} {dn ln : Nat} {k d a b : Int32} : mLiftS v dn ln k d a b 100 16 = mLiftC v dn ln k d a b := by
  unfold mLiftS
  split <;> rfl
theorem s_dancer {dn ln : Nat} {v C v9 : eV} (h : RR dn ln v v) (x y : Int32) (hC : cDancerC v dn x y = 0 → (∀ n, n ≠ 1 → n ≠ 8 → C n = vD v (20 + 7 * dn) x y n) ∧ v9 = e_set C 120 0 (nI dn)) (h1 : ¬ cDancerC v dn x y = 0 → v = v9) : mI dn ln v9 ∧ mDancerS v9 dn x y 100 16 = cDancerC v dn x y ∧ (cDancerC v dn x y = 0 → mDancerS v9 dn x y 120 0 = mDancerV v9 dn x y ∧ RR (dn + 1) ln (mDancerS v9 dn x y) (mDancerS v9 dn x y)) ∧ (¬ cDancerC v dn x y = 0 → RR dn ln (mDancerS v9 dn x y) (mDancerS v9 dn x y)) := by
  by_cases g : cDancerC v dn x y = 0
  · obtain ⟨hD, e⟩ := hC g
    clear hC h1
    subst e
    have h8 := h.d8
    have g2 : ¬ 0 < mDancerC v dn x y := by rw [← r_dancerC h, g]; decide
    have g8 := mDancerC_ok g2
    have h9 := st_v9 (C := C) (a := nI dn) h (fun n hn => (hD n (by omega) (by omega)).trans (vD_o (by omega)))
    obtain ⟨q1, q2⟩ := r_dancer (c' := C) h9 x y g ⟨fun n a b n1 n2 => (hD n n1 n2).trans (vD_o b), by rw [hD _ (by omega) (by omega)]; exact vD_0.1, by rw [hD _ (by omega) (by omega)]; exact vD_0.2, by rw [hD _ (by omega) (by omega), hD _ (by omega) (by omega), hD _ (by omega) (by omega)]; exact vD_1, by rw [hD _ (by omega) (by omega), hD _ (by omega) (by omega), hD _ (by omega) (by omega)]; exact vD_4⟩
    refine ⟨h9.1, by rw [mDancerS_16]; exact (r_dancerC h9 x y).symm, fun _ => ⟨?_, st_ok q2 (fun n hn => mDancerS_fr (Or.inl hn))⟩, fun z => absurd g z⟩
    rw [mDancerS_fr (Or.inr rfl), es_eq, upd_eq]
    exact q1
  · have e := h1 g
    subst e
    refine ⟨h.1, by rw [mDancerS_16]; exact (r_dancerC h x y).symm, fun z => absurd z g, fun _ => ?_⟩
    have g2 : 0 < mDancerC v dn x y := by
      rw [← r_dancerC h]
      revert g
      unfold cDancerC
      split <;> (try split) <;> (try split) <;> intro g <;> first | decide | exact absurd rfl g
    have e : mDancerS v dn x y = mT v (mDancerC v dn x y) := if_pos g2
    rw [e]
    exact st_T h _
theorem s_lift {dn ln : Nat} {v C v9 : eV} (h : RR dn ln v v) (k d a b : Int32) (hC : cLiftC v dn ln k d a b = 0 → (∀ n, n ≠ 2 → n ≠ 9 → n ≠ 10 → C n = vL v (80 + ln) k d a b n) ∧ v9 = e_set C 120 0 (nI ln)) (h1 : ¬ cLiftC v dn ln k d a b = 0 → v = v9) : mI dn ln v9 ∧ mLiftS v9 dn ln k d a b 100 16 = cLiftC v dn ln k d a b ∧ (cLiftC v dn ln k d a b = 0 → mLiftS v9 dn ln k d a b 120 0 = mLiftV v9 dn ln k d a b ∧ RR dn (ln + 1) (mLiftS v9 dn ln k d a b) (mLiftS v9 dn ln k d a b)) ∧ (¬ cLiftC v dn ln k d a b = 0 → RR dn ln (mLiftS v9 dn ln k d a b) (mLiftS v9 dn ln k d a b)) := by
  by_cases g : cLiftC v dn ln k d a b = 0
  · obtain ⟨hD, e⟩ := hC g
    clear hC h1
    subst e
    have h12 := h.l12
    have g2 : ¬ 0 < mLiftC v dn ln k d a b := by rw [← r_liftC h, g]; decide
    have g8 := (mLiftC_ok g2).1
    have h9 := st_v9 (C := C) (a := nI ln) h (fun n hn => (hD n (by omega) (by omega) (by omega)).trans (vL_o (by omega)))
    have hi : C (80 + ln) = vL v (80 + ln) k d a b (80 + ln) := hD _ (by omega) (by omega) (by omega)
    obtain ⟨q1, q2⟩ := r_lift (c' := C) h9 k d a b g ⟨fun n a b n1 n2 n3 n4 => (hD n n2 n3 n4).trans (vL_o b), by rw [hi]; exact vL_i⟩
    refine ⟨h9.1, by rw [mLiftS_16]; exact (r_liftC h9 k d a b).symm, fun _ => ⟨?_, st_ok q2 (fun n hn => mLiftS_fr (Or.inl hn))⟩, fun z => absurd g z⟩
    rw [mLiftS_fr (Or.inr rfl), es_eq, upd_eq]
    exact q1
  · have e := h1 g
    subst e
    refine ⟨h.1, by rw [mLiftS_16]; exact (r_liftC h k d a b).symm, fun z => absurd z g, fun _ => ?_⟩
    have g2 : 0 < mLiftC v dn ln k d a b := by
      rw [← r_liftC h]
      revert g
      unfold cLiftC
      split <;> (try split) <;> (try split) <;> intro g <;> first | decide | exact absurd rfl g
    have e : mLiftS v dn ln k d a b = mT v (mLiftC v dn ln k d a b) := if_pos g2
    rw [e]
    exact st_T h _

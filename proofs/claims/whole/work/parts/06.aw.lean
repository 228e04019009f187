/-! THE REFERENCE, as functions of its numbers v: 101 first, 102 second, 103 out, 104 knees, 105 mx, 106 my, 107 lc, 108 ll, 109 la, 110 lb, 111 lg, 112 told, 113 taken; v 100 4 dancers, 12 lifts, 15 day, 16 thrown -/
def mkd : Nat → Nat
  | 100 => 12 | 101 => 28 | 102 => 28 | 103 => 28 | 104 => 28 | 105 => 532 | 106 => 532 | 107 => 32 | 108 => 32 | 109 => 32 | 110 => 32 | 111 => 32 | 112 => 84 | 113 => 59 | _ => 0
def mK (kd : Nat → Nat) : Prop := ∀ n, 100 ≤ n → n < 114 → kd n = mkd n
def mI (dn ln : Nat) (v : eV) : Prop := v 100 4 = nI dn ∧ v 100 12 = nI ln ∧ dn ≤ 8 ∧ ln ≤ 12 ∧ (∀ i, i < ln → ∃ c, c < 64 ∧ v 107 i = nI c) ∧ (∀ i, i < ln → ∃ d, d < dn ∧ v 108 i = nI d) ∧ (∀ i, i < ln → ∃ d, d < dn ∧ v 109 i = nI d) ∧ (∀ i, i < ln → ∃ d, d < dn ∧ v 110 i = nI d)
def sumN (f : Nat → Int32) : Nat → Int32
  | 0 => 0
  | n + 1 => sumN f n + f n
def anyN (f : Nat → Bool) : Nat → Bool
  | 0 => false
  | n + 1 => anyN f n || f n
theorem bI_or (a b : Bool) : bI a ||| bI b = bI (a || b) := by cases a <;> cases b <;> decide
def mIn (x lo hi : Int32) : Bool := !decide (x < lo) && !decide (hi < x)
def mX (v : eV) (d n : Nat) : Int32 := v 101 d + sumN (fun j => v 105 (64 * d + j)) n
def mY (v : eV) (d n : Nat) : Int32 := v 102 d + sumN (fun j => v 106 (64 * d + j)) n
def mAt (v : eV) (d n e k : Nat) : Bool := decide (mX v d n = mX v e k) && decide (mY v d n = mY v e k)
def mOf (v : eV) (l : Nat) (d : Int32) : Bool := decide (v 108 l = d) || decide (v 109 l = d) || decide (v 110 l = d)
def mLiftsOf (v : eV) (d c : Int32) (n : Nat) : Int32 := sumN (fun i => bI (decide (v 111 i = 0) && decide (v 107 i = c) && mOf v i d)) n
def mBeside (v : eV) (d e c : Nat) : Bool := !mAt v d (c + 1) e (c + 1) && mIn (mX v d (c + 1) - mX v e (c + 1)) (-1) 1 && mIn (mY v d (c + 1) - mY v e (c + 1)) (-1) 1
def mLast (v : eV) : Nat → Int32
  | 0 => 500
  | n + 1 => if 0 < v 112 n then v 112 n else mLast v n
def mFlat (x : Int32) : Int32 := if x < 0 then -x else x
def mCost (v : eV) (ln d a n : Nat) : Int32 := sumN (fun i => mFlat (v 105 (64 * d + (a + i))) + mFlat (v 106 (64 * d + (a + i))) + 5 * mLiftsOf v (nI d) (nI (a + i)) ln) n
def mBusy (v : eV) (d h n : Nat) : Bool := anyN (fun r => !decide (v 113 (13 * r + h - 8) < 0) && decide ((v 113 (13 * r + h - 8) >>> (nI d &&& 31)) &&& 1 = 1)) n
theorem e_pred {a : Nat} (h : a < 2 ^ 30) : (nI a - 1).toInt = (a : Int) - 1 := by
  have h1 := pk_sub_toInt (a := a) (b := 1) h (by decide)
  exact h1
theorem e_pred_lt {a b : Nat} (ha : a < 2 ^ 30) (hb : b < 2 ^ 30) : nI a - 1 < nI b ↔ a ≤ b := by
  rw [Int32.lt_iff_toInt_lt, e_pred ha, nI_toInt (by omega)]
  omega
theorem e_xc {a n i : Nat} {c : Int32} (hc : c + 1 = nI n) (ha : a < 1000) (hn : n < 1000) (hi : i < 1000) : nI a + c < nI (a + i) ↔ n ≤ i := by
  have e : nI a + c = nI (a + n) - 1 := by
    rw [← nI_add a n, ← hc, Int32.sub_eq_add_neg]
    simp only [Int32.add_assoc]
    rw [show (1 : Int32) + -1 = 0 by decide, Int32.add_zero]
  rw [e, e_pred_lt (by omega) (by omega)]
  omega
theorem e_sub1 {n : Nat} : (nI n - 1) + 1 = nI n := by rw [Int32.sub_add_cancel]
def mStands (v : eV) (i c0 dl da db ln : Nat) : Bool := (mBeside v da dl c0 && mBeside v db dl c0) && (decide (mLiftsOf v (nI dl) (nI c0) ln = 1) && decide (mLiftsOf v (nI da) (nI c0) ln = 1) && decide (mLiftsOf v (nI db) (nI c0) ln = 1)) && decide (v 103 dl + v 103 da + v 103 db = 0)
def mOffI (v : eV) (d c : Nat) : Int32 := if (mIn (mX v d (c + 1)) 0 7 && mIn (mY v d (c + 1)) 0 7) = true then 0 else 1
def mPair (v : eV) (d e c : Nat) : Bool := mAt v d (c + 1) e (c + 1) || (mAt v d (c + 1) e c && mAt v e (c + 1) d c)
def mPairs (v : eV) (c d : Nat) (n : Nat) : Int32 := sumN (fun j => bI (mPair v d j c)) n
def mClash (v : eV) (c : Nat) : Nat → Int32
  | 0 => 0
  | n + 1 => mClash v c n + mOffI v n c + mPairs v c n n
def mWX (v : eV) (d h c : Nat) : Int32 := mX v h (c + 1) - mX v d (c + 1)
def mWY (v : eV) (d h c : Nat) : Int32 := mY v h (c + 1) - mY v d (c + 1)
def mCanCome (v : eV) (d h c : Nat) : Bool := !decide (c = 63) && mIn (mWX v d h c) (-2) 2 && mIn (mWY v d h c) (-2) 2 && mIn (v 105 (64 * d + c) + mWX v d h c) (-2) 2 && mIn (v 106 (64 * d + c) + mWY v d h c) (-2) 2 && mIn (v 105 (64 * d + c + 1) - mWX v d h c) (-2) 2 && mIn (v 106 (64 * d + c + 1) - mWY v d h c) (-2) 2
/-! the reference's writers -/
def nN (x : Int32) : Nat := x.toNatClampNeg
theorem nN_of {x : Int32} {n : Nat} (h : x = nI n) (hn : n < 2 ^ 31) : nN x = n := by subst h; exact nI_clamp hn
def mT (v : eV) (w : Int32) : eV := e_set v 100 16 w
def mOkC (c : Int32) : Bool := mIn c 0 63
def mOkD (dn : Nat) (d : Int32) : Bool := mIn d 0 (nI dn - 1)
theorem mIn_rng {x : Int32} {lo hi : Nat} (hlo : lo < 2 ^ 30) (hhi : hi < 2 ^ 30) (h : mIn x (nI lo) (nI hi - 1) = true) : ∃ j, lo ≤ j ∧ j < hi ∧ x = nI j := by
  unfold mIn at h
  simp only [Bool.and_eq_true, Bool.not_eq_true', decide_eq_false_iff_not] at h
  obtain ⟨h1, h2⟩ := h
  rw [Int32.lt_iff_toInt_lt, nI_toInt (by omega)] at h1
  rw [Int32.lt_iff_toInt_lt, e_pred (by omega)] at h2
  have h0 : ¬ x < 0 := by
    rw [Int32.lt_iff_toInt_lt]
    show ¬ x.toInt < 0
    omega
  obtain ⟨j, hj, e⟩ := nI_of h0
  subst e
  rw [nI_toInt hj] at h1 h2
  exact ⟨j, by omega, by omega, rfl⟩
theorem e_okD {dn : Nat} {d : Int32} (h8 : dn ≤ 8) (h : mOkD dn d = true) : ∃ j, j < dn ∧ d = nI j := by
  obtain ⟨j, -, h2, h3⟩ := mIn_rng (lo := 0) (hi := dn) (by decide) (by omega) h
  exact ⟨j, h2, h3⟩
theorem e_okR {x : Int32} {lo hi : Nat} (hlo : lo < 2 ^ 30) (hhi : hi < 2 ^ 29) {a b : Int32} (ha : a = nI lo) (hb : b = nI (hi + 1) - 1) (h : mIn x a b = true) : ∃ j, lo ≤ j ∧ j ≤ hi ∧ x = nI j := by
  subst ha; subst hb
  obtain ⟨j, h1, h2, h3⟩ := mIn_rng hlo (by omega) h
  exact ⟨j, h1, by omega, h3⟩
theorem e_okC {c : Int32} (h : mOkC c = true) : ∃ j, j < 64 ∧ c = nI j := by
  obtain ⟨j, h1, h2, h3⟩ := e_okR (lo := 0) (hi := 63) (by decide) (by decide) rfl (by decide) h
  exact ⟨j, by omega, h3⟩
def mFrees (v : eV) : Nat → eV
  | 0 => v
  | n + 1 => e_set (mFrees v n) 113 n (-1)
def mPlaceC (dn : Nat) (d c : Int32) : Int32 := if (mOkD dn d && mOkC c) = true then 0 else 1
theorem mPlaceC_ok {dn : Nat} {d c : Int32} (h : ¬ 0 < mPlaceC dn d c) : mOkD dn d = true ∧ mOkC c = true := by
  unfold mPlaceC at h
  split at h
  · rename_i g
    exact Bool.and_eq_true_iff.mp g
  · exact absurd (by decide) h
def mPlaceV (v : eV) (dn : Nat) (d c b : Int32) : Int32 := if 0 < mPlaceC dn d c then -1 else if b = 0 then mX v (nN d) (nN c + 1) else mY v (nN d) (nN c + 1)
theorem mX_T (v : eV) (w : Int32) (d n : Nat) : mX (mT v w) d n = mX v d n := rfl
theorem mY_T (v : eV) (w : Int32) (d n : Nat) : mY (mT v w) d n = mY v d n := rfl
theorem mClash_T (v : eV) (w : Int32) (c : Nat) : ∀ n, mClash (mT v w) c n = mClash v c n
  | 0 => rfl
  | n + 1 => by
    show mClash (mT v w) c n + _ + _ = mClash v c n + _ + _
    rw [mClash_T v w c n]
    rfl
theorem mLast_T (v : eV) (w : Int32) : ∀ n, mLast (mT v w) n = mLast v n
  | 0 => rfl
  | n + 1 => by
    show ite _ _ (mLast (mT v w) n) = ite _ _ (mLast v n)
    rw [mLast_T v w n]
    rfl
theorem mT_113 (v : eV) (w : Int32) (j : Nat) : mT v w 113 j = v 113 j := rfl
theorem mT_107 (v : eV) (w : Int32) (j : Nat) : mT v w 107 j = v 107 j := rfl
theorem mT_108 (v : eV) (w : Int32) (j : Nat) : mT v w 108 j = v 108 j := rfl
theorem mT_109 (v : eV) (w : Int32) (j : Nat) : mT v w 109 j = v 109 j := rfl
theorem mT_110 (v : eV) (w : Int32) (j : Nat) : mT v w 110 j = v 110 j := rfl
theorem mT_111 (v : eV) (w : Int32) (j : Nat) : mT v w 111 j = v 111 j := rfl
theorem mT_104 (v : eV) (w : Int32) (j : Nat) : mT v w 104 j = v 104 j := rfl
theorem mStands_T (v : eV) (w : Int32) (i c0 dl da db ln : Nat) : mStands (mT v w) i c0 dl da db ln = mStands v i c0 dl da db ln := rfl
def mClashesC (c : Int32) : Int32 := if mOkC c = true then 0 else 1
theorem mClashesC_ok {c : Int32} (h : ¬ 0 < mClashesC c) : mOkC c = true := by
  unfold mClashesC at h
  split at h
  · assumption
  · exact absurd (by decide) h
def mClashesV (v : eV) (dn : Nat) (c : Int32) : Int32 := if 0 < mClashesC c then -1 else mClash v (nN c) dn
def firstN (P : Nat → Bool) : Nat → Nat → Int32
  | 0, _ => -1
  | k + 1, i => if P i = true then nI i else firstN P k (i + 1)
theorem firstN_step {P : Nat → Bool} {n i : Nat} (h : i < n) : firstN P (n - i) i = if P i = true then nI i else firstN P (n - (i + 1)) (i + 1) := by
  rw [show n - i = (n - (i + 1)) + 1 by omega]
  rfl
theorem firstN_end {P : Nat → Bool} {n i : Nat} (h : n ≤ i) : firstN P (n - i) i = -1 := by
  rw [show n - i = 0 by omega]
  rfl
theorem firstN_get {P : Nat → Bool} : ∀ (k i : Nat), i + k < 2 ^ 31 → ¬ firstN P k i < 0 → ∃ w, i ≤ w ∧ w < i + k ∧ firstN P k i = nI w ∧ P w = true
  | 0, i, _, h => absurd (show firstN P 0 i < 0 by show (-1 : Int32) < 0; decide) h
  | k + 1, i, hb, h => by
    by_cases g : P i = true
    · exact ⟨i, Nat.le_refl _, by omega, by show ite _ _ _ = _; rw [if_pos g], g⟩
    · have e : firstN P (k + 1) i = firstN P k (i + 1) := by show ite _ _ _ = _; rw [if_neg g]
      rw [e] at h
      obtain ⟨w, h1, h2, h3, h4⟩ := firstN_get k (i + 1) (by omega) h
      exact ⟨w, by omega, by omega, by rw [e]; exact h3, h4⟩
def mFirst (v : eV) (dn : Nat) : Int32 := firstN (fun c => decide (0 < mClash v c dn)) 64 0
def mRehearsalC (r h : Int32) : Int32 := if (mIn r 0 2 && mIn h 8 20) = true then 0 else 1
theorem mRehearsalC_ok {r h : Int32} (g : ¬ 0 < mRehearsalC r h) : mIn r 0 2 = true ∧ mIn h 8 20 = true := by
  unfold mRehearsalC at g
  split at g
  · rename_i k
    exact Bool.and_eq_true_iff.mp k
  · exact absurd (by decide) g
def mRehearsalV (v : eV) (r h : Int32) : Int32 := if 0 < mRehearsalC r h then -1 else v 113 (13 * nN r + nN h - 8)
def mKneesC (dn : Nat) (d : Int32) : Int32 := if mOkD dn d = true then 0 else 1
theorem mKneesC_ok {dn : Nat} {d : Int32} (h : ¬ 0 < mKneesC dn d) : mOkD dn d = true := by
  unfold mKneesC at h
  split at h
  · assumption
  · exact absurd (by decide) h
def mKneesV (v : eV) (dn : Nat) (d : Int32) : Int32 := if 0 < mKneesC dn d then -1 else v 104 (nN d)
def mTempoC (c last : Int32) : Int32 := if mOkC c = true then (if mIn last 1 1000000000 = true then 0 else 2) else 1
theorem mTempoC_ok {c last : Int32} (h : ¬ 0 < mTempoC c last) : mOkC c = true := by
  unfold mTempoC at h
  split at h
  · assumption
  · exact absurd (by decide) h
def mTempoV (v : eV) (c last : Int32) : Int32 := if 0 < mTempoC c last then -1 else mLast v (nN c + 1)
def mTempoS (v : eV) (c last : Int32) : eV := if 0 < mTempoC c last then mT v (mTempoC c last) else e_set (mT v (mTempoC c last)) 112 (nN c) last
def mOfLiftC (ln : Nat) (l what : Int32) : Int32 := if mOkD ln l = true then (if mIn what 0 4 = true then 0 else 2) else 1
theorem mOfLiftC_ok {ln : Nat} {l what : Int32} (h : ¬ 0 < mOfLiftC ln l what) : mOkD ln l = true ∧ mIn what 0 4 = true := by
  unfold mOfLiftC at h
  split at h
  · split at h
    · exact ⟨by assumption, by assumption⟩
    · exact absurd (by decide) h
  · exact absurd (by decide) h
theorem e_okL {ln : Nat} {l : Int32} (h12 : ln ≤ 12) (h : mOkD ln l = true) : ∃ j, j < ln ∧ l = nI j := by
  obtain ⟨j, -, h2, h3⟩ := mIn_rng (lo := 0) (hi := ln) (by decide) (by omega) h
  exact ⟨j, h2, h3⟩
def mLiftState (v : eV) (ln l : Nat) : Int32 := if v 111 l = 1 then 2 else bI (mStands v l (nN (v 107 l)) (nN (v 108 l)) (nN (v 109 l)) (nN (v 110 l)) ln)
def mOfLiftV (v : eV) (ln : Nat) (l what : Int32) : Int32 := if 0 < mOfLiftC ln l what then -1 else if what = 0 then v 107 (nN l) else if what = 1 then v 108 (nN l) else if what = 2 then v 109 (nN l) else if what = 3 then v 110 (nN l) else mLiftState v ln (nN l)
def mSum (v : eV) : Nat → Int64
  | 0 => 0
  | n + 1 => mSum v n + (mLast v (n + 1)).toInt64
def mBeginsC (v : eV) (c : Int32) : Int32 := if mOkC c = true then (if 2147483647 < mSum v (nN c) then 2 else 0) else 1
theorem mBeginsC_ok {v : eV} {c : Int32} (h : ¬ 0 < mBeginsC v c) : mOkC c = true := by
  unfold mBeginsC at h
  split at h
  · assumption
  · exact absurd (by decide) h
def mBeginsV (v : eV) (c : Int32) : Int32 := if 0 < mBeginsC v c then -1 else (mSum v (nN c)).toInt32
def mSame (v : eV) (x y : Int32) (n : Nat) : Bool := anyN (fun i => decide (v 101 i = x) && decide (v 102 i = y)) n
def mDancerC (v : eV) (dn : Nat) (x y : Int32) : Int32 := if (mIn x 0 7 && mIn y 0 7) = true then (if (mSame v x y dn || decide (dn = 8)) = true then 2 else 0) else 1
theorem mDancerC_ok {v : eV} {dn : Nat} {x y : Int32} (h : ¬ 0 < mDancerC v dn x y) : ¬ dn = 8 := by
  intro e
  subst e
  unfold mDancerC at h
  simp only [decide_true, Bool.or_true] at h
  split at h <;> exact absurd (by decide) h
def mDancerS (v : eV) (dn : Nat) (x y : Int32) : eV := if 0 < mDancerC v dn x y then mT v (mDancerC v dn x y) else e_set (e_set (e_set (mT v (mDancerC v dn x y)) 101 dn x) 102 dn y) 100 4 (nI (dn + 1))
def mDancerV (v : eV) (dn : Nat) (x y : Int32) : Int32 := if 0 < mDancerC v dn x y then -1 else nI dn
def mMoveC (v : eV) (dn : Nat) (d c x y : Int32) : Int32 := if (mOkD dn d && mOkC c) = true then (if (mIn x (-2) 2 && mIn y (-2) 2) = true then (if v 103 (nN d) = 1 then 3 else 0) else 2) else 1
theorem mMoveC_ok {v : eV} {dn : Nat} {d c x y : Int32} (h : ¬ 0 < mMoveC v dn d c x y) : mOkD dn d = true ∧ mOkC c = true := by
  unfold mMoveC at h
  split at h
  · rename_i g
    exact Bool.and_eq_true_iff.mp g
  · exact absurd (by decide) h
def mMoved (v : eV) (d c : Nat) (x y : Int32) : eV := e_set (e_set v 105 (64 * d + c) x) 106 (64 * d + c) y
def mCount (v : eV) (d n : Nat) : Int32 := sumN (fun j => bI (!decide (v 105 (64 * d + j) = 0) || !decide (v 106 (64 * d + j) = 0))) n
def mMoveS (v : eV) (dn : Nat) (d c x y : Int32) : eV := if 0 < mMoveC v dn d c x y then mT v (mMoveC v dn d c x y) else mMoved (mT v (mMoveC v dn d c x y)) (nN d) (nN c) x y
def mMoveV (v : eV) (dn : Nat) (d c x y : Int32) : Int32 := if 0 < mMoveC v dn d c x y then -1 else mCount (mMoved (mT v (mMoveC v dn d c x y)) (nN d) (nN c) x y) (nN d) 64
def mLiftT (dn : Nat) (c d a b : Int32) : Bool := mOkC c && mOkD dn d && mOkD dn a && mOkD dn b
theorem mLiftT_ok {dn : Nat} {c d a b : Int32} (h : mLiftT dn c d a b = true) : mOkC c = true ∧ mOkD dn d = true ∧ mOkD dn a = true ∧ mOkD dn b = true := by
  unfold mLiftT at h
  simp only [Bool.and_eq_true] at h
  exact ⟨h.1.1.1, h.1.1.2, h.1.2, h.2⟩
def mLiftB (v : eV) (dn ln : Nat) (c d a b : Int32) : Bool := mLiftT dn c d a b && (decide (0 < v 103 (nN d) + v 103 (nN a) + v 103 (nN b)) || decide (ln = 12))
def mLiftC (v : eV) (dn ln : Nat) (c d a b : Int32) : Int32 := if mLiftT dn c d a b = true then (if (decide (d = a) || decide (d = b) || decide (a = b)) = true then 2 else if mLiftB v dn ln c d a b = true then 3 else 0) else 1
theorem mLiftC_ok {v : eV} {dn ln : Nat} {c d a b : Int32} (h : ¬ 0 < mLiftC v dn ln c d a b) : ¬ ln = 12 ∧ mLiftT dn c d a b = true := by
  unfold mLiftC at h
  split at h
  · rename_i g
    refine ⟨fun e => ?_, g⟩
    split at h
    · exact absurd (by decide) h
    · rw [if_pos (by unfold mLiftB; rw [g]; simp [e])] at h
      exact absurd (by decide) h
  · exact absurd (by decide) h
def mLiftS (v : eV) (dn ln : Nat) (c d a b : Int32) : eV := if 0 < mLiftC v dn ln c d a b then mT v (mLiftC v dn ln c d a b) else e_set (e_set (e_set (e_set (e_set (mT v (mLiftC v dn ln c d a b)) 107 ln c) 108 ln d) 109 ln a) 110 ln b) 100 12 (nI (ln + 1))
def mLiftV (v : eV) (dn ln : Nat) (c d a b : Int32) : Int32 := if 0 < mLiftC v dn ln c d a b then -1 else nI ln
def mRest (v : eV) : Nat → eV
  | 0 => v
  | n + 1 => e_set (mRest v n) 104 n (if mRest v n 104 n < 25 then 0 else mRest v n 104 n - 25)
def mSleepS (v : eV) : eV := mRest (mFrees (e_set (mT v 0) 100 15 (v 100 15 + 1)) 39) 8
theorem e_cmp_le {x y : Int64} : lg_cmp x y ≤ 0 ↔ ¬ y < x := by
  unfold lg_cmp
  simp only [gt_iff_lt]
  split
  · rename_i h
    exact ⟨fun g => absurd g (by decide), fun g => absurd h g⟩
  · rename_i h
    refine ⟨fun _ => h, fun _ => ?_⟩
    split <;> decide
theorem e_begx {v : eV} {i k : Nat} {c0 : Int32} {x2 : Int64} (ex : x2 = mSum v i) (hi : i ≤ 64) (hci : i = 0 ∨ nI (i - 1) < c0) (hx : ¬ nI i < c0 ∨ 64 ≤ i) (ec : c0 = nI k) (hk : k < 64) : x2 = mSum v k := by
  subst ec
  have h1 : i ≤ k := by
    rcases hci with h | h
    · omega
    · have := (nI_ltI (by omega) (by omega)).mp h
      omega
  have h2 : k ≤ i := by
    rcases hx with h | h
    · exact Nat.not_lt.mp (fun g => h ((nI_ltI (by omega) (by omega)).mpr g))
    · omega
  rw [ex, show i = k by omega]
theorem nl0 : nI 0 = 0 := rfl
theorem nl1 : nI 1 = 1 := rfl
theorem nl2 : nI 2 = 2 := rfl
theorem nl3 : nI 3 = 3 := rfl
theorem nl4 : nI 4 = 4 := rfl
/-! the reference: rehearse, hurt -/
def orN (f : Nat → Int32) : Nat → Int32
  | 0 => 0
  | n + 1 => orN f n ||| f n
def mCostO (v : eV) (ln i a b : Nat) : Int32 := if v 103 i = 1 then 0 else mCost v ln i a (b + 1 - a)
def mBit (x : Int32) (i : Nat) : Int32 := if 0 < x then (1 : Int32) <<< (nI i &&& 31) else 0
def mWho (v : eV) (ln a b n : Nat) : Int32 := orN (fun i => mBit (mCostO v ln i a b) i) n
def mBar1 (v : eV) (ln a b h i : Nat) : Bool := decide (0 < mCostO v ln i a b) && (mBusy v i h 3 || decide (60 < v 104 i + mCostO v ln i a b))
def mBars (v : eV) (ln a b h n : Nat) : Bool := anyN (mBar1 v ln a b h) n
def mRehT (r h a b : Int32) : Bool := mIn r 0 2 && mIn h 8 20 && mOkC a && mOkC b
def mRehR (r h a b : Int32) : Bool := mRehT r h a b && !decide (b < a)
def mRehK (v : eV) (r h a b : Int32) : Bool := mRehR r h a b && !decide (v 113 (13 * nN r + nN h - 8) < 0)
def mRehC0 (t g k : Bool) : Int32 := if t = true then (if g = true then (if k = true then 3 else 0) else 2) else 1
def mRehC (v : eV) (dn ln : Nat) (r h a b : Int32) : Int32 := mRehC0 (mRehT r h a b) (mRehR r h a b) (mRehK v r h a b || mBars v ln (nN a) (nN b) (nN h) dn)
theorem mRehC0_ok {t g k : Bool} (h : ¬ 0 < mRehC0 t g k) : t = true ∧ g = true ∧ k = false := by
  cases t <;> cases g <;> cases k <;> first | exact ⟨rfl, rfl, rfl⟩ | exact absurd (by decide) h
theorem mRehC0_r {t k : Bool} : 0 < mRehC0 t false k := by cases t <;> cases k <;> decide
theorem mRehT_ok {r h a b : Int32} (g : mRehT r h a b = true) : mIn r 0 2 = true ∧ mIn h 8 20 = true ∧ mOkC a = true ∧ mOkC b = true := by
  unfold mRehT at g
  simp only [Bool.and_eq_true] at g
  exact ⟨g.1.1.1, g.1.1.2, g.1.2, g.2⟩
theorem mRehR_ok {r h a b : Int32} (g : mRehR r h a b = true) : mRehT r h a b = true ∧ ¬ b < a := by
  unfold mRehR at g
  simp only [Bool.and_eq_true, Bool.not_eq_true', decide_eq_false_iff_not] at g
  exact g
def mCharge (v : eV) (ln : Nat) (who : Int32) (a b : Nat) : Nat → eV
  | 0 => v
  | n + 1 => e_set (mCharge v ln who a b n) 104 n (mCharge v ln who a b n 104 n + (if (who >>> (nI n &&& 31)) &&& 1 = 1 then mCost (mCharge v ln who a b n) ln n a (b + 1 - a) else 0))
theorem mCharge_mI {dn ln : Nat} {v : eV} {who : Int32} {a b : Nat} (h : mI dn ln v) : ∀ n, mI dn ln (mCharge v ln who a b n)
  | 0 => h
  | n + 1 => mCharge_mI h n
def mRehS (v : eV) (dn ln : Nat) (r h a b : Int32) : eV := if 0 < mRehC v dn ln r h a b then mT v (mRehC v dn ln r h a b) else e_set (mCharge (mT v (mRehC v dn ln r h a b)) ln (mWho v ln (nN a) (nN b) dn) (nN a) (nN b) dn) 113 (13 * nN r + nN h - 8) (mWho v ln (nN a) (nN b) dn)
def mRehV (v : eV) (dn ln : Nat) (r h a b : Int32) : Int32 := if 0 < mRehC v dn ln r h a b then -1 else mWho v ln (nN a) (nN b) dn
def mComes (v : eV) (d h c : Nat) : eV :=
  e_set (e_set (e_set (e_set v 105 (64 * d + c) (v 105 (64 * d + c) + mWX v d h c)) 106 (64 * d + c) (e_set v 105 (64 * d + c) (v 105 (64 * d + c) + mWX v d h c) 106 (64 * d + c) + mWY v d h c)) 105 (64 * d + c + 1) (e_set (e_set v 105 (64 * d + c) (v 105 (64 * d + c) + mWX v d h c)) 106 (64 * d + c) (e_set v 105 (64 * d + c) (v 105 (64 * d + c) + mWX v d h c) 106 (64 * d + c) + mWY v d h c) 105 (64 * d + c + 1) - mWX v d h c)) 106 (64 * d + c + 1) (e_set (e_set (e_set v 105 (64 * d + c) (v 105 (64 * d + c) + mWX v d h c)) 106 (64 * d + c) (e_set v 105 (64 * d + c) (v 105 (64 * d + c) + mWX v d h c) 106 (64 * d + c) + mWY v d h c)) 105 (64 * d + c + 1) (e_set (e_set v 105 (64 * d + c) (v 105 (64 * d + c) + mWX v d h c)) 106 (64 * d + c) (e_set v 105 (64 * d + c) (v 105 (64 * d + c) + mWX v d h c) 106 (64 * d + c) + mWY v d h c) 105 (64 * d + c + 1) - mWX v d h c) 106 (64 * d + c + 1) - mWY v d h c)
def mFree (v : eV) (d ln c : Nat) : Bool := decide (v 103 d = 0) && decide (mLiftsOf v (nI d) (nI c) ln = 0)
def mNear (v : eV) (ln c dl : Nat) (d : Nat) : Bool := mFree v d ln c && mBeside v d dl c
def mFar (v : eV) (ln c h : Nat) (d : Nat) : Bool := mFree v d ln c && mCanCome v d h c
def mPick (near far : Int32) : Int32 := if near < 0 then far else near
def mTake (v : eV) (l : Nat) (h who : Int32) : eV :=
  e_set (e_set v 109 l (if v 109 l = h then who else v 109 l)) 110 l (if e_set v 109 l (if v 109 l = h then who else v 109 l) 110 l = h then who else e_set v 109 l (if v 109 l = h then who else v 109 l) 110 l)
def mMendsS (v : eV) (dn ln l c dl h : Nat) : eV :=
  if firstN (mNear v ln c dl) dn 0 < 0 then
    (if firstN (mFar v ln c h) dn 0 < 0 then e_set v 111 l 1
     else mTake (mComes v (nN (firstN (mFar v ln c h) dn 0)) h c) l (nI h) (firstN (mFar v ln c h) dn 0))
  else mTake v l (nI h) (firstN (mNear v ln c dl) dn 0)
def mMendsV (v : eV) (dn ln l c dl h : Nat) : Int32 :=
  if firstN (mNear v ln c dl) dn 0 < 0 then (if firstN (mFar v ln c h) dn 0 < 0 then 0 else 2) else 0
theorem e_ppr {i : Nat} (h : 1 ≤ i) : nI i - 1 = nI (i - 1) := pk_sub (a := i) (b := 1) h
theorem e_pneg {i : Nat} (hi : i < 2 ^ 30) : nI i - 1 < 0 ↔ i = 0 := by
  rw [Int32.lt_iff_toInt_lt, e_pred hi]
  show (i : Int) - 1 < 0 ↔ _
  omega
theorem mI_taken {dn ln : Nat} {v : eV} {l w : Nat} {h : Int32} (hv : mI dn ln v) (hw : w < dn) : mI dn ln (mTake v l h (nI w)) := by
  obtain ⟨h1, h2, h3, h4, h5, h6, h7, h8⟩ := hv
  refine ⟨h1, h2, h3, h4, h5, h6, fun i hi => ?_, fun i hi => ?_⟩
  · show ∃ d, d < dn ∧ upd (v 109) l (if v 109 l = h then nI w else v 109 l) i = nI d
    unfold upd
    split
    · split
      · exact ⟨w, hw, rfl⟩
      · rename_i e _
        subst e
        exact h7 _ hi
    · exact h7 i hi
  · show ∃ d, d < dn ∧ upd (v 110) l (if v 110 l = h then nI w else v 110 l) i = nI d
    unfold upd
    split
    · split
      · exact ⟨w, hw, rfl⟩
      · rename_i e _
        subst e
        exact h8 _ hi
    · exact h8 i hi
theorem mI_comes {dn ln : Nat} {v : eV} {d h c : Nat} (hv : mI dn ln v) : mI dn ln (mComes v d h c) := hv
theorem mFar_c {v : eV} {ln c h d : Nat} (g : mFar v ln c h d = true) : ¬ c = 63 := by
  unfold mFar mCanCome at g
  simp only [Bool.and_eq_true, Bool.not_eq_true', decide_eq_false_iff_not] at g
  exact g.2.1.1.1.1.1.1
theorem mI_mends {dn ln : Nat} {v : eV} {l c dl h : Nat} (hv : mI dn ln v) : mI dn ln (mMendsS v dn ln l c dl h) := by
  have h8 := hv.2.2.1
  unfold mMendsS
  split
  · split
    · exact hv
    · rename_i g
      obtain ⟨w, -, h2, h3, -⟩ := firstN_get dn 0 (by omega) g
      rw [h3]
      exact mI_taken (mI_comes hv) (by omega)
  · rename_i g
    obtain ⟨w, -, h2, h3, -⟩ := firstN_get dn 0 (by omega) g
    rw [h3]
    exact mI_taken hv (by omega)
def mHurtC (v : eV) (dn : Nat) (d : Int32) : Int32 := if mOkD dn d = true then (if v 103 (nN d) = 1 then 2 else 0) else 1
theorem mHurtC_ok {v : eV} {dn : Nat} {d : Int32} (h : ¬ 0 < mHurtC v dn d) : mOkD dn d = true := by
  unfold mHurtC at h
  split at h
  · assumption
  · exact absurd (by decide) h
def mDrop (v : eV) (d : Int32) : Nat → eV
  | 0 => v
  | n + 1 => e_set (mDrop v d n) 111 n (if mDrop v d n 108 n = d then 1 else mDrop v d n 111 n)
theorem mDrop_mI {dn ln : Nat} {v : eV} {d : Int32} (h : mI dn ln v) : ∀ n, mI dn ln (mDrop v d n)
  | 0 => h
  | n + 1 => mDrop_mI h n
/-- whether the lift l is one that the hurt one lifts in -/
def mHit (v : eV) (l d : Nat) : Bool := decide (v 111 l = 0) && mOf v l (nI d)
def mMendAll (v : eV) (dn ln d : Nat) : Nat → eV × Int32
  | 0 => (v, 0)
  | n + 1 => if mHit (mMendAll v dn ln d n).1 n d = true then (mMendsS (mMendAll v dn ln d n).1 dn ln n (nN ((mMendAll v dn ln d n).1 107 n)) (nN ((mMendAll v dn ln d n).1 108 n)) d, (mMendAll v dn ln d n).2 + mMendsV (mMendAll v dn ln d n).1 dn ln n (nN ((mMendAll v dn ln d n).1 107 n)) (nN ((mMendAll v dn ln d n).1 108 n)) d)
    else ((mMendAll v dn ln d n).1, (mMendAll v dn ln d n).2 + 0)
theorem mMendAll_mI {dn ln : Nat} {v : eV} {d : Nat} (h : mI dn ln v) : ∀ n, mI dn ln (mMendAll v dn ln d n).1
  | 0 => h
  | n + 1 => by
    unfold mMendAll
    split
    · exact mI_mends (mMendAll_mI h n)
    · exact mMendAll_mI h n
def mHurt0 (v : eV) (dn ln : Nat) (d : Int32) : eV := mDrop (e_set (mT v (mHurtC v dn d)) 103 (nN d) 1) (nI (nN d)) ln
def mHurtS (v : eV) (dn ln : Nat) (d : Int32) : eV := if 0 < mHurtC v dn d then mT v (mHurtC v dn d) else (mMendAll (mHurt0 v dn ln d) dn ln (nN d) ln).1
def mHurtV (v : eV) (dn ln : Nat) (d : Int32) : Int32 := if 0 < mHurtC v dn d then -1 else (mMendAll (mHurt0 v dn ln d) dn ln (nN d) ln).2
theorem mRehC0_f {t k k' : Bool} : mRehC0 t false k = mRehC0 t false k' := by cases t <;> rfl
theorem e_m1 {x : Int32} : x + Int32.ofInt (-1) = x - 1 := by rw [Int32.sub_eq_add_neg]; rfl
theorem mPick_neg {a b : Int32} (h : mPick a b < 0) : a < 0 ∧ b < 0 := by
  unfold mPick at h
  split at h
  · exact ⟨by assumption, h⟩
  · exact absurd h (by assumption)
theorem mPick_near {a b : Int32} (h : ¬ a < 0) : mPick a b = a := if_neg h
theorem mPick_far {a b : Int32} (h : a < 0) : mPick a b = b := if_pos h
theorem mMendAll_hit {U u : eV} {dn ln d n c dl : Nat} {y : Int32} (h : mMendAll U dn ln d n = (u, y)) (g : mHit u n d = true) (ec : u 107 n = nI c) (el : u 108 n = nI dl) (hc : c < 64) (hd : dl < 8) : mMendAll U dn ln d (n + 1) = (mMendsS u dn ln n c dl d, y + mMendsV u dn ln n c dl d) := by
  unfold mMendAll
  rw [h]
  show ite _ _ _ = _
  rw [if_pos g, nN_of ec (by omega), nN_of el (by omega)]
theorem mMendAll_miss {U u : eV} {dn ln d n : Nat} {y : Int32} (h : mMendAll U dn ln d n = (u, y)) (g : ¬ mHit u n d = true) : mMendAll U dn ln d (n + 1) = (u, y + 0) := by
  unfold mMendAll
  rw [h]
  show ite _ _ _ = _
  rw [if_neg g]
/-! THE CLASS, as functions of its numbers: 20 + 7 i a dancer (2 points, 3 out), + 1 columns (0 first), + 2 moves, + 3 places, + 4 rows, + 5, + 6; 80 + l a lift (0 count, 1 lifted, 2 one, 3 other, 4 gone); 3 told; 5 + r plans; 0 4 day -/
def isT (kd : Nat → Nat) (n : Nat) : Prop := kd n = 2 ∧ kd (n + 1) = 84 ∧ kd (n + 2) = 84
def isD (kd : Nat → Nat) (n : Nat) : Prop := kd n = 1 ∧ isT kd (n + 1) ∧ isT kd (n + 4)
def cK (kd sp : Nat → Nat) : Prop := (kd 0 = 5 ∧ kd 1 = 6 ∧ kd 2 = 8 ∧ kd 3 = 84 ∧ kd 4 = 10 ∧ ∀ r, r < 3 → kd (5 + r) = 33) ∧ (0 < sp 0 → kd 8 = 7) ∧ (0 < sp 1 → kd 9 = 9) ∧ (∀ i, i < sp 0 → isD kd (20 + 7 * i)) ∧ (∀ i, i < sp 1 → kd (80 + i) = 4) ∧ sp 0 ≤ 8 ∧ sp 1 ≤ 12 ∧ sp 0 ≤ sp 2 ∧ sp 1 ≤ sp 3 ∧ sp 2 < 100 ∧ sp 3 < 100
def cI (sp : Nat → Nat) (v : eV) : Prop := (∀ i, i < sp 0 → v (20 + 7 * i) 3 = 0 ∨ v (20 + 7 * i) 3 = 1) ∧ (∀ i, i < sp 1 → ∃ c, c < 64 ∧ v (80 + i) 0 = nI c) ∧ (∀ i, i < sp 1 → ∃ d, d < sp 0 ∧ v (80 + i) 1 = nI d) ∧ (∀ i, i < sp 1 → ∃ d, d < sp 0 ∧ v (80 + i) 2 = nI d) ∧ (∀ i, i < sp 1 → ∃ d, d < sp 0 ∧ v (80 + i) 3 = nI d)
def cOut (v : eV) (i : Nat) : Bool := decide (v (20 + 7 * i) 3 = 1)
theorem cOut_b {sp : Nat → Nat} {v : eV} (h : cI sp v) {i : Nat} (hi : i < sp 0) : v (20 + 7 * i) 3 = bI (cOut v i) := by
  unfold cOut
  rcases h.1 i hi with e | e <;> rw [e] <;> decide
def cOn (x : Int32) : Bool := !decide (x < 0) && decide (x < 8)
def cTakes (p : Int32) (d : Nat) : Bool := !decide ((p >>> (nI d &&& 31)) &&& 1 = 0)
def cMax (x y : Int32) : Int32 := if x < y then y else x
def cFill (v : eV) (n : Nat) (x : Int32) : Nat → eV
  | 0 => v
  | k + 1 => e_set (cFill v n x k) n k x
def cWay (v : eV) (t g c : Nat) : Int32 := v (g + 2) c - v (t + 2) c
def cAhead (v : eV) (t c : Nat) : Int32 := if 0 < c then v (t + 2) (c - 1) else v t 0
def cFollow (v : eV) (t n : Nat) : Int32 := v t 0 + sumN (fun j => v (t + 1) j) n
def cWayIn (v : eV) (t a n : Nat) : Int32 := sumN (fun i => mFlat (v (t + 1) (a + i))) n
def cCanT (v : eV) (t g c : Nat) : Bool := decide (c < 63) && mIn (cWay v t g c) (-2) 2 && mIn (v (t + 1) c + cWay v t g c) (-2) 2 && mIn (v (t + 1) (c + 1) - cWay v t g c) (-2) 2
def cTr (d : Nat) (b : Int32) : Nat := if b = 0 then d + 1 else d + 4
theorem isT_tr {kd : Nat → Nat} {d : Nat} (h : isD kd d) (b : Int32) : isT kd (cTr d b) := by
  unfold cTr
  split
  · exact h.2.1
  · exact h.2.2
def cCount (v : eV) (d n : Nat) : Int32 := sumN (fun j => bI (!decide (v (d + 1 + 1) j = 0) || !decide (v (d + 4 + 1) j = 0))) n
def cOff (v : eV) (d c : Nat) : Bool := !cOn (v (d + 1 + 2) c) || !cOn (v (d + 4 + 2) c)
def cWith (v : eV) (d e c : Nat) : Bool := decide (cWay v (d + 1) (e + 1) c = 0) && decide (cWay v (d + 4) (e + 4) c = 0)
def cBeside (v : eV) (d e c : Nat) : Bool := !cWith v d e c && !decide (1 < mFlat (cWay v (d + 1) (e + 1) c)) && !decide (1 < mFlat (cWay v (d + 4) (e + 4) c))
def cTakesP (v : eV) (d e c : Nat) : Bool := decide (v (d + 1 + 2) c = cAhead v (e + 1) c) && decide (v (d + 4 + 2) c = cAhead v (e + 4) c)
def cChange (v : eV) (d e c : Nat) : Bool := cTakesP v d e c && cTakesP v e d c
def cCanD (v : eV) (d e c : Nat) : Bool := cCanT v (d + 1) (e + 1) c && cCanT v (d + 4) (e + 4) c
def cBy (v : eV) (n : Nat) (d : Int32) : Bool := decide (v n 2 = d) || decide (v n 3 = d)
def cHas (v : eV) (n : Nat) (d : Int32) : Bool := decide (v n 1 = d) || cBy v n d
def cFirstP (v : eV) (x y : Int32) (n : Nat) : Bool := anyN (fun i => decide (v (20 + 7 * i + 1) 0 = x) && decide (v (20 + 7 * i + 4) 0 = y)) n
theorem anyN_t {f : Nat → Bool} {i : Nat} (h : f i = true) : ∀ {n : Nat}, i < n → anyN f n = true
  | 0, g => absurd g (Nat.not_lt_zero _)
  | n + 1, g => by
    show (anyN f n || f n) = true
    by_cases e : i = n
    · subst e
      rw [h, Bool.or_true]
    · rw [anyN_t h (by omega), Bool.true_or]
theorem anyN_s {f : Nat → Bool} {n : Nat} (h : anyN f n = false) (g : f n = false) : anyN f (n + 1) = false := by
  show (anyN f n || f n) = false
  rw [h, g]
  rfl
theorem sum_t {x S : Int32} {b : Bool} (h : x = S) (g : b = true) : x + 1 = S + bI b := by subst h; subst g; rfl
theorem sum_f {x S : Int32} {b : Bool} (h : x = S) (g : b = false) : x = S + bI b := by subst h; subst g; show x = x + 0; rw [Int32.add_zero]
def cPair (v : eV) (i j c : Nat) : Bool := cWith v (20 + 7 * i) (20 + 7 * j) c || cChange v (20 + 7 * i) (20 + 7 * j) c
def cPairs (v : eV) (c i k : Nat) : Int32 := sumN (fun t => bI (cPair v i (i + 1 + t) c)) k
def cClash (v : eV) (c n : Nat) : Nat → Int32
  | 0 => 0
  | i + 1 => (cClash v c n i + bI (cOff v (20 + 7 * i) c)) + cPairs v c i (n - (i + 1))
def cLiftsW (v : eV) (d a b : Int32) (n : Nat) : Int32 := sumN (fun l => bI (decide (v (80 + l) 4 = 0) && !decide (v (80 + l) 0 < a) && !decide (b < v (80 + l) 0) && cHas v (80 + l) d)) n
def cFree (v : eV) (l d n : Nat) : Bool := !cOut v d && decide (cLiftsW v (nI d) (v (80 + l) 0) (v (80 + l) 0) n = 1)
def cBesL (v : eV) (d dl c : Nat) : Bool := cBeside v (20 + 7 * d) (20 + 7 * dl) c
def cStands (v : eV) (l c dl da db n : Nat) : Bool := cFree v l dl n && cFree v l da n && cFree v l db n && cBesL v da dl c && cBesL v db dl c
def cState (v : eV) (l c dl da db n : Nat) : Int32 := if v (80 + l) 4 = 0 then bI (cStands v l c dl da db n) else 2
def cLast (v : eV) : Nat → Int32
  | 0 => v 3 0
  | n + 1 => if v 3 (n + 1) = 0 then cLast v n else v 3 (n + 1)
def cUp (v : eV) : Nat → Int32
  | 0 => 500
  | n + 1 => if v 3 n = 0 then cUp v n else v 3 n
def cSum (v : eV) : Nat → Int64
  | 0 => 0
  | n + 1 => cSum v n + (cUp v (n + 1)).toInt64
def cPts (v : eV) (n d a b : Nat) : Int32 := cWayIn v (20 + 7 * d + 1) a (b + 1 - a) + cWayIn v (20 + 7 * d + 4) a (b + 1 - a) + 5 * cLiftsW v (nI d) (nI a) (nI b) n
def cPart (v : eV) (n a b i : Nat) : Bool := !cOut v i && decide (0 < cPts v n i a b)
def cParts (v : eV) (n a b : Nat) : Nat → Int32
  | 0 => 0
  | i + 1 => if cPart v n a b i = true then cParts v n a b i ||| ((1 : Int32) <<< (nI i &&& 31)) else cParts v n a b i
def cBusy (v : eV) (p : Int32) (h : Nat) (n : Nat) : Bool := anyN (fun r => !decide (v (5 + r) (h - 8) = -1) && !decide (v (5 + r) (h - 8) &&& p = 0)) n
def cTired (v : eV) (n2 : Nat) (p : Int32) (a b : Nat) (n : Nat) : Bool := anyN (fun i => cTakes p i && decide (60 < v (20 + 7 * i) 2 + cPts v n2 i a b)) n
def cNeed (v : eV) (l lv j c dl n : Nat) : Int32 := if (cOut v j || decide (0 < cLiftsW v (nI j) (v (80 + l) 0) (v (80 + l) 0) n)) = true then 3 else if cBesL v j dl c = true then 0 else if cCanD v (20 + 7 * j) (20 + 7 * lv) c = true then 2 else 3
theorem cK_rows {kd sp : Nat → Nat} (h : cK kd sp) {r : Nat} (hr : r < 3) : kd (5 + r) = 33 := h.1.2.2.2.2.2 r hr
theorem e_absF {x : Int32} : (if 0 ≤ x then x else 0 - x) = mFlat x := by
  unfold mFlat
  by_cases h : x < 0
  · rw [if_neg (Int32.not_le.mpr h), if_pos h, Int32.zero_sub]
  · rw [if_pos (Int32.not_lt.mp h), if_neg h]
theorem cLast_0 {v : eV} {i : Nat} (h : 1 ≤ i) (g : v 3 i = 0) : cLast v i = cLast v (i - 1) := by
  obtain ⟨n, rfl⟩ : ∃ n, i = n + 1 := ⟨i - 1, by omega⟩
  show ite _ _ _ = _
  rw [if_pos g]
  rfl
theorem cLast_n {v : eV} {i : Nat} (h : ¬ i = 0) (g : ¬ v 3 i = 0) : cLast v i = v 3 i := by
  obtain ⟨n, rfl⟩ : ∃ n, i = n + 1 := ⟨i - 1, by omega⟩
  show ite _ _ _ = _
  rw [if_neg g]
theorem cUp_0 {v : eV} {i : Nat} (g : v 3 i = 0) : cUp v (i + 1) = cUp v i := if_pos g
theorem cUp_n {v : eV} {i : Nat} (g : ¬ v 3 i = 0) : cUp v (i + 1) = v 3 i := if_neg g
theorem cParts_t {v : eV} {n a b i : Nat} (g : cPart v n a b i = true) : cParts v n a b (i + 1) = cParts v n a b i ||| ((1 : Int32) <<< (nI i &&& 31)) := if_pos g
theorem cParts_f {v : eV} {n a b i : Nat} (g : cPart v n a b i = false) : cParts v n a b (i + 1) = cParts v n a b i := if_neg (by rw [g]; decide)
theorem inJx4a65c : ∀ w ∈ wsJx4a65c0, w ∈ AW := fun w h => aw_of ((by decide +kernel : ∀ w ∈ wsJx4a65c0, w ∈ lw_tbl) w h) ((by decide +kernel : ∀ w ∈ wsJx4a65c0, goodWord w = true) w h)
theorem inX4 : ∀ w ∈ wsX40, w ∈ AW := fun w h => aw_of ((by decide +kernel : ∀ w ∈ wsX40, w ∈ lw_tbl) w h) ((by decide +kernel : ∀ w ∈ wsX40, goodWord w = true) w h)
theorem inX3 : ∀ w ∈ wsX30, w ∈ AW := fun w h => aw_of ((by decide +kernel : ∀ w ∈ wsX30, w ∈ lw_tbl) w h) ((by decide +kernel : ∀ w ∈ wsX30, goodWord w = true) w h)
theorem inX2 : ∀ w ∈ wsX20, w ∈ AW := fun w h => aw_of ((by decide +kernel : ∀ w ∈ wsX20, w ∈ lw_tbl) w h) ((by decide +kernel : ∀ w ∈ wsX20, goodWord w = true) w h)
theorem inX1 : ∀ w ∈ wsX10, w ∈ AW := fun w h => aw_of ((by decide +kernel : ∀ w ∈ wsX10, w ∈ lw_tbl) w h) ((by decide +kernel : ∀ w ∈ wsX10, goodWord w = true) w h)
theorem inX0 : ∀ w ∈ wsX00, w ∈ AW := fun w h => aw_of ((by decide +kernel : ∀ w ∈ wsX00, w ∈ lw_tbl) w h) ((by decide +kernel : ∀ w ∈ wsX00, goodWord w = true) w h)
theorem aw_0 : Cond.fieldLink RJx4a65c 48 "java/util/ArrayList" "size" "I" ∈ AW := aw_of (List.mem_of_getElem? (i := 90) (by decide +kernel)) (by decide +kernel)
theorem aw_1 : Cond.methodLink RJ15 105 yJ3_checkIndex_8e157 ∈ AW := aw_of (List.mem_of_getElem? (i := 146) (by decide +kernel)) (by decide +kernel)
theorem aw_2 : Cond.static yJ3_checkIndex_8e157 ∈ AW := aw_of (List.mem_of_getElem? (i := 147) (by decide +kernel)) (by decide +kernel)
theorem aw_3 : Cond.initialized RJ3 ∈ AW := aw_of (List.mem_of_getElem? (i := 58) (by decide +kernel)) (by decide +kernel)
set_option maxRecDepth 100000 in
theorem aw_4 : Cond.code yJ3_checkIndex_8e157 cJ3_checkIndex_8e157 3 (some .int) ∈ AW := aw_of (List.mem_of_getElem? (i := 148) rfl) (by decide +kernel)
theorem cw_RJ15_105 : e_cwS RJ15 105 yJ3_checkIndex_8e157 cJ3_checkIndex_8e157 3 (some .int) 3 := ⟨aw_1, aw_2, aw_3, aw_4, by decide +kernel, by decide +kernel, by decide +kernel⟩
theorem aw_6 : Cond.fieldLink RJx4a65c 9 "java/util/ArrayList" "elementData" "[Ljava/lang/Object;" ∈ AW := aw_of (List.mem_of_getElem? (i := 89) (by decide +kernel)) (by decide +kernel)
theorem aw_7 : Cond.methodLink RJx4a65c 118 yJ15_checkIndex_7cf53 ∈ AW := aw_of (List.mem_of_getElem? (i := 143) (by decide +kernel)) (by decide +kernel)
theorem aw_8 : Cond.static yJ15_checkIndex_7cf53 ∈ AW := aw_of (List.mem_of_getElem? (i := 144) (by decide +kernel)) (by decide +kernel)
theorem aw_9 : Cond.initialized RJ15 ∈ AW := aw_of (List.mem_of_getElem? (i := 57) (by decide +kernel)) (by decide +kernel)
set_option maxRecDepth 100000 in
theorem aw_10 : Cond.code yJ15_checkIndex_7cf53 cJ15_checkIndex_7cf53 2 (some .int) ∈ AW := aw_of (List.mem_of_getElem? (i := 145) rfl) (by decide +kernel)
theorem cw_RJx4a65c_118 : e_cwS RJx4a65c 118 yJ15_checkIndex_7cf53 cJ15_checkIndex_7cf53 2 (some .int) 2 := ⟨aw_7, aw_8, aw_9, aw_10, by decide +kernel, by decide +kernel, by decide +kernel⟩
theorem aw_12 : Cond.methodLink RJx4a65c 123 yJx4a65c_elementData_915e3 ∈ AW := aw_of (List.mem_of_getElem? (i := 149) (by decide +kernel)) (by decide +kernel)
theorem aw_13 : Cond.instanceMethod yJx4a65c_elementData_915e3 ∈ AW := aw_of (List.mem_of_getElem? (i := 150) (by decide +kernel)) (by decide +kernel)
theorem aw_14 : Cond.selects RJx4a65c yJx4a65c_elementData_915e3 yJx4a65c_elementData_915e3 ∈ AW := aw_of (List.mem_of_getElem? (i := 151) (by decide +kernel)) (by decide +kernel)
theorem aw_15 : Cond.initialized RJx4a65c ∈ AW := aw_of (List.mem_of_getElem? (i := 47) (by decide +kernel)) (by decide +kernel)
set_option maxRecDepth 100000 in
theorem aw_16 : Cond.code yJx4a65c_elementData_915e3 cJx4a65c_elementData_915e3 2 (some (.object "java/lang/Object")) ∈ AW := aw_of (List.mem_of_getElem? (i := 152) rfl) (by decide +kernel)
theorem cw_RJx4a65c_123 : e_cwV RJx4a65c 123 RJx4a65c yJx4a65c_elementData_915e3 cJx4a65c_elementData_915e3 2 (some (.object "java/lang/Object")) 1 := ⟨aw_12, aw_13, aw_14, aw_15, aw_16, rfl, by decide +kernel, by decide +kernel, by decide +kernel⟩
theorem aw_18 : Cond.fieldLink RX1 20 "Stepscript$Lift" "one" "I" ∈ AW := aw_of (List.mem_of_getElem? (i := 505) (by decide +kernel)) (by decide +kernel)
theorem aw_19 : Cond.fieldLink RX1 23 "Stepscript$Lift" "other" "I" ∈ AW := aw_of (List.mem_of_getElem? (i := 507) (by decide +kernel)) (by decide +kernel)
theorem aw_20 : Cond.fieldLink RX1 17 "Stepscript$Lift" "lifted" "I" ∈ AW := aw_of (List.mem_of_getElem? (i := 503) (by decide +kernel)) (by decide +kernel)
theorem aw_21 : Cond.methodLink RX1 26 yX1_isBy ∈ AW := aw_of (List.mem_of_getElem? (i := 547) (by decide +kernel)) (by decide +kernel)
theorem aw_22 : Cond.instanceMethod yX1_isBy ∈ AW := aw_of (List.mem_of_getElem? (i := 548) (by decide +kernel)) (by decide +kernel)
theorem aw_23 : Cond.selects RX1 yX1_isBy yX1_isBy ∈ AW := aw_of (List.mem_of_getElem? (i := 549) (by decide +kernel)) (by decide +kernel)
theorem aw_24 : Cond.initialized RX1 ∈ AW := aw_of (List.mem_of_getElem? (i := 65) (by decide +kernel)) (by decide +kernel)
set_option maxRecDepth 100000 in
theorem aw_25 : Cond.code yX1_isBy cX1_isBy 2 (some .boolean) ∈ AW := aw_of (List.mem_of_getElem? (i := 550) rfl) (by decide +kernel)
theorem cw_RX1_26 : e_cwV RX1 26 RX1 yX1_isBy cX1_isBy 2 (some .boolean) 1 := ⟨aw_21, aw_22, aw_23, aw_24, aw_25, rfl, by decide +kernel, by decide +kernel, by decide +kernel⟩
theorem aw_27 : Cond.fieldLink RX2 18 "Stepscript$Track" "first" "I" ∈ AW := aw_of (List.mem_of_getElem? (i := 321) (by decide +kernel)) (by decide +kernel)
theorem aw_28 : Cond.fieldLink RX2 15 "Stepscript$Track" "places" "[I" ∈ AW := aw_of (List.mem_of_getElem? (i := 325) (by decide +kernel)) (by decide +kernel)
theorem aw_29 : Cond.fieldLink RX2 9 "Stepscript$Track" "moves" "[I" ∈ AW := aw_of (List.mem_of_getElem? (i := 323) (by decide +kernel)) (by decide +kernel)
theorem aw_30 : Cond.methodLink RX2 28 yJ9_abs_0f7a4 ∈ AW := aw_of (List.mem_of_getElem? (i := 634) (by decide +kernel)) (by decide +kernel)
set_option maxRecDepth 100000 in
theorem aw_31 : Cond.code yJ9_abs_0f7a4 cJ9_abs_0f7a4 1 (some .int) ∈ AW := aw_of (List.mem_of_getElem? (i := 562) rfl) (by decide +kernel)
theorem em_code_abs : Cond.code Lib.Math.abs.name Lib.Math.abs.code 1 (some .int) ∈ AW := aw_31
theorem aw_33 : Cond.static yJ9_abs_0f7a4 ∈ AW := aw_of (List.mem_of_getElem? (i := 561) (by decide +kernel)) (by decide +kernel)
theorem aw_34 : Cond.initialized RJ9 ∈ AW := aw_of (List.mem_of_getElem? (i := 62) (by decide +kernel)) (by decide +kernel)
theorem aw_35 : Cond.methodLink RX2 34 yX2_wayTo ∈ AW := aw_of (List.mem_of_getElem? (i := 694) (by decide +kernel)) (by decide +kernel)
theorem aw_36 : Cond.instanceMethod yX2_wayTo ∈ AW := aw_of (List.mem_of_getElem? (i := 166) (by decide +kernel)) (by decide +kernel)
theorem aw_37 : Cond.selects RX2 yX2_wayTo yX2_wayTo ∈ AW := aw_of (List.mem_of_getElem? (i := 167) (by decide +kernel)) (by decide +kernel)
theorem aw_38 : Cond.initialized RX2 ∈ AW := aw_of (List.mem_of_getElem? (i := 60) (by decide +kernel)) (by decide +kernel)
set_option maxRecDepth 100000 in
theorem aw_39 : Cond.code yX2_wayTo cX2_wayTo 3 (some .int) ∈ AW := aw_of (List.mem_of_getElem? (i := 168) rfl) (by decide +kernel)
theorem cw_RX2_34 : e_cwV RX2 34 RX2 yX2_wayTo cX2_wayTo 3 (some .int) 2 := ⟨aw_35, aw_36, aw_37, aw_38, aw_39, rfl, by decide +kernel, by decide +kernel, by decide +kernel⟩
theorem aw_41 : Cond.static yX3_isMove ∈ AW := aw_of (List.mem_of_getElem? (i := 426) (by decide +kernel)) (by decide +kernel)
theorem aw_42 : Cond.initialized RX3 ∈ AW := aw_of (List.mem_of_getElem? (i := 44) (by decide +kernel)) (by decide +kernel)
set_option maxRecDepth 100000 in
theorem aw_43 : Cond.code yX3_isMove cX3_isMove 1 (some .boolean) ∈ AW := aw_of (List.mem_of_getElem? (i := 427) rfl) (by decide +kernel)
theorem aw_44 : Cond.fieldLink RX0 24 "Stepscript$Dancer" "columns" "LStepscript$Track;" ∈ AW := aw_of (List.mem_of_getElem? (i := 335) (by decide +kernel)) (by decide +kernel)
theorem aw_45 : Cond.fieldLink RX0 28 "Stepscript$Dancer" "rows" "LStepscript$Track;" ∈ AW := aw_of (List.mem_of_getElem? (i := 337) (by decide +kernel)) (by decide +kernel)
theorem aw_46 : Cond.fieldLink RX0 31 "Stepscript$Track" "moves" "[I" ∈ AW := aw_of (List.mem_of_getElem? (i := 324) (by decide +kernel)) (by decide +kernel)
theorem aw_47 : Cond.fieldLink RX0 35 "Stepscript$Track" "places" "[I" ∈ AW := aw_of (List.mem_of_getElem? (i := 326) (by decide +kernel)) (by decide +kernel)
theorem aw_48 : Cond.static yX3_isOnStage ∈ AW := aw_of (List.mem_of_getElem? (i := 159) (by decide +kernel)) (by decide +kernel)
set_option maxRecDepth 100000 in
theorem aw_49 : Cond.code yX3_isOnStage cX3_isOnStage 1 (some .boolean) ∈ AW := aw_of (List.mem_of_getElem? (i := 160) rfl) (by decide +kernel)
theorem aw_50 : Cond.methodLink RX0 42 yX2_wayTo ∈ AW := aw_of (List.mem_of_getElem? (i := 165) (by decide +kernel)) (by decide +kernel)
theorem cw_RX0_42 : e_cwV RX0 42 RX2 yX2_wayTo cX2_wayTo 3 (some .int) 2 := ⟨aw_50, aw_36, aw_37, aw_38, aw_39, rfl, by decide +kernel, by decide +kernel, by decide +kernel⟩
theorem aw_52 : Cond.methodLink RX0 46 yX0_isWith ∈ AW := aw_of (List.mem_of_getElem? (i := 559) (by decide +kernel)) (by decide +kernel)
theorem aw_53 : Cond.instanceMethod yX0_isWith ∈ AW := aw_of (List.mem_of_getElem? (i := 162) (by decide +kernel)) (by decide +kernel)
theorem aw_54 : Cond.selects RX0 yX0_isWith yX0_isWith ∈ AW := aw_of (List.mem_of_getElem? (i := 163) (by decide +kernel)) (by decide +kernel)
theorem aw_55 : Cond.initialized RX0 ∈ AW := aw_of (List.mem_of_getElem? (i := 59) (by decide +kernel)) (by decide +kernel)
set_option maxRecDepth 100000 in
theorem aw_56 : Cond.code yX0_isWith cX0_isWith 3 (some .boolean) ∈ AW := aw_of (List.mem_of_getElem? (i := 164) rfl) (by decide +kernel)
theorem cw_RX0_46 : e_cwV RX0 46 RX0 yX0_isWith cX0_isWith 3 (some .boolean) 2 := ⟨aw_52, aw_53, aw_54, aw_55, aw_56, rfl, by decide +kernel, by decide +kernel, by decide +kernel⟩
theorem aw_58 : Cond.methodLink RX0 50 yJ9_abs_0f7a4 ∈ AW := aw_of (List.mem_of_getElem? (i := 560) (by decide +kernel)) (by decide +kernel)
theorem aw_59 : Cond.methodLink RX0 59 yX2_placeAheadOf ∈ AW := aw_of (List.mem_of_getElem? (i := 177) (by decide +kernel)) (by decide +kernel)
theorem aw_60 : Cond.instanceMethod yX2_placeAheadOf ∈ AW := aw_of (List.mem_of_getElem? (i := 178) (by decide +kernel)) (by decide +kernel)
theorem aw_61 : Cond.selects RX2 yX2_placeAheadOf yX2_placeAheadOf ∈ AW := aw_of (List.mem_of_getElem? (i := 179) (by decide +kernel)) (by decide +kernel)
set_option maxRecDepth 100000 in
theorem aw_62 : Cond.code yX2_placeAheadOf cX2_placeAheadOf 2 (some .int) ∈ AW := aw_of (List.mem_of_getElem? (i := 180) rfl) (by decide +kernel)
theorem cw_RX0_59 : e_cwV RX0 59 RX2 yX2_placeAheadOf cX2_placeAheadOf 2 (some .int) 1 := ⟨aw_59, aw_60, aw_61, aw_38, aw_62, rfl, by decide +kernel, by decide +kernel, by decide +kernel⟩
theorem aw_64 : Cond.methodLink RX0 56 yX0_takesPlaceOf ∈ AW := aw_of (List.mem_of_getElem? (i := 173) (by decide +kernel)) (by decide +kernel)
theorem aw_65 : Cond.instanceMethod yX0_takesPlaceOf ∈ AW := aw_of (List.mem_of_getElem? (i := 174) (by decide +kernel)) (by decide +kernel)
theorem aw_66 : Cond.selects RX0 yX0_takesPlaceOf yX0_takesPlaceOf ∈ AW := aw_of (List.mem_of_getElem? (i := 175) (by decide +kernel)) (by decide +kernel)
set_option maxRecDepth 100000 in
theorem aw_67 : Cond.code yX0_takesPlaceOf cX0_takesPlaceOf 3 (some .boolean) ∈ AW := aw_of (List.mem_of_getElem? (i := 176) rfl) (by decide +kernel)
theorem cw_RX0_56 : e_cwV RX0 56 RX0 yX0_takesPlaceOf cX0_takesPlaceOf 3 (some .boolean) 2 := ⟨aw_64, aw_65, aw_66, aw_55, aw_67, rfl, by decide +kernel, by decide +kernel, by decide +kernel⟩
theorem aw_69 : Cond.methodLink RX0 62 yX2_canVisit ∈ AW := aw_of (List.mem_of_getElem? (i := 690) (by decide +kernel)) (by decide +kernel)
theorem aw_70 : Cond.instanceMethod yX2_canVisit ∈ AW := aw_of (List.mem_of_getElem? (i := 691) (by decide +kernel)) (by decide +kernel)
theorem aw_71 : Cond.selects RX2 yX2_canVisit yX2_canVisit ∈ AW := aw_of (List.mem_of_getElem? (i := 692) (by decide +kernel)) (by decide +kernel)
set_option maxRecDepth 100000 in
theorem aw_72 : Cond.code yX2_canVisit cX2_canVisit 4 (some .boolean) ∈ AW := aw_of (List.mem_of_getElem? (i := 693) rfl) (by decide +kernel)
theorem cw_RX0_62 : e_cwV RX0 62 RX2 yX2_canVisit cX2_canVisit 4 (some .boolean) 2 := ⟨aw_69, aw_70, aw_71, aw_38, aw_72, rfl, by decide +kernel, by decide +kernel, by decide +kernel⟩
theorem aw_74 : Cond.fieldLink RX3 10 "Stepscript" "dancers" "Ljava/util/ArrayList;" ∈ AW := aw_of (List.mem_of_getElem? (i := 110) (by decide +kernel)) (by decide +kernel)
theorem aw_75 : Cond.methodLink RX3 85 yJx4a65c_get_915e3 ∈ AW := aw_of (List.mem_of_getElem? (i := 139) (by decide +kernel)) (by decide +kernel)
theorem aw_76 : Cond.instanceMethod yJx4a65c_get_915e3 ∈ AW := aw_of (List.mem_of_getElem? (i := 140) (by decide +kernel)) (by decide +kernel)
theorem aw_77 : Cond.selects RJx4a65c yJx4a65c_get_915e3 yJx4a65c_get_915e3 ∈ AW := aw_of (List.mem_of_getElem? (i := 141) (by decide +kernel)) (by decide +kernel)
set_option maxRecDepth 100000 in
theorem aw_78 : Cond.code yJx4a65c_get_915e3 cJx4a65c_get_915e3 2 (some (.object "java/lang/Object")) ∈ AW := aw_of (List.mem_of_getElem? (i := 142) rfl) (by decide +kernel)
theorem cw_RX3_85 : e_cwV RX3 85 RJx4a65c yJx4a65c_get_915e3 cJx4a65c_get_915e3 2 (some (.object "java/lang/Object")) 1 := ⟨aw_75, aw_76, aw_77, aw_15, aw_78, rfl, by decide +kernel, by decide +kernel, by decide +kernel⟩
theorem aw_80 : Cond.classLink RX3 61 RX0 ∈ AW := aw_of (List.mem_of_getElem? (i := 153) (by decide +kernel)) (by decide +kernel)
theorem aw_81 : Cond.fieldLink RX3 89 "Stepscript$Dancer" "out" "Z" ∈ AW := aw_of (List.mem_of_getElem? (i := 342) (by decide +kernel)) (by decide +kernel)
theorem aw_82 : Cond.methodLink RX3 46 yJx4a65c_size_8abf5 ∈ AW := aw_of (List.mem_of_getElem? (i := 135) (by decide +kernel)) (by decide +kernel)
theorem aw_83 : Cond.instanceMethod yJx4a65c_size_8abf5 ∈ AW := aw_of (List.mem_of_getElem? (i := 136) (by decide +kernel)) (by decide +kernel)
theorem aw_84 : Cond.selects RJx4a65c yJx4a65c_size_8abf5 yJx4a65c_size_8abf5 ∈ AW := aw_of (List.mem_of_getElem? (i := 137) (by decide +kernel)) (by decide +kernel)
set_option maxRecDepth 100000 in
theorem aw_85 : Cond.code yJx4a65c_size_8abf5 cJx4a65c_size_8abf5 1 (some .int) ∈ AW := aw_of (List.mem_of_getElem? (i := 138) rfl) (by decide +kernel)
theorem cw_RX3_46 : e_cwV RX3 46 RJx4a65c yJx4a65c_size_8abf5 cJx4a65c_size_8abf5 1 (some .int) 0 := ⟨aw_82, aw_83, aw_84, aw_15, aw_85, rfl, by decide +kernel, by decide +kernel, by decide +kernel⟩
theorem aw_87 : Cond.fieldLink RX3 95 "Stepscript$Dancer" "columns" "LStepscript$Track;" ∈ AW := aw_of (List.mem_of_getElem? (i := 336) (by decide +kernel)) (by decide +kernel)
theorem aw_88 : Cond.fieldLink RX3 231 "Stepscript$Track" "first" "I" ∈ AW := aw_of (List.mem_of_getElem? (i := 322) (by decide +kernel)) (by decide +kernel)
theorem aw_89 : Cond.fieldLink RX3 104 "Stepscript$Dancer" "rows" "LStepscript$Track;" ∈ AW := aw_of (List.mem_of_getElem? (i := 338) (by decide +kernel)) (by decide +kernel)
theorem aw_90 : Cond.methodLink RX3 234 yX0_isOffStage ∈ AW := aw_of (List.mem_of_getElem? (i := 154) (by decide +kernel)) (by decide +kernel)
theorem aw_91 : Cond.instanceMethod yX0_isOffStage ∈ AW := aw_of (List.mem_of_getElem? (i := 155) (by decide +kernel)) (by decide +kernel)
theorem aw_92 : Cond.selects RX0 yX0_isOffStage yX0_isOffStage ∈ AW := aw_of (List.mem_of_getElem? (i := 156) (by decide +kernel)) (by decide +kernel)
set_option maxRecDepth 100000 in
theorem aw_93 : Cond.code yX0_isOffStage cX0_isOffStage 2 (some .boolean) ∈ AW := aw_of (List.mem_of_getElem? (i := 157) rfl) (by decide +kernel)
theorem cw_RX3_234 : e_cwV RX3 234 RX0 yX0_isOffStage cX0_isOffStage 2 (some .boolean) 1 := ⟨aw_90, aw_91, aw_92, aw_55, aw_93, rfl, by decide +kernel, by decide +kernel, by decide +kernel⟩
theorem aw_95 : Cond.methodLink RX3 237 yX0_isWith ∈ AW := aw_of (List.mem_of_getElem? (i := 161) (by decide +kernel)) (by decide +kernel)
theorem cw_RX3_237 : e_cwV RX3 237 RX0 yX0_isWith cX0_isWith 3 (some .boolean) 2 := ⟨aw_95, aw_53, aw_54, aw_55, aw_56, rfl, by decide +kernel, by decide +kernel, by decide +kernel⟩
theorem aw_97 : Cond.methodLink RX3 241 yX0_changesPlacesWith ∈ AW := aw_of (List.mem_of_getElem? (i := 169) (by decide +kernel)) (by decide +kernel)
theorem aw_98 : Cond.instanceMethod yX0_changesPlacesWith ∈ AW := aw_of (List.mem_of_getElem? (i := 170) (by decide +kernel)) (by decide +kernel)
theorem aw_99 : Cond.selects RX0 yX0_changesPlacesWith yX0_changesPlacesWith ∈ AW := aw_of (List.mem_of_getElem? (i := 171) (by decide +kernel)) (by decide +kernel)
set_option maxRecDepth 100000 in
theorem aw_100 : Cond.code yX0_changesPlacesWith cX0_changesPlacesWith 3 (some .boolean) ∈ AW := aw_of (List.mem_of_getElem? (i := 172) rfl) (by decide +kernel)
theorem cw_RX3_241 : e_cwV RX3 241 RX0 yX0_changesPlacesWith cX0_changesPlacesWith 3 (some .boolean) 2 := ⟨aw_97, aw_98, aw_99, aw_55, aw_100, rfl, by decide +kernel, by decide +kernel, by decide +kernel⟩
theorem aw_102 : Cond.fieldLink RX3 16 "Stepscript" "lifts" "Ljava/util/ArrayList;" ∈ AW := aw_of (List.mem_of_getElem? (i := 111) (by decide +kernel)) (by decide +kernel)
theorem aw_103 : Cond.classLink RX3 131 RX1 ∈ AW := aw_of (List.mem_of_getElem? (i := 495) (by decide +kernel)) (by decide +kernel)
theorem aw_104 : Cond.fieldLink RX3 213 "Stepscript$Lift" "gone" "Z" ∈ AW := aw_of (List.mem_of_getElem? (i := 510) (by decide +kernel)) (by decide +kernel)
theorem aw_105 : Cond.fieldLink RX3 140 "Stepscript$Lift" "count" "I" ∈ AW := aw_of (List.mem_of_getElem? (i := 502) (by decide +kernel)) (by decide +kernel)
theorem aw_106 : Cond.methodLink RX3 244 yX1_has ∈ AW := aw_of (List.mem_of_getElem? (i := 543) (by decide +kernel)) (by decide +kernel)
theorem aw_107 : Cond.instanceMethod yX1_has ∈ AW := aw_of (List.mem_of_getElem? (i := 544) (by decide +kernel)) (by decide +kernel)
theorem aw_108 : Cond.selects RX1 yX1_has yX1_has ∈ AW := aw_of (List.mem_of_getElem? (i := 545) (by decide +kernel)) (by decide +kernel)
set_option maxRecDepth 100000 in
theorem aw_109 : Cond.code yX1_has cX1_has 2 (some .boolean) ∈ AW := aw_of (List.mem_of_getElem? (i := 546) rfl) (by decide +kernel)
theorem cw_RX3_244 : e_cwV RX3 244 RX1 yX1_has cX1_has 2 (some .boolean) 1 := ⟨aw_106, aw_107, aw_108, aw_24, aw_109, rfl, by decide +kernel, by decide +kernel, by decide +kernel⟩
theorem aw_111 : Cond.methodLink RX3 126 yX3_isOut ∈ AW := aw_of (List.mem_of_getElem? (i := 490) (by decide +kernel)) (by decide +kernel)
theorem aw_112 : Cond.instanceMethod yX3_isOut ∈ AW := aw_of (List.mem_of_getElem? (i := 492) (by decide +kernel)) (by decide +kernel)
theorem aw_113 : Cond.selects RX3 yX3_isOut yX3_isOut ∈ AW := aw_of (List.mem_of_getElem? (i := 8) (by decide +kernel)) (by decide +kernel)
set_option maxRecDepth 100000 in
theorem aw_114 : Cond.code yX3_isOut cX3_isOut 2 (some .boolean) ∈ AW := aw_of (List.mem_of_getElem? (i := 493) rfl) (by decide +kernel)
theorem cw_RX3_126 : e_cwV RX3 126 RX3 yX3_isOut cX3_isOut 2 (some .boolean) 1 := ⟨aw_111, aw_112, aw_113, aw_42, aw_114, rfl, by decide +kernel, by decide +kernel, by decide +kernel⟩
theorem aw_116 : Cond.methodLink RX3 254 yX3_liftsWith ∈ AW := aw_of (List.mem_of_getElem? (i := 539) (by decide +kernel)) (by decide +kernel)
theorem aw_117 : Cond.instanceMethod yX3_liftsWith ∈ AW := aw_of (List.mem_of_getElem? (i := 541) (by decide +kernel)) (by decide +kernel)
theorem aw_118 : Cond.selects RX3 yX3_liftsWith yX3_liftsWith ∈ AW := aw_of (List.mem_of_getElem? (i := 11) (by decide +kernel)) (by decide +kernel)
set_option maxRecDepth 100000 in
theorem aw_119 : Cond.code yX3_liftsWith cX3_liftsWith 7 (some .int) ∈ AW := aw_of (List.mem_of_getElem? (i := 542) rfl) (by decide +kernel)
theorem cw_RX3_254 : e_cwV RX3 254 RX3 yX3_liftsWith cX3_liftsWith 7 (some .int) 3 := ⟨aw_116, aw_117, aw_118, aw_42, aw_119, rfl, by decide +kernel, by decide +kernel, by decide +kernel⟩
theorem aw_121 : Cond.fieldLink RX3 143 "Stepscript$Lift" "lifted" "I" ∈ AW := aw_of (List.mem_of_getElem? (i := 504) (by decide +kernel)) (by decide +kernel)
theorem aw_122 : Cond.methodLink RX3 258 yX0_isBeside ∈ AW := aw_of (List.mem_of_getElem? (i := 555) (by decide +kernel)) (by decide +kernel)
theorem aw_123 : Cond.instanceMethod yX0_isBeside ∈ AW := aw_of (List.mem_of_getElem? (i := 556) (by decide +kernel)) (by decide +kernel)
theorem aw_124 : Cond.selects RX0 yX0_isBeside yX0_isBeside ∈ AW := aw_of (List.mem_of_getElem? (i := 557) (by decide +kernel)) (by decide +kernel)
set_option maxRecDepth 100000 in
theorem aw_125 : Cond.code yX0_isBeside cX0_isBeside 3 (some .boolean) ∈ AW := aw_of (List.mem_of_getElem? (i := 558) rfl) (by decide +kernel)
theorem cw_RX3_258 : e_cwV RX3 258 RX0 yX0_isBeside cX0_isBeside 3 (some .boolean) 2 := ⟨aw_122, aw_123, aw_124, aw_55, aw_125, rfl, by decide +kernel, by decide +kernel, by decide +kernel⟩
theorem aw_127 : Cond.methodLink RX3 247 yX3_isFreeFor ∈ AW := aw_of (List.mem_of_getElem? (i := 535) (by decide +kernel)) (by decide +kernel)
theorem aw_128 : Cond.instanceMethod yX3_isFreeFor ∈ AW := aw_of (List.mem_of_getElem? (i := 537) (by decide +kernel)) (by decide +kernel)
theorem aw_129 : Cond.selects RX3 yX3_isFreeFor yX3_isFreeFor ∈ AW := aw_of (List.mem_of_getElem? (i := 10) (by decide +kernel)) (by decide +kernel)
set_option maxRecDepth 100000 in
theorem aw_130 : Cond.code yX3_isFreeFor cX3_isFreeFor 3 (some .boolean) ∈ AW := aw_of (List.mem_of_getElem? (i := 538) rfl) (by decide +kernel)
theorem cw_RX3_247 : e_cwV RX3 247 RX3 yX3_isFreeFor cX3_isFreeFor 3 (some .boolean) 2 := ⟨aw_127, aw_128, aw_129, aw_42, aw_130, rfl, by decide +kernel, by decide +kernel, by decide +kernel⟩
theorem aw_132 : Cond.fieldLink RX3 146 "Stepscript$Lift" "one" "I" ∈ AW := aw_of (List.mem_of_getElem? (i := 506) (by decide +kernel)) (by decide +kernel)
theorem aw_133 : Cond.fieldLink RX3 149 "Stepscript$Lift" "other" "I" ∈ AW := aw_of (List.mem_of_getElem? (i := 508) (by decide +kernel)) (by decide +kernel)
theorem aw_134 : Cond.methodLink RX3 251 yX3_isBesideLifted ∈ AW := aw_of (List.mem_of_getElem? (i := 551) (by decide +kernel)) (by decide +kernel)
theorem aw_135 : Cond.instanceMethod yX3_isBesideLifted ∈ AW := aw_of (List.mem_of_getElem? (i := 553) (by decide +kernel)) (by decide +kernel)
theorem aw_136 : Cond.selects RX3 yX3_isBesideLifted yX3_isBesideLifted ∈ AW := aw_of (List.mem_of_getElem? (i := 12) (by decide +kernel)) (by decide +kernel)
set_option maxRecDepth 100000 in
theorem aw_137 : Cond.code yX3_isBesideLifted cX3_isBesideLifted 3 (some .boolean) ∈ AW := aw_of (List.mem_of_getElem? (i := 554) rfl) (by decide +kernel)
theorem cw_RX3_251 : e_cwV RX3 251 RX3 yX3_isBesideLifted cX3_isBesideLifted 3 (some .boolean) 2 := ⟨aw_134, aw_135, aw_136, aw_42, aw_137, rfl, by decide +kernel, by decide +kernel, by decide +kernel⟩
theorem aw_139 : Cond.fieldLink RX3 19 "Stepscript" "told" "[I" ∈ AW := aw_of (List.mem_of_getElem? (i := 112) (by decide +kernel)) (by decide +kernel)
theorem aw_140 : Cond.methodLink RX3 270 yX2_wayIn ∈ AW := aw_of (List.mem_of_getElem? (i := 630) (by decide +kernel)) (by decide +kernel)
theorem aw_141 : Cond.instanceMethod yX2_wayIn ∈ AW := aw_of (List.mem_of_getElem? (i := 631) (by decide +kernel)) (by decide +kernel)
theorem aw_142 : Cond.selects RX2 yX2_wayIn yX2_wayIn ∈ AW := aw_of (List.mem_of_getElem? (i := 632) (by decide +kernel)) (by decide +kernel)
set_option maxRecDepth 100000 in
theorem aw_143 : Cond.code yX2_wayIn cX2_wayIn 5 (some .int) ∈ AW := aw_of (List.mem_of_getElem? (i := 633) rfl) (by decide +kernel)
theorem cw_RX3_270 : e_cwV RX3 270 RX2 yX2_wayIn cX2_wayIn 5 (some .int) 2 := ⟨aw_140, aw_141, aw_142, aw_38, aw_143, rfl, by decide +kernel, by decide +kernel, by decide +kernel⟩
theorem aw_145 : Cond.methodLink RX3 267 yX3_pointsFor ∈ AW := aw_of (List.mem_of_getElem? (i := 626) (by decide +kernel)) (by decide +kernel)
theorem aw_146 : Cond.instanceMethod yX3_pointsFor ∈ AW := aw_of (List.mem_of_getElem? (i := 628) (by decide +kernel)) (by decide +kernel)
theorem aw_147 : Cond.selects RX3 yX3_pointsFor yX3_pointsFor ∈ AW := aw_of (List.mem_of_getElem? (i := 16) (by decide +kernel)) (by decide +kernel)
set_option maxRecDepth 100000 in
theorem aw_148 : Cond.code yX3_pointsFor cX3_pointsFor 5 (some .int) ∈ AW := aw_of (List.mem_of_getElem? (i := 629) rfl) (by decide +kernel)
theorem cw_RX3_267 : e_cwV RX3 267 RX3 yX3_pointsFor cX3_pointsFor 5 (some .int) 3 := ⟨aw_145, aw_146, aw_147, aw_42, aw_148, rfl, by decide +kernel, by decide +kernel, by decide +kernel⟩
theorem aw_150 : Cond.fieldLink RX3 25 "Stepscript" "plans" "[[I" ∈ AW := aw_of (List.mem_of_getElem? (i := 113) (by decide +kernel)) (by decide +kernel)
theorem aw_151 : Cond.methodLink RX3 273 yX3_takesPart ∈ AW := aw_of (List.mem_of_getElem? (i := 644) (by decide +kernel)) (by decide +kernel)
theorem aw_152 : Cond.static yX3_takesPart ∈ AW := aw_of (List.mem_of_getElem? (i := 645) (by decide +kernel)) (by decide +kernel)
set_option maxRecDepth 100000 in
theorem aw_153 : Cond.code yX3_takesPart cX3_takesPart 2 (some .boolean) ∈ AW := aw_of (List.mem_of_getElem? (i := 646) rfl) (by decide +kernel)
theorem cw_RX3_273 : e_cwS RX3 273 yX3_takesPart cX3_takesPart 2 (some .boolean) 2 := ⟨aw_151, aw_152, aw_42, aw_153, by decide +kernel, by decide +kernel, by decide +kernel⟩
theorem aw_155 : Cond.fieldLink RX3 202 "Stepscript$Dancer" "points" "I" ∈ AW := aw_of (List.mem_of_getElem? (i := 340) (by decide +kernel)) (by decide +kernel)
theorem aw_156 : Cond.methodLink RX3 287 yX0_canVisit ∈ AW := aw_of (List.mem_of_getElem? (i := 686) (by decide +kernel)) (by decide +kernel)
theorem aw_157 : Cond.instanceMethod yX0_canVisit ∈ AW := aw_of (List.mem_of_getElem? (i := 687) (by decide +kernel)) (by decide +kernel)
theorem aw_158 : Cond.selects RX0 yX0_canVisit yX0_canVisit ∈ AW := aw_of (List.mem_of_getElem? (i := 688) (by decide +kernel)) (by decide +kernel)
set_option maxRecDepth 100000 in
theorem aw_159 : Cond.code yX0_canVisit cX0_canVisit 3 (some .boolean) ∈ AW := aw_of (List.mem_of_getElem? (i := 689) rfl) (by decide +kernel)
theorem cw_RX3_287 : e_cwV RX3 287 RX0 yX0_canVisit cX0_canVisit 3 (some .boolean) 2 := ⟨aw_156, aw_157, aw_158, aw_55, aw_159, rfl, by decide +kernel, by decide +kernel, by decide +kernel⟩

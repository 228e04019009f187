/-! THE REFERENCE, as functions of its numbers v: 101 first, 102 second, 103 out, 104 knees, 105 mx, 106 my, 107 lc, 108 ll, 109 la, 110 lb, 111 lg, 112 told, 113 taken; v 100 4 dancers, 12 lifts, 15 day, 16 thrown -/
def mkd : Nat → Nat
  | 100 => 12 | 101 => 28 | 102 => 28 | 103 => 28 | 104 => 28 | 105 => 532 | 106 => 532 | 107 => 32 | 108 => 32 | 109 => 32 | 110 => 32 | 111 => 32 | 112 => 84 | 113 => 59 | _ => 0
def mK (kd : Nat → Nat) : Prop := ∀ n, 100 ≤ n → n < 114 → kd n = mkd n
def mI (dn ln : Nat) (v : eV) : Prop := v 100 4 = nI dn ∧ v 100 12 = nI ln ∧ dn ≤ 8 ∧ ln ≤ 12 ∧ (∀ i, i < ln → ∃ c, c < 64 ∧ v 107 i = nI c) ∧ (∀ i, i < ln → ∃ d, d < dn ∧ v 108 i = nI d) ∧ (∀ i, i < ln → ∃ d, d < dn ∧ v 109 i = nI d) ∧ (∀ i, i < ln → ∃ d, d < dn ∧ v 110 i = nI d)
def sumN (f : Nat → Int32) : Nat → Int32
  | 0 => 0
  | n + 1 => sumN f n + f n
def anyN (f : Nat → Bool) : Nat → Bool
  | 0 => false
  | n + 1 => anyN f n || f n
theorem bI_or (a b : Bool) : bI a ||| bI b = bI (a || b) := by cases a <;> cases b <;> decide
def mIn (x lo hi : Int32) : Bool := !decide (x < lo) && !decide (hi < x)
def mX (v : eV) (d n : Nat) : Int32 := v 101 d + sumN (fun j => v 105 (64 * d + j)) n
def mY (v : eV) (d n : Nat) : Int32 := v 102 d + sumN (fun j => v 106 (64 * d + j)) n
def mAt (v : eV) (d n e k : Nat) : Bool := decide (mX v d n = mX v e k) && decide (mY v d n = mY v e k)
def mOf (v : eV) (l : Nat) (d : Int32) : Bool := decide (v 108 l = d) || decide (v 109 l = d) || decide (v 110 l = d)
def mLiftsOf (v : eV) (d c : Int32) (n : Nat) : Int32 := sumN (fun i => bI (decide (v 111 i = 0) && decide (v 107 i = c) && mOf v i d)) n
def mBeside (v : eV) (d e c : Nat) : Bool := !mAt v d (c + 1) e (c + 1) && mIn (mX v d (c + 1) - mX v e (c + 1)) (-1) 1 && mIn (mY v d (c + 1) - mY v e (c + 1)) (-1) 1
def mLast (v : eV) : Nat → Int32
  | 0 => 500
  | n + 1 => if 0 < v 112 n then v 112 n else mLast v n
def mFlat (x : Int32) : Int32 := if x < 0 then -x else x
def mCost (v : eV) (ln d a n : Nat) : Int32 := sumN (fun i => mFlat (v 105 (64 * d + (a + i))) + mFlat (v 106 (64 * d + (a + i))) + 5 * mLiftsOf v (nI d) (nI (a + i)) ln) n
def mBusy (v : eV) (d h n : Nat) : Bool := anyN (fun r => !decide (v 113 (13 * r + h - 8) < 0) && decide ((v 113 (13 * r + h - 8) >>> (nI d &&& 31)) &&& 1 = 1)) n
theorem e_pred {a : Nat} (h : a < 2 ^ 30) : (nI a - 1).toInt = (a : Int) - 1 := by
  have h1 := pk_sub_toInt (a := a) (b := 1) h (by decide)
  exact h1
theorem e_pred_lt {a b : Nat} (ha : a < 2 ^ 30) (hb : b < 2 ^ 30) : nI a - 1 < nI b ↔ a ≤ b := by
  rw [Int32.lt_iff_toInt_lt, e_pred ha, nI_toInt (by omega)]
  omega
theorem e_xc {a n i : Nat} {c : Int32} (hc : c + 1 = nI n) (ha : a < 1000) (hn : n < 1000) (hi : i < 1000) : nI a + c < nI (a + i) ↔ n ≤ i := by
  have e : nI a + c = nI (a + n) - 1 := by
    rw [← nI_add a n, ← hc, Int32.sub_eq_add_neg]
    simp only [Int32.add_assoc]
    rw [show (1 : Int32) + -1 = 0 by decide, Int32.add_zero]
  rw [e, e_pred_lt (by omega) (by omega)]
  omega
theorem e_sub1 {n : Nat} : (nI n - 1) + 1 = nI n := by rw [Int32.sub_add_cancel]
def mStands (v : eV) (i c0 dl da db ln : Nat) : Bool := (mBeside v da dl c0 && mBeside v db dl c0) && (decide (mLiftsOf v (nI dl) (nI c0) ln = 1) && decide (mLiftsOf v (nI da) (nI c0) ln = 1) && decide (mLiftsOf v (nI db) (nI c0) ln = 1)) && decide (v 103 dl + v 103 da + v 103 db = 0)
def mOffI (v : eV) (d c : Nat) : Int32 := if (mIn (mX v d (c + 1)) 0 7 && mIn (mY v d (c + 1)) 0 7) = true then 0 else 1
def mPair (v : eV) (d e c : Nat) : Bool := mAt v d (c + 1) e (c + 1) || (mAt v d (c + 1) e c && mAt v e (c + 1) d c)
def mPairs (v : eV) (c d : Nat) (n : Nat) : Int32 := sumN (fun j => bI (mPair v d j c)) n
def mClash (v : eV) (c : Nat) : Nat → Int32
  | 0 => 0
  | n + 1 => mClash v c n + mOffI v n c + mPairs v c n n
def mWX (v : eV) (d h c : Nat) : Int32 := mX v h (c + 1) - mX v d (c + 1)
def mWY (v : eV) (d h c : Nat) : Int32 := mY v h (c + 1) - mY v d (c + 1)
def mCanCome (v : eV) (d h c : Nat) : Bool := !decide (c = 63) && mIn (mWX v d h c) (-2) 2 && mIn (mWY v d h c) (-2) 2 && mIn (v 105 (64 * d + c) + mWX v d h c) (-2) 2 && mIn (v 106 (64 * d + c) + mWY v d h c) (-2) 2 && mIn (v 105 (64 * d + c + 1) - mWX v d h c) (-2) 2 && mIn (v 106 (64 * d + c + 1) - mWY v d h c) (-2) 2
/-! the reference's writers -/
def nN (x : Int32) : Nat := x.toNatClampNeg
theorem nN_of {x : Int32} {n : Nat} (h : x = nI n) (hn : n < 2 ^ 31) : nN x = n := by subst h; exact nI_clamp hn
def mT (v : eV) (w : Int32) : eV := e_set v 100 16 w
def mOkC (c : Int32) : Bool := mIn c 0 63
def mOkD (dn : Nat) (d : Int32) : Bool := mIn d 0 (nI dn - 1)
theorem mIn_rng {x : Int32} {lo hi : Nat} (hlo : lo < 2 ^ 30) (hhi : hi < 2 ^ 30) (h : mIn x (nI lo) (nI hi - 1) = true) : ∃ j, lo ≤ j ∧ j < hi ∧ x = nI j := by
  unfold mIn at h
  simp only [Bool.and_eq_true, Bool.not_eq_true', decide_eq_false_iff_not] at h
  obtain ⟨h1, h2⟩ := h
  rw [Int32.lt_iff_toInt_lt, nI_toInt (by omega)] at h1
  rw [Int32.lt_iff_toInt_lt, e_pred (by omega)] at h2
  have h0 : ¬ x < 0 := by
    rw [Int32.lt_iff_toInt_lt]
    show ¬ x.toInt < 0
    omega
  obtain ⟨j, hj, e⟩ := nI_of h0
  subst e
  rw [nI_toInt hj] at h1 h2
  exact ⟨j, by omega, by omega, rfl⟩
theorem e_okD {dn : Nat} {d : Int32} (h8 : dn ≤ 8) (h : mOkD dn d = true) : ∃ j, j < dn ∧ d = nI j := by
  obtain ⟨j, -, h2, h3⟩ := mIn_rng (lo := 0) (hi := dn) (by decide) (by omega) h
  exact ⟨j, h2, h3⟩
theorem e_okR {x : Int32} {lo hi : Nat} (hlo : lo < 2 ^ 30) (hhi : hi < 2 ^ 29) {a b : Int32} (ha : a = nI lo) (hb : b = nI (hi + 1) - 1) (h : mIn x a b = true) : ∃ j, lo ≤ j ∧ j ≤ hi ∧ x = nI j := by
  subst ha; subst hb
  obtain ⟨j, h1, h2, h3⟩ := mIn_rng hlo (by omega) h
  exact ⟨j, h1, by omega, h3⟩
theorem e_okC {c : Int32} (h : mOkC c = true) : ∃ j, j < 64 ∧ c = nI j := by
  obtain ⟨j, h1, h2, h3⟩ := e_okR (lo := 0) (hi := 63) (by decide) (by decide) rfl (by decide) h
  exact ⟨j, by omega, h3⟩
def mFrees (v : eV) : Nat → eV
  | 0 => v
  | n + 1 => e_set (mFrees v n) 113 n (-1)
def mPlaceC (dn : Nat) (d c : Int32) : Int32 := if (mOkD dn d && mOkC c) = true then 0 else 1
theorem mPlaceC_ok {dn : Nat} {d c : Int32} (h : ¬ 0 < mPlaceC dn d c) : mOkD dn d = true ∧ mOkC c = true := by
  unfold mPlaceC at h
  split at h
  · rename_i g
    exact Bool.and_eq_true_iff.mp g
  · exact absurd (by decide) h
def mPlaceV (v : eV) (dn : Nat) (d c b : Int32) : Int32 := if 0 < mPlaceC dn d c then -1 else if b = 0 then mX v (nN d) (nN c + 1) else mY v (nN d) (nN c + 1)
theorem mX_T (v : eV) (w : Int32) (d n : Nat) : mX (mT v w) d n = mX v d n := rfl
theorem mY_T (v : eV) (w : Int32) (d n : Nat) : mY (mT v w) d n = mY v d n := rfl
theorem mClash_T (v : eV) (w : Int32) (c : Nat) : ∀ n, mClash (mT v w) c n = mClash v c n
  | 0 => rfl
  | n + 1 => by
    show mClash (mT v w) c n + _ + _ = mClash v c n + _ + _
    rw [mClash_T v w c n]
    rfl
theorem mLast_T (v : eV) (w : Int32) : ∀ n, mLast (mT v w) n = mLast v n
  | 0 => rfl
  | n + 1 => by
    show ite _ _ (mLast (mT v w) n) = ite _ _ (mLast v n)
    rw [mLast_T v w n]
    rfl
theorem mT_113 (v : eV) (w : Int32) (j : Nat) : mT v w 113 j = v 113 j := rfl
theorem mT_107 (v : eV) (w : Int32) (j : Nat) : mT v w 107 j = v 107 j := rfl
theorem mT_108 (v : eV) (w : Int32) (j : Nat) : mT v w 108 j = v 108 j := rfl
theorem mT_109 (v : eV) (w : Int32) (j : Nat) : mT v w 109 j = v 109 j := rfl
theorem mT_110 (v : eV) (w : Int32) (j : Nat) : mT v w 110 j = v 110 j := rfl
theorem mT_111 (v : eV) (w : Int32) (j : Nat) : mT v w 111 j = v 111 j := rfl
theorem mT_104 (v : eV) (w : Int32) (j : Nat) : mT v w 104 j = v 104 j := rfl
theorem mStands_T (v : eV) (w : Int32) (i c0 dl da db ln : Nat) : mStands (mT v w) i c0 dl da db ln = mStands v i c0 dl da db ln := rfl
def mClashesC (c : Int32) : Int32 := if mOkC c = true then 0 else 1
theorem mClashesC_ok {c : Int32} (h : ¬ 0 < mClashesC c) : mOkC c = true := by
  unfold mClashesC at h
  split at h
  · assumption
  · exact absurd (by decide) h
def mClashesV (v : eV) (dn : Nat) (c : Int32) : Int32 := if 0 < mClashesC c then -1 else mClash v (nN c) dn
def firstN (P : Nat → Bool) : Nat → Nat → Int32
  | 0, _ => -1
  | k + 1, i => if P i = true then nI i else firstN P k (i + 1)
theorem firstN_step {P : Nat → Bool} {n i : Nat} (h : i < n) : firstN P (n - i) i = if P i = true then nI i else firstN P (n - (i + 1)) (i + 1) := by
  rw [show n - i = (n - (i + 1)) + 1 by omega]
  rfl
theorem firstN_end {P : Nat → Bool} {n i : Nat} (h : n ≤ i) : firstN P (n - i) i = -1 := by
  rw [show n - i = 0 by omega]
  rfl
theorem firstN_get {P : Nat → Bool} : ∀ (k i : Nat), i + k < 2 ^ 31 → ¬ firstN P k i < 0 → ∃ w, i ≤ w ∧ w < i + k ∧ firstN P k i = nI w ∧ P w = true
  | 0, i, _, h => absurd (show firstN P 0 i < 0 by show (-1 : Int32) < 0; decide) h
  | k + 1, i, hb, h => by
    by_cases g : P i = true
    · exact ⟨i, Nat.le_refl _, by omega, by show ite _ _ _ = _; rw [if_pos g], g⟩
    · have e : firstN P (k + 1) i = firstN P k (i + 1) := by show ite _ _ _ = _; rw [if_neg g]
      rw [e] at h
      obtain ⟨w, h1, h2, h3, h4⟩ := firstN_get k (i + 1) (by omega) h
      exact ⟨w, by omega, by omega, by rw [e]; exact h3, h4⟩
def mFirst (v : eV) (dn : Nat) : Int32 := firstN (fun c => decide (0 < mClash v c dn)) 64 0
def mRehearsalC (r h : Int32) : Int32 := if (mIn r 0 2 && mIn h 8 20) = true then 0 else 1
theorem mRehearsalC_ok {r h : Int32} (g : ¬ 0 < mRehearsalC r h) : mIn r 0 2 = true ∧ mIn h 8 20 = true := by
  unfold mRehearsalC at g
  split at g
  · rename_i k
    exact Bool.and_eq_true_iff.mp k
  · exact absurd (by decide) g
def mRehearsalV (v : eV) (r h : Int32) : Int32 := if 0 < mRehearsalC r h then -1 else v 113 (13 * nN r + nN h - 8)
def mKneesC (dn : Nat) (d : Int32) : Int32 := if mOkD dn d = true then 0 else 1
theorem mKneesC_ok {dn : Nat} {d : Int32} (h : ¬ 0 < mKneesC dn d) : mOkD dn d = true := by
  unfold mKneesC at h
  split at h
  · assumption
  · exact absurd (by decide) h
def mKneesV (v : eV) (dn : Nat) (d : Int32) : Int32 := if 0 < mKneesC dn d then -1 else v 104 (nN d)
def mTempoC (c last : Int32) : Int32 := if mOkC c = true then (if mIn last 1 1000000000 = true then 0 else 2) else 1
theorem mTempoC_ok {c last : Int32} (h : ¬ 0 < mTempoC c last) : mOkC c = true := by
  unfold mTempoC at h
  split at h
  · assumption
  · exact absurd (by decide) h
def mTempoV (v : eV) (c last : Int32) : Int32 := if 0 < mTempoC c last then -1 else mLast v (nN c + 1)
def mTempoS (v : eV) (c last : Int32) : eV := if 0 < mTempoC c last then mT v (mTempoC c last) else e_set (mT v (mTempoC c last)) 112 (nN c) last
def mOfLiftC (ln : Nat) (l what : Int32) : Int32 := if mOkD ln l = true then (if mIn what 0 4 = true then 0 else 2) else 1
theorem mOfLiftC_ok {ln : Nat} {l what : Int32} (h : ¬ 0 < mOfLiftC ln l what) : mOkD ln l = true ∧ mIn what 0 4 = true := by
  unfold mOfLiftC at h
  split at h
  · split at h
    · exact ⟨by assumption, by assumption⟩
    · exact absurd (by decide) h
  · exact absurd (by decide) h
theorem e_okL {ln : Nat} {l : Int32} (h12 : ln ≤ 12) (h : mOkD ln l = true) : ∃ j, j < ln ∧ l = nI j := by
  obtain ⟨j, -, h2, h3⟩ := mIn_rng (lo := 0) (hi := ln) (by decide) (by omega) h
  exact ⟨j, h2, h3⟩
def mLiftState (v : eV) (ln l : Nat) : Int32 := if v 111 l = 1 then 2 else bI (mStands v l (nN (v 107 l)) (nN (v 108 l)) (nN (v 109 l)) (nN (v 110 l)) ln)
def mOfLiftV (v : eV) (ln : Nat) (l what : Int32) : Int32 := if 0 < mOfLiftC ln l what then -1 else if what = 0 then v 107 (nN l) else if what = 1 then v 108 (nN l) else if what = 2 then v 109 (nN l) else if what = 3 then v 110 (nN l) else mLiftState v ln (nN l)
def mSum (v : eV) : Nat → Int64
  | 0 => 0
  | n + 1 => mSum v n + (mLast v (n + 1)).toInt64
def mBeginsC (v : eV) (c : Int32) : Int32 := if mOkC c = true then (if 2147483647 < mSum v (nN c) then 2 else 0) else 1
theorem mBeginsC_ok {v : eV} {c : Int32} (h : ¬ 0 < mBeginsC v c) : mOkC c = true := by
  unfold mBeginsC at h
  split at h
  · assumption
  · exact absurd (by decide) h
def mBeginsV (v : eV) (c : Int32) : Int32 := if 0 < mBeginsC v c then -1 else (mSum v (nN c)).toInt32
def mSame (v : eV) (x y : Int32) (n : Nat) : Bool := anyN (fun i => decide (v 101 i = x) && decide (v 102 i = y)) n
def mDancerC (v : eV) (dn : Nat) (x y : Int32) : Int32 := if (mIn x 0 7 && mIn y 0 7) = true then (if (mSame v x y dn || decide (dn = 8)) = true then 2 else 0) else 1
theorem mDancerC_ok {v : eV} {dn : Nat} {x y : Int32} (h : ¬ 0 < mDancerC v dn x y) : ¬ dn = 8 := by
  intro e
  subst e
  unfold mDancerC at h
  simp only [decide_true, Bool.or_true] at h
  split at h <;> exact absurd (by decide) h
def mDancerS (v : eV) (dn : Nat) (x y : Int32) : eV := if 0 < mDancerC v dn x y then mT v (mDancerC v dn x y) else e_set (e_set (e_set (mT v (mDancerC v dn x y)) 101 dn x) 102 dn y) 100 4 (nI (dn + 1))
def mDancerV (v : eV) (dn : Nat) (x y : Int32) : Int32 := if 0 < mDancerC v dn x y then -1 else nI dn
def mMoveC (v : eV) (dn : Nat) (d c x y : Int32) : Int32 := if (mOkD dn d && mOkC c) = true then (if (mIn x (-2) 2 && mIn y (-2) 2) = true then (if v 103 (nN d) = 1 then 3 else 0) else 2) else 1
theorem mMoveC_ok {v : eV} {dn : Nat} {d c x y : Int32} (h : ¬ 0 < mMoveC v dn d c x y) : mOkD dn d = true ∧ mOkC c = true := by
  unfold mMoveC at h
  split at h
  · rename_i g
    exact Bool.and_eq_true_iff.mp g
  · exact absurd (by decide) h
def mMoved (v : eV) (d c : Nat) (x y : Int32) : eV := e_set (e_set v 105 (64 * d + c) x) 106 (64 * d + c) y
def mCount (v : eV) (d n : Nat) : Int32 := sumN (fun j => bI (!decide (v 105 (64 * d + j) = 0) || !decide (v 106 (64 * d + j) = 0))) n
def mMoveS (v : eV) (dn : Nat) (d c x y : Int32) : eV := if 0 < mMoveC v dn d c x y then mT v (mMoveC v dn d c x y) else mMoved (mT v (mMoveC v dn d c x y)) (nN d) (nN c) x y
def mMoveV (v : eV) (dn : Nat) (d c x y : Int32) : Int32 := if 0 < mMoveC v dn d c x y then -1 else mCount (mMoved (mT v (mMoveC v dn d c x y)) (nN d) (nN c) x y) (nN d) 64
def mLiftT (dn : Nat) (c d a b : Int32) : Bool := mOkC c && mOkD dn d && mOkD dn a && mOkD dn b
theorem mLiftT_ok {dn : Nat} {c d a b : Int32} (h : mLiftT dn c d a b = true) : mOkC c = true ∧ mOkD dn d = true ∧ mOkD dn a = true ∧ mOkD dn b = true := by
  unfold mLiftT at h
  simp only [Bool.and_eq_true] at h
  exact ⟨h.1.1.1, h.1.1.2, h.1.2, h.2⟩
def mLiftB (v : eV) (dn ln : Nat) (c d a b : Int32) : Bool := mLiftT dn c d a b && (decide (0 < v 103 (nN d) + v 103 (nN a) + v 103 (nN b)) || decide (ln = 12))
def mLiftC (v : eV) (dn ln : Nat) (c d a b : Int32) : Int32 := if mLiftT dn c d a b = true then (if (decide (d = a) || decide (d = b) || decide (a = b)) = true then 2 else if mLiftB v dn ln c d a b = true then 3 else 0) else 1
theorem mLiftC_ok {v : eV} {dn ln : Nat} {c d a b : Int32} (h : ¬ 0 < mLiftC v dn ln c d a b) : ¬ ln = 12 ∧ mLiftT dn c d a b = true := by
  unfold mLiftC at h
  split at h
  · rename_i g
    refine ⟨fun e => ?_, g⟩
    split at h
    · exact absurd (by decide) h
    · rw [if_pos (by unfold mLiftB; rw [g]; simp [e])] at h
      exact absurd (by decide) h
  · exact absurd (by decide) h
def mLiftS (v : eV) (dn ln : Nat) (c d a b : Int32) : eV := if 0 < mLiftC v dn ln c d a b then mT v (mLiftC v dn ln c d a b) else e_set (e_set (e_set (e_set (e_set (mT v (mLiftC v dn ln c d a b)) 107 ln c) 108 ln d) 109 ln a) 110 ln b) 100 12 (nI (ln + 1))
def mLiftV (v : eV) (dn ln : Nat) (c d a b : Int32) : Int32 := if 0 < mLiftC v dn ln c d a b then -1 else nI ln
def mRest (v : eV) : Nat → eV
  | 0 => v
  | n + 1 => e_set (mRest v n) 104 n (if mRest v n 104 n < 25 then 0 else mRest v n 104 n - 25)
def mSleepS (v : eV) : eV := mRest (mFrees (e_set (mT v 0) 100 15 (v 100 15 + 1)) 39) 8
theorem e_cmp_le {x y : Int64} : lg_cmp x y ≤ 0 ↔ ¬ y < x := by
  unfold lg_cmp
  simp only [gt_iff_lt]
  split
  · rename_i h
    exact ⟨fun g => absurd g (by decide), fun g => absurd h g⟩
  · rename_i h
    refine ⟨fun _ => h, fun _ => ?_⟩
    split <;> decide
theorem e_begx {v : eV} {i k : Nat} {c0 : Int32} {x2 : Int64} (ex : x2 = mSum v i) (hi : i ≤ 64) (hci : i = 0 ∨ nI (i - 1) < c0) (hx : ¬ nI i < c0 ∨ 64 ≤ i) (ec : c0 = nI k) (hk : k < 64) : x2 = mSum v k := by
  subst ec
  have h1 : i ≤ k := by
    rcases hci with h | h
    · omega
    · have := (nI_ltI (by omega) (by omega)).mp h
      omega
  have h2 : k ≤ i := by
    rcases hx with h | h
    · exact Nat.not_lt.mp (fun g => h ((nI_ltI (by omega) (by omega)).mpr g))
    · omega
  rw [ex, show i = k by omega]
theorem nl0 : nI 0 = 0 := rfl
theorem nl1 : nI 1 = 1 := rfl
theorem nl2 : nI 2 = 2 := rfl
theorem nl3 : nI 3 = 3 := rfl
theorem nl4 : nI 4 = 4 := rfl
/-! the reference: rehearse, hurt -/
def orN (f : Nat → Int32) : Nat → Int32
  | 0 => 0
  | n + 1 => orN f n ||| f n
def mCostO (v : eV) (ln i a b : Nat) : Int32 := if v 103 i = 1 then 0 else mCost v ln i a (b + 1 - a)
def mBit (x : Int32) (i : Nat) : Int32 := if 0 < x then (1 : Int32) <<< (nI i &&& 31) else 0
def mWho (v : eV) (ln a b n : Nat) : Int32 := orN (fun i => mBit (mCostO v ln i a b) i) n
def mBar1 (v : eV) (ln a b h i : Nat) : Bool := decide (0 < mCostO v ln i a b) && (mBusy v i h 3 || decide (60 < v 104 i + mCostO v ln i a b))
def mBars (v : eV) (ln a b h n : Nat) : Bool := anyN (mBar1 v ln a b h) n
def mRehT (r h a b : Int32) : Bool := mIn r 0 2 && mIn h 8 20 && mOkC a && mOkC b
def mRehR (r h a b : Int32) : Bool := mRehT r h a b && !decide (b < a)
def mRehK (v : eV) (r h a b : Int32) : Bool := mRehR r h a b && !decide (v 113 (13 * nN r + nN h - 8) < 0)
def mRehC0 (t g k : Bool) : Int32 := if t = true then (if g = true then (if k = true then 3 else 0) else 2) else 1
def mRehC (v : eV) (dn ln : Nat) (r h a b : Int32) : Int32 := mRehC0 (mRehT r h a b) (mRehR r h a b) (mRehK v r h a b || mBars v ln (nN a) (nN b) (nN h) dn)
theorem mRehC0_ok {t g k : Bool} (h : ¬ 0 < mRehC0 t g k) : t = true ∧ g = true ∧ k = false := by
  cases t <;> cases g <;> cases k <;> first | exact ⟨rfl, rfl, rfl⟩ | exact absurd (by decide) h
theorem mRehC0_r {t k : Bool} : 0 < mRehC0 t false k := by cases t <;> cases k <;> decide
theorem mRehT_ok {r h a b : Int32} (g : mRehT r h a b = true) : mIn r 0 2 = true ∧ mIn h 8 20 = true ∧ mOkC a = true ∧ mOkC b = true := by
  unfold mRehT at g
  simp only [Bool.and_eq_true] at g
  exact ⟨g.1.1.1, g.1.1.2, g.1.2, g.2⟩
theorem mRehR_ok {r h a b : Int32} (g : mRehR r h a b = true) : mRehT r h a b = true ∧ ¬ b < a := by
  unfold mRehR at g
  simp only [Bool.and_eq_true, Bool.not_eq_true', decide_eq_false_iff_not] at g
  exact g
def mCharge (v : eV) (ln : Nat) (who : Int32) (a b : Nat) : Nat → eV
  | 0 => v
  | n + 1 => e_set (mCharge v ln who a b n) 104 n (mCharge v ln who a b n 104 n + (if (who >>> (nI n &&& 31)) &&& 1 = 1 then mCost (mCharge v ln who a b n) ln n a (b + 1 - a) else 0))
theorem mCharge_mI {dn ln : Nat} {v : eV} {who : Int32} {a b : Nat} (h : mI dn ln v) : ∀ n, mI dn ln (mCharge v ln who a b n)
  | 0 => h
  | n + 1 => mCharge_mI h n
def mRehS (v : eV) (dn ln : Nat) (r h a b : Int32) : eV := if 0 < mRehC v dn ln r h a b then mT v (mRehC v dn ln r h a b) else e_set (mCharge (mT v (mRehC v dn ln r h a b)) ln (mWho v ln (nN a) (nN b) dn) (nN a) (nN b) dn) 113 (13 * nN r + nN h - 8) (mWho v ln (nN a) (nN b) dn)
def mRehV (v : eV) (dn ln : Nat) (r h a b : Int32) : Int32 := if 0 < mRehC v dn ln r h a b then -1 else mWho v ln (nN a) (nN b) dn
def mComes (v : eV) (d h c : Nat) : eV :=
  e_set (e_set (e_set (e_set v 105 (64 * d + c) (v 105 (64 * d + c) + mWX v d h c)) 106 (64 * d + c) (e_set v 105 (64 * d + c) (v 105 (64 * d + c) + mWX v d h c) 106 (64 * d + c) + mWY v d h c)) 105 (64 * d + c + 1) (e_set (e_set v 105 (64 * d + c) (v 105 (64 * d + c) + mWX v d h c)) 106 (64 * d + c) (e_set v 105 (64 * d + c) (v 105 (64 * d + c) + mWX v d h c) 106 (64 * d + c) + mWY v d h c) 105 (64 * d + c + 1) - mWX v d h c)) 106 (64 * d + c + 1) (e_set (e_set (e_set v 105 (64 * d + c) (v 105 (64 * d + c) + mWX v d h c)) 106 (64 * d + c) (e_set v 105 (64 * d + c) (v 105 (64 * d + c) + mWX v d h c) 106 (64 * d + c) + mWY v d h c)) 105 (64 * d + c + 1) (e_set (e_set v 105 (64 * d + c) (v 105 (64 * d + c) + mWX v d h c)) 106 (64 * d + c) (e_set v 105 (64 * d + c) (v 105 (64 * d + c) + mWX v d h c) 106 (64 * d + c) + mWY v d h c) 105 (64 * d + c + 1) - mWX v d h c) 106 (64 * d + c + 1) - mWY v d h c)
def mFree (v : eV) (d ln c : Nat) : Bool := decide (v 103 d = 0) && decide (mLiftsOf v (nI d) (nI c) ln = 0)
def mNear (v : eV) (ln c dl : Nat) (d : Nat) : Bool := mFree v d ln c && mBeside v d dl c
def mFar (v : eV) (ln c h : Nat) (d : Nat) : Bool := mFree v d ln c && mCanCome v d h c
def mPick (near far : Int32) : Int32 := if near < 0 then far else near
def mTake (v : eV) (l : Nat) (h who : Int32) : eV :=
  e_set (e_set v 109 l (if v 109 l = h then who else v 109 l)) 110 l (if e_set v 109 l (if v 109 l = h then who else v 109 l) 110 l = h then who else e_set v 109 l (if v 109 l = h then who else v 109 l) 110 l)
def mMendsS (v : eV) (dn ln l c dl h : Nat) : eV :=
  if firstN (mNear v ln c dl) dn 0 < 0 then
    (if firstN (mFar v ln c h) dn 0 < 0 then e_set v 111 l 1
     else mTake (mComes v (nN (firstN (mFar v ln c h) dn 0)) h c) l (nI h) (firstN (mFar v ln c h) dn 0))
  else mTake v l (nI h) (firstN (mNear v ln c dl) dn 0)
def mMendsV (v : eV) (dn ln l c dl h : Nat) : Int32 :=
  if firstN (mNear v ln c dl) dn 0 < 0 then (if firstN (mFar v ln c h) dn 0 < 0 then 0 else 2) else 0
theorem e_ppr {i : Nat} (h : 1 ≤ i) : nI i - 1 = nI (i - 1) := pk_sub (a := i) (b := 1) h
theorem e_pneg {i : Nat} (hi : i < 2 ^ 30) : nI i - 1 < 0 ↔ i = 0 := by
  rw [Int32.lt_iff_toInt_lt, e_pred hi]
  show (i : Int) - 1 < 0 ↔ _
  omega
theorem mI_taken {dn ln : Nat} {v : eV} {l w : Nat} {h : Int32} (hv : mI dn ln v) (hw : w < dn) : mI dn ln (mTake v l h (nI w)) := by
  obtain ⟨h1, h2, h3, h4, h5, h6, h7, h8⟩ := hv
  refine ⟨h1, h2, h3, h4, h5, h6, fun i hi => ?_, fun i hi => ?_⟩
  · show ∃ d, d < dn ∧ upd (v 109) l (if v 109 l = h then nI w else v 109 l) i = nI d
    unfold upd
    split
    · split
      · exact ⟨w, hw, rfl⟩
      · rename_i e _
        subst e
        exact h7 _ hi
    · exact h7 i hi
  · show ∃ d, d < dn ∧ upd (v 110) l (if v 110 l = h then nI w else v 110 l) i = nI d
    unfold upd
    split
    · split
      · exact ⟨w, hw, rfl⟩
      · rename_i e _
        subst e
        exact h8 _ hi
    · exact h8 i hi
theorem mI_comes {dn ln : Nat} {v : eV} {d h c : Nat} (hv : mI dn ln v) : mI dn ln (mComes v d h c) := hv
theorem mFar_c {v : eV} {ln c h d : Nat} (g : mFar v ln c h d = true) : ¬ c = 63 := by
  unfold mFar mCanCome at g
  simp only [Bool.and_eq_true, Bool.not_eq_true', decide_eq_false_iff_not] at g
  exact g.2.1.1.1.1.1.1
theorem mI_mends {dn ln : Nat} {v : eV} {l c dl h : Nat} (hv : mI dn ln v) : mI dn ln (mMendsS v dn ln l c dl h) := by
  have h8 := hv.2.2.1
  unfold mMendsS
  split
  · split
    · exact hv
    · rename_i g
      obtain ⟨w, -, h2, h3, -⟩ := firstN_get dn 0 (by omega) g
      rw [h3]
      exact mI_taken (mI_comes hv) (by omega)
  · rename_i g
    obtain ⟨w, -, h2, h3, -⟩ := firstN_get dn 0 (by omega) g
    rw [h3]
    exact mI_taken hv (by omega)
def mHurtC (v : eV) (dn : Nat) (d : Int32) : Int32 := if mOkD dn d = true then (if v 103 (nN d) = 1 then 2 else 0) else 1
theorem mHurtC_ok {v : eV} {dn : Nat} {d : Int32} (h : ¬ 0 < mHurtC v dn d) : mOkD dn d = true := by
  unfold mHurtC at h
  split at h
  · assumption
  · exact absurd (by decide) h
def mDrop (v : eV) (d : Int32) : Nat → eV
  | 0 => v
  | n + 1 => e_set (mDrop v d n) 111 n (if mDrop v d n 108 n = d then 1 else mDrop v d n 111 n)
theorem mDrop_mI {dn ln : Nat} {v : eV} {d : Int32} (h : mI dn ln v) : ∀ n, mI dn ln (mDrop v d n)
  | 0 => h
  | n + 1 => mDrop_mI h n
/-- whether the lift l is one that the hurt one lifts in -/
def mHit (v : eV) (l d : Nat) : Bool := decide (v 111 l = 0) && mOf v l (nI d)
def mMendAll (v : eV) (dn ln d : Nat) : Nat → eV × Int32
  | 0 => (v, 0)
  | n + 1 => if mHit (mMendAll v dn ln d n).1 n d = true then (mMendsS (mMendAll v dn ln d n).1 dn ln n (nN ((mMendAll v dn ln d n).1 107 n)) (nN ((mMendAll v dn ln d n).1 108 n)) d, (mMendAll v dn ln d n).2 + mMendsV (mMendAll v dn ln d n).1 dn ln n (nN ((mMendAll v dn ln d n).1 107 n)) (nN ((mMendAll v dn ln d n).1 108 n)) d)
    else ((mMendAll v dn ln d n).1, (mMendAll v dn ln d n).2 + 0)
theorem mMendAll_mI {dn ln : Nat} {v : eV} {d : Nat} (h : mI dn ln v) : ∀ n, mI dn ln (mMendAll v dn ln d n).1
  | 0 => h
  | n + 1 => by
    unfold mMendAll
    split
    · exact mI_mends (mMendAll_mI h n)
    · exact mMendAll_mI h n
def mHurt0 (v : eV) (dn ln : Nat) (d : Int32) : eV := mDrop (e_set (mT v (mHurtC v dn d)) 103 (nN d) 1) (nI (nN d)) ln
def mHurtS (v : eV) (dn ln : Nat) (d : Int32) : eV := if 0 < mHurtC v dn d then mT v (mHurtC v dn d) else (mMendAll (mHurt0 v dn ln d) dn ln (nN d) ln).1
def mHurtV (v : eV) (dn ln : Nat) (d : Int32) : Int32 := if 0 < mHurtC v dn d then -1 else (mMendAll (mHurt0 v dn ln d) dn ln (nN d) ln).2
theorem mRehC0_f {t k k' : Bool} : mRehC0 t false k = mRehC0 t false k' := by cases t <;> rfl
theorem e_m1 {x : Int32} : x + Int32.ofInt (-1) = x - 1 := by rw [Int32.sub_eq_add_neg]; rfl
theorem mPick_neg {a b : Int32} (h : mPick a b < 0) : a < 0 ∧ b < 0 := by
  unfold mPick at h
  split at h
  · exact ⟨by assumption, h⟩
  · exact absurd h (by assumption)
theorem mPick_near {a b : Int32} (h : ¬ a < 0) : mPick a b = a := if_neg h
theorem mPick_far {a b : Int32} (h : a < 0) : mPick a b = b := if_pos h
theorem mMendAll_hit {U u : eV} {dn ln d n c dl : Nat} {y : Int32} (h : mMendAll U dn ln d n = (u, y)) (g : mHit u n d = true) (ec : u 107 n = nI c) (el : u 108 n = nI dl) (hc : c < 64) (hd : dl < 8) : mMendAll U dn ln d (n + 1) = (mMendsS u dn ln n c dl d, y + mMendsV u dn ln n c dl d) := by
  unfold mMendAll
  rw [h]
  show ite _ _ _ = _
  rw [if_pos g, nN_of ec (by omega), nN_of el (by omega)]
theorem mMendAll_miss {U u : eV} {dn ln d n : Nat} {y : Int32} (h : mMendAll U dn ln d n = (u, y)) (g : ¬ mHit u n d = true) : mMendAll U dn ln d (n + 1) = (u, y + 0) := by
  unfold mMendAll
  rw [h]
  show ite _ _ _ = _
  rw [if_neg g]
theorem inX0 : ∀ w ∈ wsX00, w ∈ AW := fun w h => aw_of ((by decide +kernel : ∀ w ∈ wsX00, w ∈ lw_tbl) w h) ((by decide +kernel : ∀ w ∈ wsX00, goodWord w = true) w h)
theorem inX1 : ∀ w ∈ wsX10, w ∈ AW := fun w h => aw_of ((by decide +kernel : ∀ w ∈ wsX10, w ∈ lw_tbl) w h) ((by decide +kernel : ∀ w ∈ wsX10, goodWord w = true) w h)
theorem inX2 : ∀ w ∈ wsX20, w ∈ AW := fun w h => aw_of ((by decide +kernel : ∀ w ∈ wsX20, w ∈ lw_tbl) w h) ((by decide +kernel : ∀ w ∈ wsX20, goodWord w = true) w h)
theorem inX3 : ∀ w ∈ wsX30, w ∈ AW := fun w h => aw_of ((by decide +kernel : ∀ w ∈ wsX30, w ∈ lw_tbl) w h) ((by decide +kernel : ∀ w ∈ wsX30, goodWord w = true) w h)
theorem inX4 : ∀ w ∈ wsX40, w ∈ AW := fun w h => aw_of ((by decide +kernel : ∀ w ∈ wsX40, w ∈ lw_tbl) w h) ((by decide +kernel : ∀ w ∈ wsX40, goodWord w = true) w h)
theorem inJx4a65c : ∀ w ∈ wsJx4a65c0, w ∈ AW := fun w h => aw_of ((by decide +kernel : ∀ w ∈ wsJx4a65c0, w ∈ lw_tbl) w h) ((by decide +kernel : ∀ w ∈ wsJx4a65c0, goodWord w = true) w h)

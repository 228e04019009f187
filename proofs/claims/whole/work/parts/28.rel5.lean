/-! THE RELATION under rehearse; first rows on bits, pasted from the kit (BITS.to-paste) -/
def bt (x : Int32) (i : Nat) : Bool := x.toBitVec.getLsbD i
theorem b_ext {x y : Int32} (h : ∀ i, i < 32 → bt x i = bt y i) : x = y := Int32.toBitVec_inj.mp (BitVec.eq_of_getLsbD_eq (fun i hi => h i hi))
theorem b_or (x y : Int32) (i : Nat) : bt (x ||| y) i = (bt x i || bt y i) := by unfold bt; rw [Int32.toBitVec_or, BitVec.getLsbD_or]
theorem b_and (x y : Int32) (i : Nat) : bt (x &&& y) i = (bt x i && bt y i) := by unfold bt; rw [Int32.toBitVec_and, BitVec.getLsbD_and]
theorem b_big {x : Int32} {i : Nat} (h : 32 ≤ i) : bt x i = false := BitVec.getLsbD_of_ge _ _ h
theorem b_0 (i : Nat) : bt 0 i = false := BitVec.getLsbD_zero
theorem s_l : ∀ n, n < 32 → ((nI n &&& 31).toBitVec.smod 32).toNat = n := by decide +kernel
theorem b_shl (n : Nat) (hn : n < 32) (x : Int32) {i : Nat} (hi : i < 32) : bt (x <<< (nI n &&& 31)) i = (decide (n ≤ i) && bt x (i - n)) := by
  unfold bt
  rw [Int32.toBitVec_shiftLeft]
  show (x.toBitVec <<< ((nI n &&& 31).toBitVec.smod 32).toNat).getLsbD i = _
  rw [s_l n hn, BitVec.getLsbD_shiftLeft]
  rcases Nat.lt_or_ge i n with h | h
  · simp [h, Nat.not_le.mpr h]
  · simp [hi, h, Nat.not_lt.mpr h]
theorem b_sshr (n : Nat) (hn : n < 32) (x : Int32) {i : Nat} (hi : i < 32) : bt (x >>> (nI n &&& 31)) i = if n + i < 32 then bt x (n + i) else bt x 31 := by
  unfold bt
  rw [Int32.toBitVec_shiftRight]
  show (x.toBitVec.sshiftRight ((nI n &&& 31).toBitVec.smod 32).toNat).getLsbD i = _
  rw [s_l n hn, BitVec.getLsbD_sshiftRight, BitVec.msb_eq_getLsbD_last]
  simp [hi]
theorem b_1 : ∀ i, i < 32 → bt 1 i = decide (i = 0) := by decide +kernel
theorem b_and1 (x : Int32) : x &&& 1 = if bt x 0 = true then 1 else 0 := by
  refine b_ext (fun i hi => ?_)
  rw [b_and, b_1 i hi]
  by_cases e : i = 0
  · subst e
    cases g : bt x 0
    · rw [if_neg (by decide), b_0]; rfl
    · rw [if_pos rfl, b_1 0 (by decide)]; rfl
  · rw [decide_eq_false e, Bool.and_false]
    split
    · rw [b_1 i hi, decide_eq_false e]
    · rw [b_0]
theorem b_get {x : Int32} {d : Nat} (hd : d < 32) : (x >>> (nI d &&& 31)) &&& 1 = if bt x d = true then 1 else 0 := by
  have e : bt (x >>> (nI d &&& 31)) 0 = bt x d := by
    rw [b_sshr d hd x (by decide), if_pos (show d + 0 < 32 by omega)]
    rfl
  rw [b_and1, e]
theorem b_get1 {x : Int32} {d : Nat} (hd : d < 32) : decide ((x >>> (nI d &&& 31)) &&& 1 = 1) = bt x d := by
  rw [b_get hd]
  cases bt x d <;> decide
theorem b_takes {x : Int32} {d : Nat} (hd : d < 32) : cTakes x d = bt x d := by
  unfold cTakes
  rw [b_get hd]
  cases bt x d <;> decide
theorem b_and0 {x y : Int32} : (!decide (x &&& y = 0)) = true ↔ ∃ k, k < 32 ∧ bt x k = true ∧ bt y k = true := by
  constructor
  · intro h
    refine Classical.byContradiction (fun q => ?_)
    have : x &&& y = 0 := b_ext (fun i hi => by
      rw [b_and, b_0]
      cases g1 : bt x i
      · rfl
      · cases g2 : bt y i
        · rfl
        · exact absurd ⟨i, hi, g1, g2⟩ q)
    rw [decide_eq_true this] at h
    exact absurd h (by decide)
  · rintro ⟨k, hk, h1, h2⟩
    have : ¬ x &&& y = 0 := fun e => by
      have q := b_and x y k
      rw [e, b_0, h1, h2] at q
      exact absurd q (by decide)
    rw [decide_eq_false this]
    rfl
theorem b_nneg {x : Int32} (h : bt x 31 = false) : ¬ x < 0 := by
  rw [Int32.lt_iff_toInt_lt, show (0 : Int32).toInt = 0 by decide]
  have e : x.toInt = x.toBitVec.toInt := rfl
  rw [e, BitVec.toInt_eq_msb_cond, BitVec.msb_eq_getLsbD_last]
  have h2 : x.toBitVec.getLsbD (32 - 1) = false := h
  rw [h2]
  simp
theorem anyN_iff {f : Nat → Bool} : ∀ {n : Nat}, anyN f n = true ↔ ∃ i, i < n ∧ f i = true
  | 0 => ⟨fun h => absurd (show false = true from h) (by decide), fun ⟨i, h, _⟩ => absurd h (Nat.not_lt_zero _)⟩
  | n + 1 => by
    constructor
    · intro h
      rcases Bool.or_eq_true_iff.mp (show (anyN f n || f n) = true from h) with q | q
      · obtain ⟨i, h1, h2⟩ := anyN_iff.mp q
        exact ⟨i, by omega, h2⟩
      · exact ⟨n, by omega, q⟩
    · rintro ⟨i, h1, h2⟩
      exact anyN_t h2 h1
/-! cost -/
theorem sum_hit {k a : Nat} : ∀ n, sumN (fun i => bI (decide (k = a + i))) n = bI (decide (a ≤ k) && decide (k < a + n))
  | 0 => by
    rw [show (decide (a ≤ k) && decide (k < a + 0)) = false by rw [Bool.and_eq_false_iff]; by_cases g : a ≤ k; right; exact decide_eq_false (by omega); left; exact decide_eq_false g]
    rfl
  | n + 1 => by
    show sumN _ n + bI (decide (k = a + n)) = _
    rw [sum_hit n]
    by_cases e : k = a + n
    · subst e
      rw [decide_eq_true (p := a ≤ a + n) (by omega), decide_eq_false (p := a + n < a + n) (by omega), decide_eq_true (p := a + n < a + (n + 1)) (by omega), decide_eq_true (p := a + n = a + n) rfl]
      decide
    · rw [decide_eq_false e, decide_eq_decide.mpr (show k < a + n ↔ k < a + (n + 1) from ⟨fun _ => by omega, fun _ => by omega⟩)]
      show _ + (0 : Int32) = _
      rw [Int32.add_zero]
theorem sum_and {f : Nat → Bool} {b : Bool} : ∀ n, sumN (fun i => bI (f i && b)) n = if b = true then sumN (fun i => bI (f i)) n else 0
  | 0 => by cases b <;> rfl
  | n + 1 => by
    show sumN _ n + bI (f n && b) = if b = true then sumN _ n + bI (f n) else 0
    rw [sum_and n]
    cases b
    · rw [Bool.and_false]; rfl
    · rw [Bool.and_true]; rfl
theorem r_lifts {dn ln : Nat} {c m : eV} (h : RR dn ln c m) (d : Int32) {a b : Nat} (hab : a ≤ b) (hb : b < 64) : ∀ n, n ≤ ln → sumN (fun i => mLiftsOf m d (nI (a + i)) n) (b + 1 - a) = cLiftsW c d (nI a) (nI b) n
  | 0, _ => sumN_zero _
  | n + 1, hn => by
    show sumN (fun i => mLiftsOf m d (nI (a + i)) n + bI (decide (m 111 n = 0) && decide (m 107 n = nI (a + i)) && mOf m n d)) (b + 1 - a) = cLiftsW c d (nI a) (nI b) n + bI (decide (c (80 + n) 4 = 0) && !decide (c (80 + n) 0 < nI a) && !decide (nI b < c (80 + n) 0) && cHas c (80 + n) d)
    rw [sumN_add, r_lifts h d hab hb n (by omega)]
    have hL := h.2.2.2.1 n (by omega)
    obtain ⟨k, dl, da, db, hk, -, -, -, e1, -, -, -, e2, -⟩ := h.lift (l := n) (by omega)
    rw [r_has hL, hL.2.2.2.2.1, e1, e2]
    congr 1
    have e3 : sumN (fun i => bI (decide (m 111 n = 0) && decide (nI k = nI (a + i)) && mOf m n d)) (b + 1 - a) = sumN (fun i => bI (decide (k = a + i) && (decide (m 111 n = 0) && mOf m n d))) (b + 1 - a) := by
      refine sumN_congr (fun i hi => ?_)
      rw [decide_eq_decide.mpr (nI_eq (a := k) (b := a + i) (by omega) (by omega))]
      congr 1
      cases decide (m 111 n = 0) <;> cases decide (k = a + i) <;> cases mOf m n d <;> rfl
    rw [e3, sum_and, sum_hit, decide_eq_decide.mpr (nI_ltI (a := k) (b := a) (by omega) (by omega)), decide_eq_decide.mpr (nI_ltI (a := b) (b := k) (by omega) (by omega)), show (!decide (k < a)) = decide (a ≤ k) by by_cases g : k < a; rw [decide_eq_true g, decide_eq_false (p := a ≤ k) (by omega)]; rfl; rw [decide_eq_false g, decide_eq_true (p := a ≤ k) (by omega)]; rfl, show (!decide (b < k)) = decide (k < a + (b + 1 - a)) by by_cases g : b < k; rw [decide_eq_true g, decide_eq_false (p := k < a + (b + 1 - a)) (by omega)]; rfl; rw [decide_eq_false g, decide_eq_true (p := k < a + (b + 1 - a)) (by omega)]; rfl]
    cases decide (m 111 n = 0) <;> cases mOf m n d <;> cases decide (a ≤ k) <;> cases decide (k < a + (b + 1 - a)) <;> rfl
theorem r_cost {dn ln : Nat} {c m : eV} (h : RR dn ln c m) {i a b : Nat} (hi : i < dn) (hab : a ≤ b) (hb : b < 64) : cPts c ln i a b = mCost m ln i a (b + 1 - a) := by
  unfold cPts mCost
  rw [sumN_add, sumN_add, sumN_mul, r_lifts h (nI i) hab hb ln (Nat.le_refl _)]
  have hd := h.2.1 i hi
  congr 2
  · unfold cWayIn
    refine sumN_congr (fun q hq => ?_)
    rw [hd.1.2.1 (a + q) (by omega)]
    rfl
  · unfold cWayIn
    refine sumN_congr (fun q hq => ?_)
    rw [hd.2.1.2.1 (a + q) (by omega)]
    rfl
theorem bI_int (b : Bool) : 0 ≤ (bI b).toInt ∧ (bI b).toInt ≤ 1 := by cases b <;> decide
theorem lifts_bd {m : eV} {d k : Int32} {n : Nat} (hn : n ≤ 12) : 0 ≤ (mLiftsOf m d k n).toInt ∧ (mLiftsOf m d k n).toInt ≤ 12 := by
  have := sumN_bd (g := fun i => bI (decide (m 111 i = 0) && decide (m 107 i = k) && mOf m i d)) (A := 0) (B := 1) (by decide) (by decide) (by decide) (by decide) n (by omega) (fun j _ => bI_int _)
  unfold mLiftsOf
  omega
theorem cost_bd {dn ln : Nat} {c m : eV} (h : RR dn ln c m) {i a b : Nat} (hi : i < dn) (hab : a ≤ b) (hb : b < 64) : 0 ≤ (mCost m ln i a (b + 1 - a)).toInt ∧ (mCost m ln i a (b + 1 - a)).toInt ≤ 6400 := by
  have hd := h.2.1 i hi
  have h12 := h.l12
  unfold mCost
  have := sumN_bd (g := fun q => mFlat (m 105 (64 * i + (a + q))) + mFlat (m 106 (64 * i + (a + q))) + 5 * mLiftsOf m (nI i) (nI (a + q)) ln) (A := 0) (B := 100) (by decide) (by decide) (by decide) (by decide) (b + 1 - a) (by omega) (fun q hq => by
    obtain ⟨x1, x2⟩ := mIn_2.mp (hd.1.2.2.2.2 (a + q) (by omega))
    obtain ⟨y1, y2⟩ := mIn_2.mp (hd.2.1.2.2.2.2 (a + q) (by omega))
    change -2 ≤ (m 105 (64 * i + (a + q))).toInt at x1
    change (m 105 (64 * i + (a + q))).toInt ≤ 2 at x2
    change -2 ≤ (m 106 (64 * i + (a + q))).toInt at y1
    change (m 106 (64 * i + (a + q))).toInt ≤ 2 at y2
    obtain ⟨z1, z2⟩ := lifts_bd (m := m) (d := nI i) (k := nI (a + q)) h12
    have f1 := flat_int (x := m 105 (64 * i + (a + q))) (by omega) (by omega)
    have f2 := flat_int (x := m 106 (64 * i + (a + q))) (by omega) (by omega)
    have e5 : (5 : Int32).toInt = 5 := by decide
    have f3 := i_mul (a := 5) (b := mLiftsOf m (nI i) (nI (a + q)) ln) (by rw [e5]; omega) (by rw [e5]; omega)
    rw [e5] at f3
    have g1 : 0 ≤ (mFlat (m 105 (64 * i + (a + q)))).toInt ∧ (mFlat (m 105 (64 * i + (a + q)))).toInt ≤ 2 := by rw [f1]; split <;> omega
    have g2 : 0 ≤ (mFlat (m 106 (64 * i + (a + q)))).toInt ∧ (mFlat (m 106 (64 * i + (a + q)))).toInt ≤ 2 := by rw [f2]; split <;> omega
    have f4 := i_add (a := mFlat (m 105 (64 * i + (a + q)))) (b := mFlat (m 106 (64 * i + (a + q)))) (by omega) (by omega)
    have f5 := i_add (a := mFlat (m 105 (64 * i + (a + q))) + mFlat (m 106 (64 * i + (a + q)))) (b := 5 * mLiftsOf m (nI i) (nI (a + q)) ln) (by omega) (by omega)
    show 0 ≤ (mFlat (m 105 (64 * i + (a + q))) + mFlat (m 106 (64 * i + (a + q))) + 5 * mLiftsOf m (nI i) (nI (a + q)) ln).toInt ∧ _
    omega)
  omega
/-! who takes part -/
theorem r_part {dn ln : Nat} {c m : eV} (h : RR dn ln c m) {i a b : Nat} (hi : i < dn) (hab : a ≤ b) (hb : b < 64) : cPart c ln a b i = decide (0 < mCostO m ln i a b) := by
  unfold cPart mCostO
  rw [h.out hi, r_cost h hi hab hb]
  rcases h.o01 hi with e | e <;> rw [e]
  · rw [if_neg (show ¬ (0 : Int32) = 1 by decide)]; rfl
  · rw [if_pos rfl]; rfl
theorem r_parts {dn ln : Nat} {c m : eV} (h : RR dn ln c m) {a b : Nat} (hab : a ≤ b) (hb : b < 64) : ∀ n, n ≤ dn → cParts c ln a b n = mWho m ln a b n
  | 0, _ => rfl
  | n + 1, hn => by
    show (if cPart c ln a b n = true then cParts c ln a b n ||| ((1 : Int32) <<< (nI n &&& 31)) else cParts c ln a b n) = mWho m ln a b n ||| mBit (mCostO m ln n a b) n
    rw [r_part h (by omega) hab hb, r_parts h hab hb n (by omega)]
    unfold mBit
    by_cases g : 0 < mCostO m ln n a b
    · rw [if_pos (decide_eq_true g), if_pos g]
    · rw [if_neg (by rw [decide_eq_false g]; decide), if_neg g, Int32.or_zero]
theorem who_bit {m : eV} {ln a b : Nat} : ∀ n, n ≤ 8 → ∀ k, k < 32 → bt (mWho m ln a b n) k = (decide (k < n) && decide (0 < mCostO m ln k a b))
  | 0, _, k, _ => by
    rw [decide_eq_false (p := k < 0) (Nat.not_lt_zero _)]
    exact b_0 k
  | n + 1, hn, k, hk => by
    show bt (mWho m ln a b n ||| mBit (mCostO m ln n a b) n) k = _
    rw [b_or, who_bit n (by omega) k hk]
    have e : bt (mBit (mCostO m ln n a b) n) k = (decide (k = n) && decide (0 < mCostO m ln n a b)) := by
      unfold mBit
      by_cases g : 0 < mCostO m ln n a b
      · rw [if_pos g, decide_eq_true g, b_shl n (by omega) _ hk, Bool.and_true]
        by_cases q : n ≤ k
        · rw [decide_eq_true q, b_1 _ (by omega), Bool.true_and]
          exact decide_eq_decide.mpr ⟨fun _ => by omega, fun _ => by omega⟩
        · rw [decide_eq_false q, decide_eq_false (p := k = n) (by omega)]
          rfl
      · rw [if_neg g, decide_eq_false g, b_0, Bool.and_false]
    rw [e]
    by_cases q : k = n
    · subst q
      rw [decide_eq_true (p := k = k) rfl, decide_eq_false (p := k < k) (by omega), decide_eq_true (p := k < k + 1) (by omega)]
      rfl
    · rw [decide_eq_false q, decide_eq_decide.mpr (show k < n ↔ k < n + 1 from ⟨fun _ => by omega, fun _ => by omega⟩), Bool.false_and, Bool.or_false]
theorem r_busy1 {dn ln : Nat} {c m : eV} (h : RR dn ln c m) {r k : Nat} (hr : r < 3) (hk : 8 ≤ k) (hk2 : k ≤ 20) : c (5 + r) (k - 8) = m 113 (13 * r + k - 8) ∧ (m 113 (13 * r + k - 8) = -1 ↔ m 113 (13 * r + k - 8) < 0) := by
  obtain ⟨e1, e2⟩ := h.2.2.2.2.2.2.1 r hr (k - 8) (by omega)
  rw [show 13 * r + (k - 8) = 13 * r + k - 8 by omega] at e1 e2
  refine ⟨e1, fun e => by rw [e]; decide, fun e => ?_⟩
  rcases e2 with q | q
  · exact q
  · exact absurd e q
theorem r_bars {dn ln : Nat} {c m : eV} (h : RR dn ln c m) {a b k : Nat} (hab : a ≤ b) (hb : b < 64) (hk : 8 ≤ k) (hk2 : k ≤ 20) : (cBusy c (mWho m ln a b dn) k 3 || cTired c ln (mWho m ln a b dn) a b dn) = mBars m ln a b k dn := by
  have h8 := h.d8
  have eB : cBusy c (mWho m ln a b dn) k 3 = true ↔ ∃ i, i < dn ∧ 0 < mCostO m ln i a b ∧ mBusy m i k 3 = true := by
    unfold cBusy mBusy
    rw [anyN_iff]
    constructor
    · rintro ⟨r, hr, e⟩
      obtain ⟨e1, e2⟩ := Bool.and_eq_true_iff.mp e
      obtain ⟨q, hq, q1, q2⟩ := b_and0.mp e2
      rw [who_bit dn h8 q hq] at q2
      obtain ⟨q3, q4⟩ := Bool.and_eq_true_iff.mp q2
      have q3 := of_decide_eq_true q3
      have q4 := of_decide_eq_true q4
      obtain ⟨f1, f2⟩ := r_busy1 h hr hk hk2
      refine ⟨q, q3, q4, anyN_iff.mpr ⟨r, hr, ?_⟩⟩
      rw [f1] at e1 q1
      rw [b_get1 hq, q1, Bool.and_true, ← decide_eq_decide.mpr f2]
      exact e1
    · rintro ⟨q, hq, g, e⟩
      obtain ⟨r, hr, e⟩ := anyN_iff.mp e
      obtain ⟨e1, e2⟩ := Bool.and_eq_true_iff.mp e
      obtain ⟨f1, f2⟩ := r_busy1 h hr hk hk2
      rw [b_get1 (by omega)] at e2
      rw [← decide_eq_decide.mpr f2] at e1
      refine ⟨r, hr, Bool.and_eq_true_iff.mpr ⟨by rw [f1]; exact e1, b_and0.mpr ⟨q, by omega, by rw [f1]; exact e2, ?_⟩⟩⟩
      rw [who_bit dn h8 q (by omega), decide_eq_true hq, decide_eq_true g]
      rfl
  have eT : cTired c ln (mWho m ln a b dn) a b dn = true ↔ ∃ i, i < dn ∧ 0 < mCostO m ln i a b ∧ 60 < m 104 i + mCostO m ln i a b := by
    unfold cTired
    rw [anyN_iff]
    have e0 : ∀ i, i < dn → 0 < mCostO m ln i a b → cPts c ln i a b = mCostO m ln i a b := fun i hi g => by
      unfold mCostO at g ⊢
      rw [r_cost h hi hab hb]
      by_cases q : m 103 i = 1
      · rw [if_pos q] at g
        exact absurd g (by decide)
      · rw [if_neg q]
    constructor
    · rintro ⟨i, hi, e⟩
      obtain ⟨e1, e2⟩ := Bool.and_eq_true_iff.mp e
      rw [b_takes (by omega), who_bit dn h8 i (by omega)] at e1
      have g := of_decide_eq_true (Bool.and_eq_true_iff.mp e1).2
      have e2 := of_decide_eq_true e2
      rw [e0 i hi g, (h.2.1 i hi).2.2.2.2.1] at e2
      exact ⟨i, hi, g, e2⟩
    · rintro ⟨i, hi, g, e⟩
      refine ⟨i, hi, Bool.and_eq_true_iff.mpr ⟨?_, ?_⟩⟩
      · rw [b_takes (by omega), who_bit dn h8 i (by omega), decide_eq_true hi, decide_eq_true g]
        rfl
      · rw [e0 i hi g, (h.2.1 i hi).2.2.2.2.1]
        exact decide_eq_true e
  rw [Bool.eq_iff_iff, Bool.or_eq_true_iff, eB, eT]
  unfold mBars
  rw [anyN_iff]
  unfold mBar1
  constructor
  · rintro (⟨i, hi, g, e⟩ | ⟨i, hi, g, e⟩)
    · exact ⟨i, hi, by rw [decide_eq_true g, e]; rfl⟩
    · exact ⟨i, hi, by rw [decide_eq_true g, decide_eq_true e, Bool.or_true]; rfl⟩
  · rintro ⟨i, hi, e⟩
    obtain ⟨e1, e2⟩ := Bool.and_eq_true_iff.mp e
    rcases Bool.or_eq_true_iff.mp e2 with q | q
    · exact Or.inl ⟨i, hi, of_decide_eq_true e1, q⟩
    · exact Or.inr ⟨i, hi, of_decide_eq_true e1, of_decide_eq_true q⟩

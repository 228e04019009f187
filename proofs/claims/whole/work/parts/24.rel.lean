/-! THE RELATION between the class's numbers c and the reference's numbers m -/
theorem sumN_congr {f g : Nat → Int32} : ∀ {n : Nat}, (∀ i, i < n → f i = g i) → sumN f n = sumN g n
  | 0, _ => rfl
  | n + 1, h => by
    show sumN f n + f n = sumN g n + g n
    rw [sumN_congr (fun i hi => h i (by omega)), h n (by omega)]
theorem anyN_congr {f g : Nat → Bool} : ∀ {n : Nat}, (∀ i, i < n → f i = g i) → anyN f n = anyN g n
  | 0, _ => rfl
  | n + 1, h => by
    show (anyN f n || f n) = (anyN g n || g n)
    rw [anyN_congr (fun i hi => h i (by omega)), h n (by omega)]
theorem firstN_congr {P R : Nat → Bool} : ∀ (k i : Nat), (∀ j, i ≤ j → j < i + k → P j = R j) → firstN P k i = firstN R k i
  | 0, _, _ => rfl
  | k + 1, i, h => by
    show (if P i = true then nI i else firstN P k (i + 1)) = (if R i = true then nI i else firstN R k (i + 1))
    rw [h i (Nat.le_refl _) (by omega), firstN_congr k (i + 1) (fun j h1 h2 => h j (by omega) (by omega))]
theorem sumN_upd {g : Nat → Int32} {k : Nat} {x : Int32} : ∀ n, sumN (upd g k x) n = sumN g n + (if k < n then x - g k else 0)
  | 0 => by simp [sumN]
  | n + 1 => by
    show sumN (upd g k x) n + upd g k x n = sumN g n + g n + _
    rw [sumN_upd n]
    unfold upd
    by_cases h : n = k
    · subst h
      rw [if_pos rfl, if_neg (Nat.lt_irrefl _), if_pos (Nat.lt_succ_self _)]
      grind
    · rw [if_neg h]
      by_cases h2 : k < n
      · rw [if_pos h2, if_pos (by omega)]
        grind
      · rw [if_neg h2, if_neg (by omega)]
        grind
theorem sumN_add {f g : Nat → Int32} : ∀ n, sumN (fun i => f i + g i) n = sumN f n + sumN g n
  | 0 => by simp [sumN]
  | n + 1 => by
    show sumN (fun i => f i + g i) n + (f n + g n) = sumN f n + f n + (sumN g n + g n)
    rw [sumN_add n]
    grind
theorem sumN_mul {f : Nat → Int32} {k : Int32} : ∀ n, sumN (fun i => k * f i) n = k * sumN f n
  | 0 => by simp [sumN]
  | n + 1 => by
    show sumN (fun i => k * f i) n + k * f n = k * (sumN f n + f n)
    rw [sumN_mul n]
    grind
theorem sumN_zero : ∀ n, sumN (fun _ => 0) n = 0
  | 0 => rfl
  | n + 1 => by
    show sumN (fun _ => 0) n + 0 = 0
    rw [sumN_zero n]
    rfl
def tRel (c : eV) (t : Nat) (f : Int32) (g : Nat → Int32) : Prop := c t 0 = f ∧ (∀ j, j < 64 → c (t + 1) j = g j) ∧ (∀ j, j < 64 → c (t + 2) j = f + sumN g (j + 1)) ∧ mIn f 0 7 = true ∧ ∀ j, j < 64 → mIn (g j) (-2) 2 = true
def gX (m : eV) (i : Nat) : Nat → Int32 := fun j => m 105 (64 * i + j)
def gY (m : eV) (i : Nat) : Nat → Int32 := fun j => m 106 (64 * i + j)
def dRel (c m : eV) (i : Nat) : Prop := tRel c (20 + 7 * i + 1) (m 101 i) (gX m i) ∧ tRel c (20 + 7 * i + 4) (m 102 i) (gY m i) ∧ c (20 + 7 * i) 3 = m 103 i ∧ (m 103 i = 0 ∨ m 103 i = 1) ∧ c (20 + 7 * i) 2 = m 104 i ∧ mIn (m 104 i) 0 60 = true
def zRel (m : eV) (i : Nat) : Prop := (∀ j, j < 64 → gX m i j = 0) ∧ (∀ j, j < 64 → gY m i j = 0) ∧ m 103 i = 0 ∧ m 104 i = 0
def lRel (c m : eV) (l : Nat) : Prop := c (80 + l) 0 = m 107 l ∧ c (80 + l) 1 = m 108 l ∧ c (80 + l) 2 = m 109 l ∧ c (80 + l) 3 = m 110 l ∧ c (80 + l) 4 = m 111 l ∧ (m 111 l = 0 ∨ m 111 l = 1) ∧ m 109 l ≠ m 110 l
def oRel (c m : eV) : Prop := c 3 0 = (if 0 < m 112 0 then m 112 0 else 500) ∧ (∀ j, 1 ≤ j → j < 64 → c 3 j = m 112 j) ∧ ∀ j, j < 64 → ¬ m 112 j < 0
def pRel (c m : eV) : Prop := ∀ r, r < 3 → ∀ j, j < 13 → c (5 + r) j = m 113 (13 * r + j) ∧ (m 113 (13 * r + j) = -1 ∨ ¬ m 113 (13 * r + j) < 0)
def RR (dn ln : Nat) (c m : eV) : Prop := mI dn ln m ∧ (∀ i, i < dn → dRel c m i) ∧ (∀ i, dn ≤ i → i < 8 → zRel m i) ∧ (∀ l, l < ln → lRel c m l) ∧ (∀ l, ln ≤ l → l < 12 → m 111 l = 0) ∧ oRel c m ∧ pRel c m ∧ c 0 4 = m 100 15
/-! the same cells: the relation stays -/
theorem tRel.c {c c' : eV} {t : Nat} {f : Int32} {g : Nat → Int32} (h : tRel c t f g) (e : ∀ k, k < 3 → c' (t + k) = c (t + k)) : tRel c' t f g := by
  obtain ⟨h1, h2, h3, h4⟩ := h
  refine ⟨?_, fun j hj => ?_, fun j hj => ?_, h4⟩
  · rw [show t = t + 0 from rfl, e 0 (by decide)]; exact h1
  · rw [e 1 (by decide)]; exact h2 j hj
  · rw [e 2 (by decide)]; exact h3 j hj
theorem tRel.g {c : eV} {t : Nat} {f : Int32} {g g' : Nat → Int32} (h : tRel c t f g) (e : ∀ j, j < 64 → g' j = g j) : tRel c t f g' := by
  obtain ⟨h1, h2, h3, h4, h5⟩ := h
  refine ⟨h1, fun j hj => by rw [h2 j hj, e j hj], fun j hj => by rw [h3 j hj, sumN_congr (fun i hi => e i (by omega))], h4, fun j hj => by rw [e j hj]; exact h5 j hj⟩
theorem dRel.c {c c' m : eV} {i : Nat} (h : dRel c m i) (e : ∀ k, k < 7 → c' (20 + 7 * i + k) = c (20 + 7 * i + k)) : dRel c' m i := by
  obtain ⟨h1, h2, h3, h4, h5, h6⟩ := h
  have e0 : c' (20 + 7 * i) = c (20 + 7 * i) := e 0 (by decide)
  refine ⟨h1.c (fun k hk => ?_), h2.c (fun k hk => ?_), by rw [e0]; exact h3, h4, by rw [e0]; exact h5, h6⟩
  · have := e (1 + k) (by omega)
    rw [← Nat.add_assoc] at this
    exact this
  · have := e (4 + k) (by omega)
    rw [← Nat.add_assoc] at this
    exact this
theorem dRel.m {c m m' : eV} {i : Nat} (h : dRel c m i) (e : ∀ n, 101 ≤ n → n ≤ 106 → m' n = m n) : dRel c m' i := by
  unfold dRel gX gY at h ⊢
  rw [e 101 (by decide) (by decide), e 102 (by decide) (by decide), e 103 (by decide) (by decide), e 104 (by decide) (by decide), e 105 (by decide) (by decide), e 106 (by decide) (by decide)]
  exact h
theorem zRel.m {m m' : eV} {i : Nat} (h : zRel m i) (e : ∀ n, 103 ≤ n → n ≤ 106 → m' n = m n) : zRel m' i := by
  unfold zRel gX gY at h ⊢
  rw [e 103 (by decide) (by decide), e 104 (by decide) (by decide), e 105 (by decide) (by decide), e 106 (by decide) (by decide)]
  exact h
theorem lRel.c {c c' m : eV} {l : Nat} (h : lRel c m l) (e : c' (80 + l) = c (80 + l)) : lRel c' m l := by
  unfold lRel at h ⊢
  rw [e]
  exact h
theorem lRel.m {c m m' : eV} {l : Nat} (h : lRel c m l) (e : ∀ n, 107 ≤ n → n ≤ 111 → m' n = m n) : lRel c m' l := by
  unfold lRel at h ⊢
  rw [e 107 (by decide) (by decide), e 108 (by decide) (by decide), e 109 (by decide) (by decide), e 110 (by decide) (by decide), e 111 (by decide) (by decide)]
  exact h
theorem oRel.cm {c c' m m' : eV} (h : oRel c m) (e1 : c' 3 = c 3) (e2 : m' 112 = m 112) : oRel c' m' := by
  unfold oRel at h ⊢
  rw [e1, e2]
  exact h
theorem pRel.cm {c c' m m' : eV} (h : pRel c m) (e1 : ∀ r, r < 3 → c' (5 + r) = c (5 + r)) (e2 : m' 113 = m 113) : pRel c' m' := by
  intro r hr j hj
  rw [e1 r hr, e2]
  exact h r hr j hj
theorem mI.m {dn ln : Nat} {m m' : eV} (h : mI dn ln m) (e1 : m' 100 4 = m 100 4) (e2 : m' 100 12 = m 100 12) (e : ∀ n, 107 ≤ n → n ≤ 110 → m' n = m n) : mI dn ln m' := by
  unfold mI at h ⊢
  rw [e1, e2, e 107 (by decide) (by decide), e 108 (by decide) (by decide), e 109 (by decide) (by decide), e 110 (by decide) (by decide)]
  exact h
/-- cells outside the two systems don't matter; the reference's answer code neither -/
theorem RR.cm {dn ln : Nat} {c c' m m' : eV} (h : RR dn ln c m) (ec : ∀ n, n < 100 → c' n = c n) (em : ∀ n, 100 < n → n < 114 → m' n = m n) (e4 : m' 100 4 = m 100 4) (e12 : m' 100 12 = m 100 12) (e15 : m' 100 15 = m 100 15) : RR dn ln c' m' := by
  obtain ⟨h1, h2, h3, h4, h5, h6, h7, h8⟩ := h
  have h8n := h1.2.2.1
  have h12 := h1.2.2.2.1
  refine ⟨h1.m e4 e12 (fun n a b => em n (by omega) (by omega)), fun i hi => ((h2 i hi).c (fun k hk => ec _ (by omega))).m (fun n a b => em n (by omega) (by omega)), fun i hi hj => (h3 i hi hj).m (fun n a b => em n (by omega) (by omega)), fun l hl => ((h4 l hl).c (ec _ (by omega))).m (fun n a b => em n (by omega) (by omega)), fun l hl hj => by rw [em 111 (by decide) (by decide)]; exact h5 l hl hj, h6.cm (ec 3 (by decide)) (em 112 (by decide) (by decide)), h7.cm (fun r hr => ec _ (by omega)) (em 113 (by decide) (by decide)), by rw [ec 0 (by decide), e15]; exact h8⟩
theorem RR.T {dn ln : Nat} {c m : eV} (h : RR dn ln c m) (w : Int32) : RR dn ln c (mT m w) := h.cm (fun _ _ => rfl) (fun n a b => es_ne (by omega)) rfl rfl rfl
/-! the codes -/
theorem e_dlt {a b x : Int32} (h : b.toInt = a.toInt + 1) : decide (x < b) = !decide (a < x) := by
  have e : x < b ↔ ¬ a < x := by
    rw [Int32.lt_iff_toInt_lt, Int32.lt_iff_toInt_lt]
    omega
  by_cases g : a < x
  · simp [e, g]
  · simp [e, g]
theorem okN_eq {n : Nat} (hn : n < 1000) (d : Int32) : cOkN n d = mOkD n d := by
  unfold cOkN mOkD mIn
  rw [e_dlt (a := nI n - 1) (b := nI n) (by rw [e_pred (by omega), nI_toInt (by omega)]; omega)]
theorem okC_eq (x : Int32) : cOkC x = mOkC x := by
  unfold cOkC mOkC mIn
  rw [e_dlt (a := 63) (b := 64) (by decide)]
theorem okR_eq (x : Int32) : cOkR x = mIn x 0 2 := by
  unfold cOkR mIn
  rw [e_dlt (a := 2) (b := 3) (by decide)]
theorem okH_eq (x : Int32) : cOkH x = mIn x 8 20 := by
  unfold cOkH mIn
  rw [e_dlt (a := 20) (b := 21) (by decide)]
theorem on_eq (x : Int32) : cOn x = mIn x 0 7 := by
  unfold cOn mIn
  rw [e_dlt (a := 7) (b := 8) (by decide)]
theorem ok5_eq (x : Int32) : (!decide (x < 0) && decide (x < 5)) = mIn x 0 4 := by
  unfold mIn
  rw [e_dlt (a := 4) (b := 5) (by decide)]
theorem RR.d8 {dn ln : Nat} {c m : eV} (h : RR dn ln c m) : dn ≤ 8 := h.1.2.2.1
theorem RR.l12 {dn ln : Nat} {c m : eV} (h : RR dn ln c m) : ln ≤ 12 := h.1.2.2.2.1
theorem RR.out {dn ln : Nat} {c m : eV} (h : RR dn ln c m) {i : Nat} (hi : i < dn) : cOut c i = decide (m 103 i = 1) := by
  unfold cOut
  rw [(h.2.1 i hi).2.2.1]
/-! place, placeAnew -/
theorem RR.X {dn ln : Nat} {c m : eV} (h : RR dn ln c m) {i j : Nat} (hi : i < dn) (hj : j < 64) : c (20 + 7 * i + 1 + 2) j = mX m i (j + 1) := (h.2.1 i hi).1.2.2.1 j hj
theorem RR.Y {dn ln : Nat} {c m : eV} (h : RR dn ln c m) {i j : Nat} (hi : i < dn) (hj : j < 64) : c (20 + 7 * i + 4 + 2) j = mY m i (j + 1) := (h.2.1 i hi).2.1.2.2.1 j hj
theorem r_placeC {dn ln : Nat} {c m : eV} (h : RR dn ln c m) (d k : Int32) : cPlaceC dn d k = mPlaceC dn d k := by
  unfold cPlaceC mPlaceC
  rw [okN_eq (by have := h.d8; omega), okC_eq]
theorem r_place {dn ln : Nat} {c m : eV} (h : RR dn ln c m) (d k b : Int32) (g : cPlaceC dn d k = 0) : cPlaceV c d k b = mPlaceV m dn d k b := by
  have g2 : ¬ 0 < mPlaceC dn d k := by rw [← r_placeC h, g]; decide
  obtain ⟨o1, o2⟩ := mPlaceC_ok g2
  obtain ⟨i, hi, rfl⟩ := e_okD h.d8 o1
  obtain ⟨j, hj, rfl⟩ := e_okC o2
  unfold cPlaceV mPlaceV cTr
  have := h.d8
  rw [if_neg g2, nN_of (x := nI i) rfl (by omega), nN_of (x := nI j) rfl (by omega)]
  by_cases hb : b = 0
  · rw [if_pos hb, if_pos hb]
    exact h.X hi hj
  · rw [if_neg hb, if_neg hb]
    exact h.Y hi hj
theorem r_anew {dn ln : Nat} {c m : eV} (h : RR dn ln c m) (d k b : Int32) (g : cPlaceC dn d k = 0) : cAnewV c d k b = mPlaceV m dn d k b := by
  have g2 : ¬ 0 < mPlaceC dn d k := by rw [← r_placeC h, g]; decide
  obtain ⟨o1, o2⟩ := mPlaceC_ok g2
  obtain ⟨i, hi, rfl⟩ := e_okD h.d8 o1
  obtain ⟨j, hj, rfl⟩ := e_okC o2
  unfold cAnewV mPlaceV cTr
  have := h.d8
  rw [if_neg g2, nN_of (x := nI i) rfl (by omega), nN_of (x := nI j) rfl (by omega)]
  have hd := h.2.1 i hi
  by_cases hb : b = 0
  · rw [if_pos hb, if_pos hb]
    show c (20 + 7 * i + 1) 0 + sumN (c (20 + 7 * i + 1 + 1)) (j + 1) = m 101 i + sumN (gX m i) (j + 1)
    rw [hd.1.1, sumN_congr (fun q hq => hd.1.2.1 q (by omega))]
  · rw [if_neg hb, if_neg hb]
    show c (20 + 7 * i + 4) 0 + sumN (c (20 + 7 * i + 4 + 1)) (j + 1) = m 102 i + sumN (gY m i) (j + 1)
    rw [hd.2.1.1, sumN_congr (fun q hq => hd.2.1.2.1 q (by omega))]
/-! clashes -/
theorem e_sub0 {a b : Int32} : a - b = 0 ↔ b = a := by
  constructor
  · intro h
    grind
  · intro h
    grind
theorem RR.ahead {dn ln : Nat} {c m : eV} (h : RR dn ln c m) {i k : Nat} (hi : i < dn) (hk : k < 64) : cAhead c (20 + 7 * i + 1) k = mX m i k ∧ cAhead c (20 + 7 * i + 4) k = mY m i k := by
  have hd := h.2.1 i hi
  unfold cAhead
  by_cases g : 0 < k
  · obtain ⟨q, rfl⟩ : ∃ q, k = q + 1 := ⟨k - 1, by omega⟩
    rw [if_pos g, if_pos g]
    exact ⟨h.X hi (by omega), h.Y hi (by omega)⟩
  · obtain rfl : k = 0 := by omega
    rw [if_neg g, if_neg g, hd.1.1, hd.2.1.1]
    exact ⟨(Int32.add_zero _).symm, (Int32.add_zero _).symm⟩
theorem r_with {dn ln : Nat} {c m : eV} (h : RR dn ln c m) {i j k : Nat} (hi : i < dn) (hj : j < dn) (hk : k < 64) : cWith c (20 + 7 * i) (20 + 7 * j) k = mAt m i (k + 1) j (k + 1) := by
  unfold cWith mAt cWay
  simp only [e_sub0, h.X hi hk, h.X hj hk, h.Y hi hk, h.Y hj hk]
theorem r_pair {dn ln : Nat} {c m : eV} (h : RR dn ln c m) {i j k : Nat} (hi : i < dn) (hj : j < dn) (hk : k < 64) : cPair c i j k = mPair m i j k := by
  unfold cPair mPair cChange cTakesP
  rw [r_with h hi hj hk, (h.ahead hi hk).1, (h.ahead hi hk).2, (h.ahead hj hk).1, (h.ahead hj hk).2, h.X hi hk, h.X hj hk, h.Y hi hk, h.Y hj hk]
  rfl
theorem mAt_symm (v : eV) (d n e k : Nat) : mAt v d n e k = mAt v e k d n := by
  unfold mAt
  rw [show decide (mX v d n = mX v e k) = decide (mX v e k = mX v d n) from decide_eq_decide.mpr ⟨Eq.symm, Eq.symm⟩, show decide (mY v d n = mY v e k) = decide (mY v e k = mY v d n) from decide_eq_decide.mpr ⟨Eq.symm, Eq.symm⟩]
theorem mPair_symm (v : eV) (d e c : Nat) : mPair v d e c = mPair v e d c := by
  unfold mPair
  rw [mAt_symm v d (c + 1) e (c + 1), Bool.and_comm]
theorem cl_grow (c : eV) (k N : Nat) : ∀ n, n ≤ N → cClash c k (N + 1) n = cClash c k N n + sumN (fun i => bI (cPair c i N k)) n
  | 0, _ => by simp [cClash, sumN]
  | n + 1, h => by
    show cClash c k (N + 1) n + bI (cOff c (20 + 7 * n) k) + cPairs c k n (N + 1 - (n + 1)) = cClash c k N n + bI (cOff c (20 + 7 * n) k) + cPairs c k n (N - (n + 1)) + (sumN (fun i => bI (cPair c i N k)) n + bI (cPair c n N k))
    rw [cl_grow c k N n (by omega), show N + 1 - (n + 1) = (N - (n + 1)) + 1 by omega]
    have e : cPairs c k n (N - (n + 1) + 1) = cPairs c k n (N - (n + 1)) + bI (cPair c n N k) := by
      show sumN _ _ + bI (cPair c n (n + 1 + (N - (n + 1))) k) = _
      rw [show n + 1 + (N - (n + 1)) = N by omega]
      rfl
    rw [e]
    grind
theorem r_off {dn ln : Nat} {c m : eV} (h : RR dn ln c m) {i k : Nat} (hi : i < dn) (hk : k < 64) : bI (cOff c (20 + 7 * i) k) = mOffI m i k := by
  unfold cOff mOffI
  rw [h.X hi hk, h.Y hi hk, on_eq, on_eq]
  cases mIn (mX m i (k + 1)) 0 7 <;> cases mIn (mY m i (k + 1)) 0 7 <;> rfl
theorem r_clash {dn ln : Nat} {c m : eV} (h : RR dn ln c m) {k : Nat} (hk : k < 64) : ∀ N, N ≤ dn → cClash c k N N = mClash m k N
  | 0, _ => rfl
  | N + 1, hN => by
    show cClash c k (N + 1) N + bI (cOff c (20 + 7 * N) k) + cPairs c k N (N + 1 - (N + 1)) = mClash m k N + mOffI m N k + mPairs m k N N
    rw [cl_grow c k N N (Nat.le_refl _), r_clash h hk N (by omega), r_off h (by omega) hk, Nat.sub_self]
    have e : sumN (fun i => bI (cPair c i N k)) N = mPairs m k N N := by
      unfold mPairs
      refine sumN_congr (fun i hi => ?_)
      rw [r_pair h (by omega) (by omega) hk, mPair_symm]
    rw [e]
    show _ + (0 : Int32) = _
    grind
theorem r_clashesC (k : Int32) : cClashesC k = mClashesC k := by
  unfold cClashesC mClashesC
  rw [okC_eq]
theorem r_clashes {dn ln : Nat} {c m : eV} (h : RR dn ln c m) (k : Int32) (g : cClashesC k = 0) : cClash c (nN k) dn dn = mClashesV m dn k := by
  have g2 : ¬ 0 < mClashesC k := by rw [← r_clashesC, g]; decide
  obtain ⟨j, hj, rfl⟩ := e_okC (mClashesC_ok g2)
  unfold mClashesV
  rw [if_neg g2, nN_of (x := nI j) rfl (by omega)]
  exact r_clash h hj dn (Nat.le_refl _)
theorem r_first {dn ln : Nat} {c m : eV} (h : RR dn ln c m) : cFirst c dn = mFirst m dn := by
  unfold cFirst mFirst
  refine firstN_congr 64 0 (fun j h1 h2 => ?_)
  rw [r_clash h (by omega) dn (Nat.le_refl _)]
/-! tempo, begins -/
theorem e_pos0 {x : Int32} (h : ¬ x < 0) : 0 < x ↔ ¬ x = 0 := by
  constructor
  · intro g e
    subst e
    exact absurd g (by decide)
  · intro g
    rcases Int32.lt_or_le x 0 with q | q
    · exact absurd q h
    · exact Int32.lt_of_le_of_ne q (fun e => g e.symm)
theorem r_last {c m : eV} (h : oRel c m) : ∀ n, n < 64 → cLast c n = mLast m (n + 1)
  | 0, _ => h.1
  | n + 1, hn => by
    show (if c 3 (n + 1) = 0 then cLast c n else c 3 (n + 1)) = (if 0 < m 112 (n + 1) then m 112 (n + 1) else mLast m (n + 1))
    rw [h.2.1 (n + 1) (by omega) hn, r_last h n (by omega)]
    by_cases g : m 112 (n + 1) = 0
    · rw [if_pos g, if_neg (by rw [g]; decide)]
    · rw [if_neg g, if_pos ((e_pos0 (h.2.2 _ hn)).mpr g)]
theorem r_up {c m : eV} (h : oRel c m) : ∀ n, n ≤ 64 → cUp c n = mLast m n
  | 0, _ => rfl
  | 1, _ => by
    show (if c 3 0 = 0 then 500 else c 3 0) = (if 0 < m 112 0 then m 112 0 else 500)
    rw [h.1]
    by_cases g : 0 < m 112 0
    · rw [if_pos g, if_neg (fun e => absurd g (by rw [e]; decide))]
    · rw [if_neg g, if_neg (by decide)]
  | n + 2, hn => by
    show (if c 3 (n + 1) = 0 then cUp c (n + 1) else c 3 (n + 1)) = (if 0 < m 112 (n + 1) then m 112 (n + 1) else mLast m (n + 1))
    rw [h.2.1 (n + 1) (by omega) (by omega), r_up h (n + 1) (by omega)]
    by_cases g : m 112 (n + 1) = 0
    · rw [if_pos g, if_neg (by rw [g]; decide)]
    · rw [if_neg g, if_pos ((e_pos0 (h.2.2 _ (by omega))).mpr g)]
theorem r_sum {c m : eV} (h : oRel c m) : ∀ n, n ≤ 64 → cSum c n = mSum m n
  | 0, _ => rfl
  | n + 1, hn => by
    show cSum c n + (cUp c (n + 1)).toInt64 = mSum m n + (mLast m (n + 1)).toInt64
    rw [r_sum h n (by omega), r_up h (n + 1) hn]
theorem r_beginsC {dn ln : Nat} {c m : eV} (h : RR dn ln c m) (k : Int32) : cBeginsC c k = mBeginsC m k := by
  unfold cBeginsC mBeginsC
  rw [okC_eq]
  by_cases g : mOkC k = true
  · obtain ⟨j, hj, rfl⟩ := e_okC g
    rw [nN_of (x := nI j) rfl (by omega), r_sum h.2.2.2.2.2.1 j (by omega)]
  · rw [if_neg g, if_neg g]
theorem r_begins {dn ln : Nat} {c m : eV} (h : RR dn ln c m) (k : Int32) (g : cBeginsC c k = 0) : (cSum c (nN k)).toInt32 = mBeginsV m k := by
  have g2 : ¬ 0 < mBeginsC m k := by rw [← r_beginsC h, g]; decide
  obtain ⟨j, hj, rfl⟩ := e_okC (mBeginsC_ok g2)
  unfold mBeginsV
  rw [if_neg g2, nN_of (x := nI j) rfl (by omega), r_sum h.2.2.2.2.2.1 j (by omega)]
theorem r_tempoC (k x : Int32) : cTempoC k x = mTempoC k x := by
  unfold cTempoC mTempoC
  rw [okC_eq]
theorem r_tempo {dn ln : Nat} {c m : eV} (h : RR dn ln c m) (k x : Int32) (g : cTempoC k x = 0) : cLast c (nN k) = mTempoV m k x ∧ RR dn ln (e_set c 3 (nN k) x) (mTempoS m k x) := by
  have g2 : ¬ 0 < mTempoC k x := by rw [← r_tempoC, g]; decide
  have g3 : mIn x 1 1000000000 = true := by
    by_cases q : mIn x 1 1000000000 = true
    · exact q
    · rw [r_tempoC] at g
      unfold mTempoC at g
      rw [if_pos (mTempoC_ok g2), if_neg q] at g
      exact absurd g (by decide)
  obtain ⟨j, hj, rfl⟩ := e_okC (mTempoC_ok g2)
  unfold mTempoV mTempoS
  rw [if_neg g2, if_neg g2, nN_of (x := nI j) rfl (by omega)]
  have h6 := h.2.2.2.2.2.1
  refine ⟨r_last h6 j hj, ?_⟩
  have hx0 : ¬ x < 1 := by
    unfold mIn at g3
    simp only [Bool.and_eq_true, Bool.not_eq_true', decide_eq_false_iff_not] at g3
    exact g3.1
  have hx : 0 < x := Int32.lt_of_lt_of_le (by decide) (Int32.not_lt.mp hx0)
  obtain ⟨h1, h2, h3, h4, h5, -, h7, h8⟩ := h.T (mTempoC (nI j) x)
  refine ⟨h1, fun i hi => ((h2 i hi).c (fun q hq => es_ne (by omega))).m (fun n a b => es_ne (by omega)), fun i a b => (h3 i a b).m (fun n a b => es_ne (by omega)), fun l hl => ((h4 l hl).c (es_ne (by omega))).m (fun n a b => es_ne (by omega)), h5, ⟨?_, fun q q1 q2 => ?_, fun q q2 => ?_⟩, h7.cm (fun r hr => es_ne (by omega)) (es_ne (by decide)), h8⟩
  · rw [es_eq, es_eq]
    show upd (c 3) j x 0 = if 0 < upd (m 112) j x 0 then upd (m 112) j x 0 else 500
    unfold upd
    by_cases e : 0 = j
    · rw [if_pos e, if_pos e, if_pos hx]
    · rw [if_neg e, if_neg e]
      exact h6.1
  · rw [es_eq, es_eq]
    show upd (c 3) j x q = upd (m 112) j x q
    unfold upd
    by_cases e : q = j
    · rw [if_pos e, if_pos e]
    · rw [if_neg e, if_neg e]
      exact h6.2.1 q q1 q2
  · rw [es_eq]
    show ¬ upd (m 112) j x q < 0
    unfold upd
    by_cases e : q = j
    · rw [if_pos e]
      exact Int32.not_lt.mpr (Int32.le_of_lt hx)
    · rw [if_neg e]
      exact h6.2.2 q q2
/-! rehearsal, knees -/
theorem r_rehearsalC (r h : Int32) : cRehearsalC r h = mRehearsalC r h := by
  unfold cRehearsalC mRehearsalC
  rw [okR_eq, okH_eq]
theorem r_rehearsal {dn ln : Nat} {c m : eV} (h : RR dn ln c m) (r k : Int32) (g : cRehearsalC r k = 0) : c (5 + nN r) (nN k - 8) = mRehearsalV m r k := by
  have g2 : ¬ 0 < mRehearsalC r k := by rw [← r_rehearsalC, g]; decide
  obtain ⟨o1, o2⟩ := mRehearsalC_ok g2
  obtain ⟨i, -, hi, rfl⟩ := e_okR (lo := 0) (hi := 2) (by decide) (by decide) rfl (by decide) o1
  obtain ⟨j, hj, hj2, rfl⟩ := e_okR (lo := 8) (hi := 20) (by decide) (by decide) rfl (by decide) o2
  unfold mRehearsalV
  rw [if_neg g2, nN_of (x := nI i) rfl (by omega), nN_of (x := nI j) rfl (by omega), (h.2.2.2.2.2.2.1 i (by omega) (j - 8) (by omega)).1, show 13 * i + (j - 8) = 13 * i + j - 8 by omega]
theorem r_kneesC {dn ln : Nat} {c m : eV} (h : RR dn ln c m) (d : Int32) : cKneesC dn d = mKneesC dn d := by
  unfold cKneesC mKneesC
  rw [okN_eq (by have := h.d8; omega)]
theorem r_knees {dn ln : Nat} {c m : eV} (h : RR dn ln c m) (d : Int32) (g : cKneesC dn d = 0) : c (20 + 7 * nN d) 2 = mKneesV m dn d := by
  have g2 : ¬ 0 < mKneesC dn d := by rw [← r_kneesC h, g]; decide
  obtain ⟨i, hi, rfl⟩ := e_okD h.d8 (mKneesC_ok g2)
  have := h.d8
  unfold mKneesV
  rw [if_neg g2, nN_of (x := nI i) rfl (by omega)]
  exact (h.2.1 i hi).2.2.2.2.1

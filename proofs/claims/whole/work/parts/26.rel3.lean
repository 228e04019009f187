/-! small numbers -/
theorem i_add {a b : Int32} (h1 : -2147483648 ≤ a.toInt + b.toInt) (h2 : a.toInt + b.toInt ≤ 2147483647) : (a + b).toInt = a.toInt + b.toInt := by
  rw [Int32.toInt_add]
  exact Int.bmod_eq_of_le (by omega) (by omega)
theorem i_sub {a b : Int32} (h1 : -2147483648 ≤ a.toInt - b.toInt) (h2 : a.toInt - b.toInt ≤ 2147483647) : (a - b).toInt = a.toInt - b.toInt := by
  rw [Int32.toInt_sub]
  exact Int.bmod_eq_of_le (by omega) (by omega)
theorem i_mul {a b : Int32} (h1 : -2147483648 ≤ a.toInt * b.toInt) (h2 : a.toInt * b.toInt ≤ 2147483647) : (a * b).toInt = a.toInt * b.toInt := by
  rw [Int32.toInt_mul]
  exact Int.bmod_eq_of_le (by omega) (by omega)
theorem mIn_int {x lo hi : Int32} : mIn x lo hi = true ↔ lo.toInt ≤ x.toInt ∧ x.toInt ≤ hi.toInt := by
  unfold mIn
  simp only [Bool.and_eq_true, Bool.not_eq_true', decide_eq_false_iff_not, Int32.lt_iff_toInt_lt]
  omega
theorem mIn_2 {x : Int32} : mIn x (-2) 2 = true ↔ -2 ≤ x.toInt ∧ x.toInt ≤ 2 := mIn_int
theorem sumN_bd {g : Nat → Int32} {A B : Int} (hA : -1000 ≤ A) (hA0 : A ≤ 0) (hB : B ≤ 1000) (hB0 : 0 ≤ B) : ∀ n, n ≤ 1000 → (∀ j, j < n → A ≤ (g j).toInt ∧ (g j).toInt ≤ B) → A * n ≤ (sumN g n).toInt ∧ (sumN g n).toInt ≤ B * n
  | 0, _, _ => by
    show A * 0 ≤ (0 : Int32).toInt ∧ (0 : Int32).toInt ≤ B * 0
    rw [Int.mul_zero, Int.mul_zero]
    exact ⟨by decide, by decide⟩
  | n + 1, hn, h => by
    obtain ⟨i1, i2⟩ := sumN_bd (g := g) hA hA0 hB hB0 n (by omega) (fun j hj => h j (by omega))
    obtain ⟨j1, j2⟩ := h n (by omega)
    have q1 : -1000 * (n : Int) ≤ A * n := Int.mul_le_mul_of_nonneg_right hA (by omega)
    have q2 : B * (n : Int) ≤ 1000 * n := Int.mul_le_mul_of_nonneg_right hB (by omega)
    have e1 : A * ((n + 1 : Nat) : Int) = A * n + A := by rw [Int.natCast_succ, Int.mul_add, Int.mul_one]
    have e2 : B * ((n + 1 : Nat) : Int) = B * n + B := by rw [Int.natCast_succ, Int.mul_add, Int.mul_one]
    rw [e1, e2]
    show _ ≤ (sumN g n + g n).toInt ∧ (sumN g n + g n).toInt ≤ _
    generalize A * (n : Int) = a at *
    generalize B * (n : Int) = b at *
    rw [i_add (by omega) (by omega)]
    omega
theorem tRel.bd {c : eV} {t : Nat} {f : Int32} {g : Nat → Int32} (h : tRel c t f g) {n : Nat} (hn : n ≤ 64) : -128 ≤ (f + sumN g n).toInt ∧ (f + sumN g n).toInt ≤ 135 := by
  obtain ⟨-, -, -, h4, h5⟩ := h
  obtain ⟨a1, a2⟩ := mIn_int.mp h4
  obtain ⟨b1, b2⟩ := sumN_bd (g := g) (A := -2) (B := 2) (by decide) (by decide) (by decide) (by decide) n (by omega) (fun j hj => mIn_2.mp (h5 j (by omega)))
  have e0 : (0 : Int32).toInt = 0 := by decide
  have e7 : (7 : Int32).toInt = 7 := by decide
  rw [e0] at a1
  rw [e7] at a2
  rw [i_add (by omega) (by omega)]
  omega
theorem RR.bX {dn ln : Nat} {c m : eV} (h : RR dn ln c m) {i n : Nat} (hi : i < dn) (hn : n ≤ 64) : -128 ≤ (mX m i n).toInt ∧ (mX m i n).toInt ≤ 135 := (h.2.1 i hi).1.bd hn
theorem RR.bY {dn ln : Nat} {c m : eV} (h : RR dn ln c m) {i n : Nat} (hi : i < dn) (hn : n ≤ 64) : -128 ≤ (mY m i n).toInt ∧ (mY m i n).toInt ≤ 135 := (h.2.1 i hi).2.1.bd hn
theorem flat_int {x : Int32} (h1 : -100000 ≤ x.toInt) (h2 : x.toInt ≤ 100000) : (mFlat x).toInt = if x.toInt < 0 then -x.toInt else x.toInt := by
  unfold mFlat
  have e0 : (0 : Int32).toInt = 0 := by decide
  by_cases g : x < 0
  · rw [if_pos g]
    rw [Int32.lt_iff_toInt_lt, e0] at g
    rw [if_pos g, Int32.toInt_neg]
    exact Int.bmod_eq_of_le (by omega) (by omega)
  · rw [if_neg g]
    rw [Int32.lt_iff_toInt_lt, e0] at g
    rw [if_neg g]
theorem flat_in {a b : Int32} (a1 : -128 ≤ a.toInt ∧ a.toInt ≤ 135) (b1 : -128 ≤ b.toInt ∧ b.toInt ≤ 135) : (!decide (1 < mFlat (b - a))) = mIn (a - b) (-1) 1 := by
  have ea := i_sub (a := a) (b := b) (by omega) (by omega)
  have eb := i_sub (a := b) (b := a) (by omega) (by omega)
  have ef := flat_int (x := b - a) (by omega) (by omega)
  rw [eb] at ef
  have e1 : (1 : Int32).toInt = 1 := by decide
  have e2 : (-1 : Int32).toInt = -1 := by decide
  have q : mIn (a - b) (-1) 1 = true ↔ ¬ 1 < mFlat (b - a) := by
    rw [mIn_int, ea, Int32.lt_iff_toInt_lt, ef, e1, e2]
    split <;> omega
  by_cases g : 1 < mFlat (b - a)
  · rw [decide_eq_true g]
    have : ¬ mIn (a - b) (-1) 1 = true := fun z => q.mp z g
    exact (Bool.eq_false_iff.mpr this).symm
  · rw [decide_eq_false g]
    exact (q.mpr g).symm
theorem r_beside {dn ln : Nat} {c m : eV} (h : RR dn ln c m) {i j k : Nat} (hi : i < dn) (hj : j < dn) (hk : k < 64) : cBeside c (20 + 7 * i) (20 + 7 * j) k = mBeside m i j k := by
  unfold cBeside mBeside
  rw [r_with h hi hj hk]
  unfold cWay
  rw [h.X hi hk, h.X hj hk, h.Y hi hk, h.Y hj hk, flat_in (h.bX hi (by omega)) (h.bX hj (by omega)), flat_in (h.bY hi (by omega)) (h.bY hj (by omega))]
/-! lifts: what one is told -/
theorem RR.o01 {dn ln : Nat} {c m : eV} (h : RR dn ln c m) {i : Nat} (hi : i < dn) : m 103 i = 0 ∨ m 103 i = 1 := (h.2.1 i hi).2.2.2.1
theorem RR.out0 {dn ln : Nat} {c m : eV} (h : RR dn ln c m) {i : Nat} (hi : i < dn) : (!cOut c i) = decide (m 103 i = 0) := by
  rw [h.out hi]
  rcases h.o01 hi with e | e <;> rw [e] <;> decide
theorem out_sum {a b c : Int32} (ha : a = 0 ∨ a = 1) (hb : b = 0 ∨ b = 1) (hc : c = 0 ∨ c = 1) : decide (a + b + c = 0) = (decide (a = 0) && decide (b = 0) && decide (c = 0)) := by
  rcases ha with rfl | rfl <;> rcases hb with rfl | rfl <;> rcases hc with rfl | rfl <;> decide
theorem out_sum2 {a b c : Int32} (ha : a = 0 ∨ a = 1) (hb : b = 0 ∨ b = 1) (hc : c = 0 ∨ c = 1) : decide (0 < a + b + c) = (decide (a = 1) || decide (b = 1) || decide (c = 1)) := by
  rcases ha with rfl | rfl <;> rcases hb with rfl | rfl <;> rcases hc with rfl | rfl <;> decide
theorem b8 (a1 a2 a3 b1 b2 b3 g1 g2 : Bool) : (a1 && b1 && (a2 && b2) && (a3 && b3) && g1 && g2) = (g1 && g2 && (b1 && b2 && b3) && (a1 && a2 && a3)) := by
  cases a1 <;> cases a2 <;> cases a3 <;> cases b1 <;> cases b2 <;> cases b3 <;> cases g1 <;> cases g2 <;> rfl
theorem r_stands {dn ln : Nat} {c m : eV} (h : RR dn ln c m) {l k dl da db : Nat} (hl : l < ln) (hk : k < 64) (hdl : dl < dn) (hda : da < dn) (hdb : db < dn) (e0 : c (80 + l) 0 = nI k) : cStands c l k dl da db ln = mStands m l k dl da db ln := by
  unfold cStands mStands cFree cBesL
  rw [e0, r_liftsOf h _ hk, r_liftsOf h _ hk, r_liftsOf h _ hk, r_beside h hda hdl hk, r_beside h hdb hdl hk, h.out0 hdl, h.out0 hda, h.out0 hdb, out_sum (h.o01 hdl) (h.o01 hda) (h.o01 hdb)]
  exact b8 ..
theorem r_ofLiftC {dn ln : Nat} {c m : eV} (h : RR dn ln c m) (l x : Int32) : cOfLiftC ln l x = mOfLiftC ln l x := by
  unfold cOfLiftC mOfLiftC
  rw [okN_eq (by have := h.l12; omega), ok5_eq]
theorem r_ofLift {dn ln : Nat} {c m : eV} (h : RR dn ln c m) (l x : Int32) (g : cOfLiftC ln l x = 0) : cOfLiftV c ln l x = mOfLiftV m ln l x := by
  have g2 : ¬ 0 < mOfLiftC ln l x := by rw [← r_ofLiftC h, g]; decide
  obtain ⟨o1, o2⟩ := mOfLiftC_ok g2
  obtain ⟨i, hi, rfl⟩ := e_okL h.l12 o1
  have := h.l12
  have h8 := h.d8
  obtain ⟨k, dl, da, db, hk, hdl, hda, hdb, e1, e2, e3, e4, f1, f2, f3, f4⟩ := h.lift hi
  unfold cOfLiftV mOfLiftV cState mLiftState
  rw [if_neg g2, nN_of (x := nI i) rfl (by omega), f1, f2, f3, f4, e1, e2, e3, e4, nN_of (x := nI k) rfl (by omega), nN_of (x := nI dl) rfl (by omega), nN_of (x := nI da) rfl (by omega), nN_of (x := nI db) rfl (by omega), r_stands h hi hk hdl hda hdb f1]
  have hL := h.2.2.2.1 i hi
  rw [hL.2.2.2.2.1]
  rcases hL.2.2.2.2.2.1 with e | e <;> rw [e]
  · rw [if_pos rfl, if_neg (show ¬ (0 : Int32) = 1 by decide)]
  · rw [if_neg (show ¬ (1 : Int32) = 0 by decide), if_pos rfl]
theorem r_liftC {dn ln : Nat} {c m : eV} (h : RR dn ln c m) (k d a b : Int32) : cLiftC c dn ln k d a b = mLiftC m dn ln k d a b := by
  have h8 := h.d8
  have h12 := h.l12
  unfold cLiftC mLiftC mLiftB
  rw [okC_eq, okN_eq (by omega), okN_eq (by omega), okN_eq (by omega)]
  show (if mLiftT dn k d a b = true then _ else _) = _
  by_cases g : mLiftT dn k d a b = true
  · obtain ⟨-, o2, o3, o4⟩ := mLiftT_ok g
    obtain ⟨i1, hi1, rfl⟩ := e_okD h8 o2
    obtain ⟨i2, hi2, rfl⟩ := e_okD h8 o3
    obtain ⟨i3, hi3, rfl⟩ := e_okD h8 o4
    rw [if_pos g, if_pos g, g, nN_of (x := nI i1) rfl (by omega), nN_of (x := nI i2) rfl (by omega), nN_of (x := nI i3) rfl (by omega), h.out hi1, h.out hi2, h.out hi3, out_sum2 (h.o01 hi1) (h.o01 hi2) (h.o01 hi3), Bool.true_and]
    have e : (!decide (ln < 12)) = decide (ln = 12) := by
      by_cases q : ln = 12
      · subst q; rfl
      · rw [decide_eq_true (p := ln < 12) (by omega), decide_eq_false q]; rfl
    rw [e]
  · rw [if_neg g, if_neg g]
/-- what the class holds behind a lift that is written -/
def cLifted (c c' : eV) (ln : Nat) (k d a b : Int32) : Prop := (∀ n, n < 100 → n ≠ 80 + ln → n ≠ 1 → n ≠ 2 → n ≠ 9 → n ≠ 10 → c' n = c n) ∧ c' (80 + ln) 0 = k ∧ c' (80 + ln) 1 = d ∧ c' (80 + ln) 2 = a ∧ c' (80 + ln) 3 = b ∧ c' (80 + ln) 4 = 0
theorem upd_eq {f : Nat → Int32} {k : Nat} {x : Int32} : upd f k x k = x := if_pos rfl
theorem upd_ne {f : Nat → Int32} {k j : Nat} {x : Int32} (h : j ≠ k) : upd f k x j = f j := if_neg h
theorem r_lift {dn ln : Nat} {c m c' : eV} (h : RR dn ln c m) (k d a b : Int32) (g : cLiftC c dn ln k d a b = 0) (hc : cLifted c c' ln k d a b) : nI ln = mLiftV m dn ln k d a b ∧ RR dn (ln + 1) c' (mLiftS m dn ln k d a b) := by
  have e0 := g
  rw [r_liftC h] at e0
  have g2 : ¬ 0 < mLiftC m dn ln k d a b := by rw [e0]; decide
  obtain ⟨o1, o2⟩ := mLiftC_ok g2
  have hab : a ≠ b := by
    intro e
    unfold mLiftC at e0
    rw [if_pos o2, if_pos (by rw [decide_eq_true e]; simp)] at e0
    exact absurd e0 (by decide)
  obtain ⟨p1, p2, p3, p4⟩ := mLiftT_ok o2
  have h12 := h.l12
  have h8 := h.d8
  obtain ⟨k0, hk0, rfl⟩ := e_okC p1
  obtain ⟨d0, hd0, rfl⟩ := e_okD h8 p2
  obtain ⟨a0, ha0, rfl⟩ := e_okD h8 p3
  obtain ⟨b0, hb0, rfl⟩ := e_okD h8 p4
  unfold mLiftV mLiftS
  rw [if_neg g2, if_neg g2]
  refine ⟨rfl, ?_⟩
  generalize mLiftC m dn ln (nI k0) (nI d0) (nI a0) (nI b0) = w
  obtain ⟨c1, c2, c3, c4, c5, c6⟩ := hc
  obtain ⟨h1, h2, h3, h4, h5, h6, h7, h9⟩ := h.T w
  have hz : mT m w 111 ln = 0 := h5 ln (Nat.le_refl _) (by omega)
  obtain ⟨a1, a2, a3, a4, a5, a6, a7, a8⟩ := h1
  have hup : ∀ {P : Int32 → Prop} {f : Nat → Int32} {x : Int32}, (∀ i, i < ln → P (f i)) → P x → ∀ i, i < ln + 1 → P (upd f ln x i) := fun {P f x} q1 q2 i hi => by
    by_cases e : i = ln
    · subst e; rw [upd_eq]; exact q2
    · rw [upd_ne e]; exact q1 i (by omega)
  refine ⟨⟨a1, rfl, a3, by omega, hup (P := fun y => ∃ c, c < 64 ∧ y = nI c) a5 ⟨k0, hk0, rfl⟩, hup (P := fun y => ∃ c, c < dn ∧ y = nI c) a6 ⟨d0, hd0, rfl⟩, hup (P := fun y => ∃ c, c < dn ∧ y = nI c) a7 ⟨a0, ha0, rfl⟩, hup (P := fun y => ∃ c, c < dn ∧ y = nI c) a8 ⟨b0, hb0, rfl⟩⟩, fun i hi => ((h2 i hi).c (fun q hq => c1 _ (by omega) (by omega) (by omega) (by omega) (by omega) (by omega))).m (fun n q1 q2 => ?_), fun i q1 q2 => (h3 i q1 q2).m (fun n q1 q2 => ?_), fun l hl => ?_, fun l q1 q2 => h5 l (by omega) q2, h6.cm (c1 3 (by decide) (by omega) (by decide) (by decide) (by decide) (by decide)) rfl, h7.cm (fun r hr => c1 _ (by omega) (by omega) (by omega) (by omega) (by omega) (by omega)) rfl, by rw [c1 0 (by decide) (by omega) (by decide) (by decide) (by decide) (by decide)]; exact h9⟩
  · rw [es_ne (by omega), es_ne (by omega), es_ne (by omega), es_ne (by omega), es_ne (by omega)]
  · rw [es_ne (by omega), es_ne (by omega), es_ne (by omega), es_ne (by omega), es_ne (by omega)]
  · by_cases e : l = ln
    · subst e
      exact ⟨c2.trans upd_eq.symm, c3.trans upd_eq.symm, c4.trans upd_eq.symm, c5.trans upd_eq.symm, c6.trans hz.symm, Or.inl hz, by show upd _ _ _ _ ≠ upd _ _ _ _; rw [upd_eq, upd_eq]; exact hab⟩
    · have hL := (h4 l (by omega)).c (c1 (80 + l) (by omega) (by omega) (by omega) (by omega) (by omega) (by omega))
      obtain ⟨b1, b2, b3, b4, b5, b6, b7⟩ := hL
      exact ⟨b1.trans (upd_ne e).symm, b2.trans (upd_ne e).symm, b3.trans (upd_ne e).symm, b4.trans (upd_ne e).symm, b5, b6, by show upd _ _ _ _ ≠ upd _ _ _ _; rw [upd_ne e, upd_ne e]; exact b7⟩

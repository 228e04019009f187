/-! addresses for what a call will make -/
theorem fr_d {X : eD} {z0 t0 b i a0 : Nat} {ad : Nat → Nat} {dn ln : Nat} {v : eV} {H : Heap} {ls : Array Slot} (h8 : dn ≤ 8) (h12 : ln ≤ 12) (hP : e_P X ad (KD dn ln) (SP dn ln) v H) (hI : e_I z0 ad (KD dn ln)) (h11 : ad 11 = t0) (hl : lv_has ls 7 (lLoc ad b i)) : ∃ ad' : Nat → Nat, e_P X ad' (KD dn ln) (SP dn ln) v H ∧ e_I z0 ad' (KD dn ln) ∧ ad' 11 = t0 ∧ lv_has ls 7 (lLoc ad' b i) ∧ (dn < 8 → ∀ k, k < 7 → ad' (20 + 7 * dn + k) = a0 + k) ∧ (dn = 0 → ad' 8 = a0 + 7) := by
  have q1 : ∀ q, KD dn ln q ≠ 0 → (fun q => if 20 + 7 * dn ≤ q ∧ q < 80 then a0 + (q - (20 + 7 * dn)) else if dn = 0 ∧ q = 8 then a0 + 7 else ad q) q = ad q := fun q hq => by
    show (if 20 + 7 * dn ≤ q ∧ q < 80 then a0 + (q - (20 + 7 * dn)) else if dn = 0 ∧ q = 8 then a0 + 7 else ad q) = ad q
    rw [if_neg (fun z => hq (KD_d0 h8 z.1 z.2)), if_neg (fun z => by
      obtain ⟨rfl, rfl⟩ := z
      exact hq rfl)]
  have q2 : (fun q => if 20 + 7 * dn ≤ q ∧ q < 80 then a0 + (q - (20 + 7 * dn)) else if dn = 0 ∧ q = 8 then a0 + 7 else ad q) 11 = ad 11 := by
    show (if 20 + 7 * dn ≤ 11 ∧ 11 < 80 then a0 + (11 - (20 + 7 * dn)) else if dn = 0 ∧ 11 = 8 then a0 + 7 else ad 11) = ad 11
    rw [if_neg (by omega), if_neg (by omega)]
  obtain ⟨p1, p2⟩ := e_P.ad h8 h12 hP hI q1 q2
  have m := KD_mK (dn := dn) (ln := ln)
  refine ⟨_, p1, p2, q2.trans h11, ?_, fun g k hk => ?_, fun g => ?_⟩
  · unfold lLoc
    rw [q1 0 (show (5 : Nat) ≠ 0 by decide), q1 100 (by rw [m 100 (by decide) (by decide)]; decide), q1 120 (show (17 : Nat) ≠ 0 by decide)]
    exact hl
  · show (if 20 + 7 * dn ≤ 20 + 7 * dn + k ∧ 20 + 7 * dn + k < 80 then a0 + (20 + 7 * dn + k - (20 + 7 * dn)) else _) = a0 + k
    rw [if_pos (by omega)]
    omega
  · show (if 20 + 7 * dn ≤ 8 ∧ 8 < 80 then _ else if dn = 0 ∧ 8 = 8 then a0 + 7 else ad 8) = a0 + 7
    rw [if_neg (by omega), if_pos ⟨g, rfl⟩]
theorem fr_l {X : eD} {z0 t0 b i a0 : Nat} {ad : Nat → Nat} {dn ln : Nat} {v : eV} {H : Heap} {ls : Array Slot} (h8 : dn ≤ 8) (h12 : ln ≤ 12) (hP : e_P X ad (KD dn ln) (SP dn ln) v H) (hI : e_I z0 ad (KD dn ln)) (h11 : ad 11 = t0) (hl : lv_has ls 7 (lLoc ad b i)) : ∃ ad' : Nat → Nat, e_P X ad' (KD dn ln) (SP dn ln) v H ∧ e_I z0 ad' (KD dn ln) ∧ ad' 11 = t0 ∧ lv_has ls 7 (lLoc ad' b i) ∧ ad' (80 + ln) = a0 ∧ (ln = 0 → ad' 9 = a0 + 1) ∧ (ln = 10 → ad' 10 = a0 + 1) := by
  have q1 : ∀ q, KD dn ln q ≠ 0 → (fun q => if q = 80 + ln then a0 else if ln = 0 ∧ q = 9 then a0 + 1 else if ln = 10 ∧ q = 10 then a0 + 1 else ad q) q = ad q := fun q hq => by
    show (if q = 80 + ln then a0 else if ln = 0 ∧ q = 9 then a0 + 1 else if ln = 10 ∧ q = 10 then a0 + 1 else ad q) = ad q
    rw [if_neg (fun z => hq (KD_l0 (by omega) (by omega))), if_neg (fun z => by
      obtain ⟨rfl, rfl⟩ := z
      exact hq rfl), if_neg (fun z => by
      obtain ⟨rfl, rfl⟩ := z
      exact hq rfl)]
  have q2 : (fun q => if q = 80 + ln then a0 else if ln = 0 ∧ q = 9 then a0 + 1 else if ln = 10 ∧ q = 10 then a0 + 1 else ad q) 11 = ad 11 := by
    show (if 11 = 80 + ln then a0 else if ln = 0 ∧ 11 = 9 then a0 + 1 else if ln = 10 ∧ 11 = 10 then a0 + 1 else ad 11) = ad 11
    rw [if_neg (by omega), if_neg (by omega), if_neg (by omega)]
  obtain ⟨p1, p2⟩ := e_P.ad h8 h12 hP hI q1 q2
  have m := KD_mK (dn := dn) (ln := ln)
  refine ⟨_, p1, p2, q2.trans h11, ?_, ?_, fun g => ?_, fun g => ?_⟩
  · unfold lLoc
    rw [q1 0 (show (5 : Nat) ≠ 0 by decide), q1 100 (by rw [m 100 (by decide) (by decide)]; decide), q1 120 (show (17 : Nat) ≠ 0 by decide)]
    exact hl
  · show (if 80 + ln = 80 + ln then a0 else _) = a0
    rw [if_pos rfl]
  · show (if 9 = 80 + ln then a0 else if ln = 0 ∧ 9 = 9 then a0 + 1 else _) = a0 + 1
    rw [if_neg (by omega), if_pos ⟨g, rfl⟩]
  · show (if 10 = 80 + ln then a0 else if ln = 0 ∧ 10 = 9 then a0 + 1 else if ln = 10 ∧ 10 = 10 then a0 + 1 else _) = a0 + 1
    rw [if_neg (by omega), if_neg (by omega), if_pos ⟨g, rfl⟩]
theorem dc_lt {dn ln : Nat} {v : eV} (h : RR dn ln v v) {x y : Int32} (g : cDancerC v dn x y = 0) : dn < 8 := by
  have g2 : ¬ 0 < mDancerC v dn x y := by rw [← r_dancerC h, g]; decide
  have := mDancerC_ok g2
  have := h.d8
  omega
theorem lc_lt {dn ln : Nat} {v : eV} (h : RR dn ln v v) {k d a b : Int32} (g : cLiftC v dn ln k d a b = 0) : ln < 12 := by
  have g2 : ¬ 0 < mLiftC v dn ln k d a b := by rw [← r_liftC h, g]; decide
  have := (mLiftC_ok g2).1
  have := h.l12
  omega

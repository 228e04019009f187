/-! THE WORLD between two calls of the law: its kinds KD and sizes SP, by the numbers of dancers and lifts -/
def kdD : Nat → Nat
  | 0 => 1 | 1 => 2 | 2 => 84 | 3 => 84 | 4 => 2 | 5 => 84 | 6 => 84 | _ => 0
def kd1 (dn ln : Nat) : Nat → Nat
  | 0 => 5 | 1 => 6 | 2 => 8 | 3 => 84 | 4 => 10 | 5 => 33 | 6 => 33 | 7 => 33
  | 8 => if 0 < dn then 7 else 0
  | 9 => if 0 < ln ∧ ln ≤ 10 then 9 else 0
  | 10 => if 10 < ln then 9 else 0
  | _ => 0
def KD (dn ln n : Nat) : Nat :=
  if n < 20 then kd1 dn ln n else if n < 80 then (if n < 20 + 7 * dn then kdD ((n - 20) % 7) else 0) else if n < 100 then (if n < 80 + ln then 4 else 0) else if n < 114 then mkd n else if n = 120 then 17 else 0
def SP (dn ln : Nat) : Nat → Nat
  | 0 => dn | 1 => ln | 2 => 10
  | 3 => if ln ≤ 10 then 10 else 15
  | 4 => 15
  | 5 => if 0 < dn then 8 else 11
  | 6 => if ln = 0 then 11 else if ln ≤ 10 then 9 else 10
  | 7 => dn | 8 => ln
  | 9 => if ln ≤ 10 then 0 else 10
  | _ => 0
theorem KD_low {dn ln n : Nat} (h : n < 20) : KD dn ln n = kd1 dn ln n := if_pos h
theorem KD_d {dn ln i k : Nat} (h8 : dn ≤ 8) (hi : i < dn) (hk : k < 7) : KD dn ln (20 + 7 * i + k) = kdD k := by
  unfold KD
  rw [if_neg (by omega), if_pos (by omega), if_pos (by omega), show (20 + 7 * i + k - 20) % 7 = k by omega]
theorem KD_d0 {dn ln n : Nat} (h8 : dn ≤ 8) (h1 : 20 + 7 * dn ≤ n) (h2 : n < 80) : KD dn ln n = 0 := by
  unfold KD
  rw [if_neg (by omega), if_pos (by omega), if_neg (by omega)]
theorem KD_l {dn ln i : Nat} (h12 : ln ≤ 12) (hi : i < ln) : KD dn ln (80 + i) = 4 := by
  unfold KD
  rw [if_neg (by omega), if_neg (by omega), if_pos (by omega), if_pos (by omega)]
theorem KD_l0 {dn ln n : Nat} (h1 : 80 + ln ≤ n) (h2 : n < 100) : KD dn ln n = 0 := by
  unfold KD
  rw [if_neg (by omega), if_neg (by omega), if_pos (by omega), if_neg (by omega)]
theorem KD_m {dn ln n : Nat} (h1 : 100 ≤ n) (h2 : n < 114) : KD dn ln n = mkd n := by
  unfold KD
  rw [if_neg (by omega), if_neg (by omega), if_neg (by omega), if_pos h2]
theorem KD_hi {dn ln n : Nat} (h1 : 114 ≤ n) : KD dn ln n = if n = 120 then 17 else 0 := by
  unfold KD
  rw [if_neg (by omega), if_neg (by omega), if_neg (by omega), if_neg (by omega)]
/-- where a name that is there lies -/
theorem KD_cases {dn ln n : Nat} (h8 : dn ≤ 8) (h12 : ln ≤ 12) (h : KD dn ln n ≠ 0) : n < 11 ∨ (∃ i k, i < dn ∧ k < 7 ∧ n = 20 + 7 * i + k) ∨ (∃ i, i < ln ∧ n = 80 + i) ∨ (100 ≤ n ∧ n < 114) ∨ n = 120 := by
  by_cases a : n < 20
  · rw [KD_low a] at h
    by_cases b : n < 11
    · exact Or.inl b
    · exfalso
      rcases (show n = 11 ∨ n = 12 ∨ n = 13 ∨ n = 14 ∨ n = 15 ∨ n = 16 ∨ n = 17 ∨ n = 18 ∨ n = 19 by omega) with rfl | rfl | rfl | rfl | rfl | rfl | rfl | rfl | rfl <;> exact h rfl
  by_cases b : n < 80
  · by_cases c : n < 20 + 7 * dn
    · exact Or.inr (Or.inl ⟨(n - 20) / 7, (n - 20) % 7, by omega, by omega, by omega⟩)
    · exact absurd (KD_d0 h8 (by omega) b) h
  by_cases c : n < 100
  · by_cases d : n < 80 + ln
    · exact Or.inr (Or.inr (Or.inl ⟨n - 80, by omega, by omega⟩))
    · exact absurd (KD_l0 (by omega) c) h
  by_cases d : n < 114
  · exact Or.inr (Or.inr (Or.inr (Or.inl ⟨by omega, d⟩)))
  · rw [KD_hi (by omega)] at h
    by_cases e : n = 120
    · exact Or.inr (Or.inr (Or.inr (Or.inr e)))
    · rw [if_neg e] at h
      exact absurd rfl h
theorem KD_cK {dn ln : Nat} (h8 : dn ≤ 8) (h12 : ln ≤ 12) : cK (KD dn ln) (SP dn ln) := by
  refine ⟨⟨rfl, rfl, rfl, rfl, rfl, fun r hr => ?_⟩, fun h => ?_, fun h => ?_, fun i hi => ⟨KD_d (k := 0) h8 hi (by decide), ⟨KD_d (k := 1) h8 hi (by decide), KD_d (k := 2) h8 hi (by decide), KD_d (k := 3) h8 hi (by decide)⟩, KD_d (k := 4) h8 hi (by decide), KD_d (k := 5) h8 hi (by decide), KD_d (k := 6) h8 hi (by decide)⟩, fun i hi => KD_l h12 hi, h8, h12, ?_, ?_, ?_, ?_, rfl, rfl⟩
  · rcases (show r = 0 ∨ r = 1 ∨ r = 2 by omega) with rfl | rfl | rfl <;> rfl
  · have h : 0 < dn := h
    show KD dn ln (if 0 < dn then 8 else 11) = 7
    rw [if_pos h]
    show (if 0 < dn then 7 else 0) = 7
    rw [if_pos h]
  · have h : 0 < ln := h
    show KD dn ln (if ln = 0 then 11 else if ln ≤ 10 then 9 else 10) = 9
    rw [if_neg (by omega)]
    by_cases g : ln ≤ 10
    · rw [if_pos g]
      show (if 0 < ln ∧ ln ≤ 10 then 9 else 0) = 9
      rw [if_pos ⟨h, g⟩]
    · rw [if_neg g]
      show (if 10 < ln then 9 else 0) = 9
      rw [if_pos (by omega)]
  · show dn ≤ 10
    omega
  · show ln ≤ if ln ≤ 10 then 10 else 15
    split <;> omega
  · show 10 < 100
    decide
  · show (if ln ≤ 10 then 10 else 15) < 100
    split <;> omega
theorem KD_mK {dn ln : Nat} : mK (KD dn ln) := fun n h1 h2 => KD_m h1 h2
/-- the class's own premise out of the relation -/
theorem RR.cI {dn ln : Nat} {c m : eV} (h : RR dn ln c m) : cI (SP dn ln) c := by
  refine ⟨fun i hi => ?_, fun i hi => ?_, fun i hi => ?_, fun i hi => ?_, fun i hi => ?_⟩
  · rw [(h.2.1 i hi).2.2.1]
    exact (h.2.1 i hi).2.2.2.1
  all_goals obtain ⟨k, dl, da, db, hk, hdl, hda, hdb, e1, e2, e3, e4, f1, f2, f3, f4⟩ := h.lift (l := i) hi
  · exact ⟨k, hk, f1⟩
  · exact ⟨dl, hdl, f2⟩
  · exact ⟨da, hda, f3⟩
  · exact ⟨db, hdb, f4⟩
/-! what a new dancer, a new lift make of KD and SP -/
theorem kd1_d {dn ln n : Nat} (h : n ≠ 8) : kd1 dn ln n = kd1 (dn + 1) ln n := by
  unfold kd1
  split <;> first | rfl | exact absurd rfl h
theorem KD_dancer_o {dn ln n : Nat} (h8 : dn < 8) (h : n < 20 + 7 * dn ∨ 20 + 7 * dn + 7 ≤ n) (hn : n ≠ 8) : KD dn ln n = KD (dn + 1) ln n := by
  unfold KD
  by_cases a : n < 20
  · rw [if_pos a, if_pos a]
    exact kd1_d hn
  · rw [if_neg a, if_neg a]
    by_cases b : n < 80
    · rw [if_pos b, if_pos b]
      by_cases c : n < 20 + 7 * dn
      · rw [if_pos c, if_pos (by omega)]
      · rw [if_neg c, if_neg (by omega)]
    · rw [if_neg b, if_neg b]
def kD (kd : Nat → Nat) (D : Nat) : Nat → Nat := kup (kup (kup (kup (kup (kup (kup (kup (kup (kup kd D 13) (D + 1) 3) ((D + 1) + 1) 84) ((D + 1) + 2) 84) (D + 1) 2) (D + 4) 3) ((D + 4) + 1) 84) ((D + 4) + 2) 84) (D + 4) 2) D 1
theorem kD_o {kd : Nat → Nat} {D n : Nat} (h : n < D ∨ D + 7 ≤ n) : kD kd D n = kd n := by
  unfold kD kup
  rw [if_neg (by omega), if_neg (by omega), if_neg (by omega), if_neg (by omega), if_neg (by omega), if_neg (by omega), if_neg (by omega), if_neg (by omega), if_neg (by omega), if_neg (by omega)]
theorem kD_i {kd : Nat → Nat} {D k : Nat} (h : k < 7) : kD kd D (D + k) = kdD k := by
  unfold kD kup
  rcases (show k = 0 ∨ k = 1 ∨ k = 2 ∨ k = 3 ∨ k = 4 ∨ k = 5 ∨ k = 6 by omega) with rfl | rfl | rfl | rfl | rfl | rfl | rfl <;> simp [Nat.add_assoc, kdD]
theorem kD_KD {dn ln : Nat} (h8 : dn < 8) {n : Nat} (hn : n ≠ 8) : kD (KD dn ln) (20 + 7 * dn) n = KD (dn + 1) ln n := by
  by_cases h : n < 20 + 7 * dn ∨ 20 + 7 * dn + 7 ≤ n
  · rw [kD_o h]
    exact KD_dancer_o h8 h hn
  · obtain ⟨k, hk, rfl⟩ : ∃ k, k < 7 ∧ n = 20 + 7 * dn + k := ⟨n - (20 + 7 * dn), by omega, by omega⟩
    rw [kD_i hk, KD_d (by omega) (by omega) hk]
theorem KD_dancer0 {ln : Nat} : kup (kD (KD 0 ln) (20 + 7 * 0)) 8 7 = KD 1 ln := by
  funext n
  by_cases hn : n = 8
  · subst hn
    rfl
  · rw [kup_n hn rfl]
    exact kD_KD (by decide) hn
theorem KD_dancer1 {dn ln : Nat} (h0 : 0 < dn) (h8 : dn < 8) : kD (KD dn ln) (20 + 7 * dn) = KD (dn + 1) ln := by
  funext n
  by_cases hn : n = 8
  · subst hn
    rw [kD_o (by omega)]
    show (if 0 < dn then 7 else 0) = if 0 < dn + 1 then 7 else 0
    rw [if_pos h0, if_pos (by omega)]
  · exact kD_KD h8 hn
theorem SP_dancer0 {ln : Nat} : upN (upN (upN (SP 0 ln) 5 8) 7 (0 + 1)) 0 (0 + 1) = SP 1 ln := by
  funext n
  unfold upN
  rcases (show n = 0 ∨ n = 1 ∨ n = 2 ∨ n = 3 ∨ n = 4 ∨ n = 5 ∨ n = 6 ∨ n = 7 ∨ n = 8 ∨ n = 9 ∨ ∃ k, n = k + 10 by by_cases h : n < 10; omega; exact Or.inr (Or.inr (Or.inr (Or.inr (Or.inr (Or.inr (Or.inr (Or.inr (Or.inr (Or.inr ⟨n - 10, by omega⟩)))))))))) with rfl | rfl | rfl | rfl | rfl | rfl | rfl | rfl | rfl | rfl | ⟨k, rfl⟩ <;> first | rfl | (simp [SP])
theorem SP_dancer1 {dn ln : Nat} (h0 : 0 < dn) : upN (upN (SP dn ln) 7 (dn + 1)) 0 (dn + 1) = SP (dn + 1) ln := by
  funext n
  unfold upN
  rcases (show n = 0 ∨ n = 1 ∨ n = 2 ∨ n = 3 ∨ n = 4 ∨ n = 5 ∨ n = 6 ∨ n = 7 ∨ n = 8 ∨ n = 9 ∨ ∃ k, n = k + 10 by by_cases h : n < 10; omega; exact Or.inr (Or.inr (Or.inr (Or.inr (Or.inr (Or.inr (Or.inr (Or.inr (Or.inr (Or.inr ⟨n - 10, by omega⟩)))))))))) with rfl | rfl | rfl | rfl | rfl | rfl | rfl | rfl | rfl | rfl | ⟨k, rfl⟩ <;> first | rfl | (simp [SP, h0])
theorem KD_lift_o {dn ln n : Nat} (h : n ≠ 80 + ln) (h9 : n ≠ 9) (h10 : n ≠ 10) : KD dn ln n = KD dn (ln + 1) n := by
  unfold KD
  by_cases a : n < 20
  · rw [if_pos a, if_pos a]
    unfold kd1
    split <;> first | rfl | exact absurd rfl h9 | exact absurd rfl h10
  · rw [if_neg a, if_neg a]
    by_cases b : n < 80
    · rw [if_pos b, if_pos b]
    · rw [if_neg b, if_neg b]
      by_cases c : n < 100
      · rw [if_pos c, if_pos c]
        by_cases d : n < 80 + ln
        · rw [if_pos d, if_pos (by omega)]
        · rw [if_neg d, if_neg (by omega)]
      · rw [if_neg c, if_neg c]
theorem kd9_l {dn ln : Nat} (h0 : 0 < ln) (h10 : ln ≤ 10) : KD dn ln 9 = 9 := by
  show (if 0 < ln ∧ ln ≤ 10 then 9 else 0) = 9
  rw [if_pos ⟨h0, h10⟩]
theorem kd9_0 {dn ln : Nat} (h : ln = 0 ∨ 10 < ln) : KD dn ln 9 = 0 := by
  show (if 0 < ln ∧ ln ≤ 10 then 9 else 0) = 0
  rw [if_neg (by omega)]
theorem kd10_l {dn ln : Nat} (h : 10 < ln) : KD dn ln 10 = 9 := by
  show (if 10 < ln then 9 else 0) = 9
  rw [if_pos h]
theorem kd10_0 {dn ln : Nat} (h : ln ≤ 10) : KD dn ln 10 = 0 := by
  show (if 10 < ln then 9 else 0) = 0
  rw [if_neg (by omega)]
theorem KD_lift0 {dn : Nat} : kup (kup (KD dn 0) (80 + 0) 4) 9 9 = KD dn 1 := by
  funext n
  by_cases h9 : n = 9
  · subst h9; rw [kup_s, kd9_l (by decide) (by decide)]
  · rw [kup_n h9 rfl]
    by_cases h : n = 80 + 0
    · subst h; rw [kup_s]; exact (KD_l (i := 0) (by decide) (by decide)).symm
    · rw [kup_n h rfl]
      by_cases h10 : n = 10
      · subst h10; rw [kd10_0 (by decide), kd10_0 (by decide)]
      · exact KD_lift_o h h9 h10
theorem KD_lift1 {dn ln : Nat} (h0 : 0 < ln) (h12 : ln < 12) (hne : ln ≠ 10) : kup (KD dn ln) (80 + ln) 4 = KD dn (ln + 1) := by
  funext n
  by_cases h : n = 80 + ln
  · subst h; rw [kup_s]; exact (KD_l (i := ln) (by omega) (by omega)).symm
  · rw [kup_n h rfl]
    by_cases h9 : n = 9
    · subst h9
      by_cases g : ln < 10
      · rw [kd9_l h0 (by omega), kd9_l (by omega) (by omega)]
      · rw [kd9_0 (by omega), kd9_0 (by omega)]
    · by_cases h10 : n = 10
      · subst h10
        by_cases g : ln < 10
        · rw [kd10_0 (by omega), kd10_0 (by omega)]
        · rw [kd10_l (by omega), kd10_l (by omega)]
      · exact KD_lift_o h h9 h10
theorem KD_lift2 {dn : Nat} : kup (kup (kup (kup (KD dn 10) (80 + 10) 4) 10 16) 9 0) 10 9 = KD dn 11 := by
  funext n
  by_cases h10 : n = 10
  · subst h10; rw [kup_s, kd10_l (by decide)]
  · rw [kup_n h10 rfl]
    by_cases h9 : n = 9
    · subst h9; rw [kup_s, kd9_0 (by decide)]
    · rw [kup_n h9 rfl, kup_n h10 rfl]
      by_cases h : n = 80 + 10
      · subst h; rw [kup_s]; exact (KD_l (i := 10) (by decide) (by decide)).symm
      · rw [kup_n h rfl]
        exact KD_lift_o h h9 h10
theorem SP_lift0 {dn : Nat} : upN (upN (upN (SP dn 0) 6 9) 8 (0 + 1)) 1 (0 + 1) = SP dn 1 := by
  funext n
  unfold upN
  rcases (show n = 0 ∨ n = 1 ∨ n = 2 ∨ n = 3 ∨ n = 4 ∨ n = 5 ∨ n = 6 ∨ n = 7 ∨ n = 8 ∨ n = 9 ∨ ∃ k, n = k + 10 by by_cases h : n < 10; omega; exact Or.inr (Or.inr (Or.inr (Or.inr (Or.inr (Or.inr (Or.inr (Or.inr (Or.inr (Or.inr ⟨n - 10, by omega⟩)))))))))) with rfl | rfl | rfl | rfl | rfl | rfl | rfl | rfl | rfl | rfl | ⟨k, rfl⟩ <;> first | rfl | (simp [SP])
theorem SP_lift1 {dn ln : Nat} (h0 : 0 < ln) (hne : ln ≠ 10) : upN (upN (SP dn ln) 8 (ln + 1)) 1 (ln + 1) = SP dn (ln + 1) := by
  funext n
  unfold upN
  have a1 : (ln ≤ 10) = (ln + 1 ≤ 10) := propext ⟨fun _ => by omega, fun _ => by omega⟩
  have a2 : ¬ ln = 0 := by omega
  rcases (show n = 0 ∨ n = 1 ∨ n = 2 ∨ n = 3 ∨ n = 4 ∨ n = 5 ∨ n = 6 ∨ n = 7 ∨ n = 8 ∨ n = 9 ∨ ∃ k, n = k + 10 by by_cases h : n < 10; omega; exact Or.inr (Or.inr (Or.inr (Or.inr (Or.inr (Or.inr (Or.inr (Or.inr (Or.inr (Or.inr ⟨n - 10, by omega⟩)))))))))) with rfl | rfl | rfl | rfl | rfl | rfl | rfl | rfl | rfl | rfl | ⟨k, rfl⟩ <;> first | rfl | (simp only [SP, a1, a2, Nat.succ_ne_zero, if_false]; done) | (simp [SP, a1, a2]; done)
theorem SP_lift2 {dn : Nat} : upN (upN (upN (upN (upN (SP dn 10) 9 10) 6 10) 3 15) 8 (10 + 1)) 1 (10 + 1) = SP dn 11 := by
  funext n
  unfold upN
  rcases (show n = 0 ∨ n = 1 ∨ n = 2 ∨ n = 3 ∨ n = 4 ∨ n = 5 ∨ n = 6 ∨ n = 7 ∨ n = 8 ∨ n = 9 ∨ ∃ k, n = k + 10 by by_cases h : n < 10; omega; exact Or.inr (Or.inr (Or.inr (Or.inr (Or.inr (Or.inr (Or.inr (Or.inr (Or.inr (Or.inr ⟨n - 10, by omega⟩)))))))))) with rfl | rfl | rfl | rfl | rfl | rfl | rfl | rfl | rfl | rfl | ⟨k, rfl⟩ <;> first | rfl | (simp [SP])
/-! kinds that stand at one name alone -/
theorem KD_u {dn ln n K : Nat} (h8 : dn ≤ 8) (h12 : ln ≤ 12) (hK : K = 6 ∨ K = 8 ∨ K = 7 ∨ K = 9 ∨ K = 16) (h : KD dn ln n = K) : n < 11 ∧ kd1 dn ln n = K := by
  have h0 : KD dn ln n ≠ 0 := by rw [h]; omega
  rcases KD_cases h8 h12 h0 with g | ⟨i, k, hi, hk, rfl⟩ | ⟨i, hi, rfl⟩ | ⟨a, b⟩ | rfl
  · exact ⟨g, by rw [← KD_low (by omega)]; exact h⟩
  · rw [KD_d h8 hi hk] at h
    rcases (show k = 0 ∨ k = 1 ∨ k = 2 ∨ k = 3 ∨ k = 4 ∨ k = 5 ∨ k = 6 by omega) with rfl | rfl | rfl | rfl | rfl | rfl | rfl <;> (simp only [kdD] at h; omega)
  · rw [KD_l h12 hi] at h
    omega
  · rw [KD_m a b] at h
    rcases (show n = 100 ∨ n = 101 ∨ n = 102 ∨ n = 103 ∨ n = 104 ∨ n = 105 ∨ n = 106 ∨ n = 107 ∨ n = 108 ∨ n = 109 ∨ n = 110 ∨ n = 111 ∨ n = 112 ∨ n = 113 by omega) with rfl | rfl | rfl | rfl | rfl | rfl | rfl | rfl | rfl | rfl | rfl | rfl | rfl | rfl <;> (simp only [mkd] at h; omega)
  · rw [KD_hi (by decide), if_pos rfl] at h
    omega
theorem KD_u6 {dn ln : Nat} (h8 : dn ≤ 8) (h12 : ln ≤ 12) : ∀ n, KD dn ln n = 6 → n = 1 := fun n h => by
  obtain ⟨a, b⟩ := KD_u h8 h12 (by omega) h
  rcases (show n = 0 ∨ n = 1 ∨ n = 2 ∨ n = 3 ∨ n = 4 ∨ n = 5 ∨ n = 6 ∨ n = 7 ∨ n = 8 ∨ n = 9 ∨ n = 10 by omega) with rfl | rfl | rfl | rfl | rfl | rfl | rfl | rfl | rfl | rfl | rfl <;> simp only [kd1] at b <;> first | omega | (split at b <;> omega)
theorem KD_u8 {dn ln : Nat} (h8 : dn ≤ 8) (h12 : ln ≤ 12) : ∀ n, KD dn ln n = 8 → n = 2 := fun n h => by
  obtain ⟨a, b⟩ := KD_u h8 h12 (by omega) h
  rcases (show n = 0 ∨ n = 1 ∨ n = 2 ∨ n = 3 ∨ n = 4 ∨ n = 5 ∨ n = 6 ∨ n = 7 ∨ n = 8 ∨ n = 9 ∨ n = 10 by omega) with rfl | rfl | rfl | rfl | rfl | rfl | rfl | rfl | rfl | rfl | rfl <;> simp only [kd1] at b <;> first | omega | (split at b <;> omega)
theorem KD_u7 {dn ln : Nat} (h8 : dn ≤ 8) (h12 : ln ≤ 12) : ∀ n, KD dn ln n = 7 → n = 8 ∧ 0 < dn := fun n h => by
  obtain ⟨a, b⟩ := KD_u h8 h12 (by omega) h
  rcases (show n = 0 ∨ n = 1 ∨ n = 2 ∨ n = 3 ∨ n = 4 ∨ n = 5 ∨ n = 6 ∨ n = 7 ∨ n = 8 ∨ n = 9 ∨ n = 10 by omega) with rfl | rfl | rfl | rfl | rfl | rfl | rfl | rfl | rfl | rfl | rfl <;> simp only [kd1] at b <;> first | omega | (split at b <;> omega)
theorem KD_u9 {dn ln : Nat} (h8 : dn ≤ 8) (h12 : ln ≤ 12) : ∀ n, KD dn ln n = 9 → 0 < ln ∧ n = (if ln ≤ 10 then 9 else 10) := fun n h => by
  obtain ⟨a, b⟩ := KD_u h8 h12 (by omega) h
  rcases (show n = 0 ∨ n = 1 ∨ n = 2 ∨ n = 3 ∨ n = 4 ∨ n = 5 ∨ n = 6 ∨ n = 7 ∨ n = 8 ∨ n = 9 ∨ n = 10 by omega) with rfl | rfl | rfl | rfl | rfl | rfl | rfl | rfl | rfl | rfl | rfl <;> simp only [kd1] at b <;> first | omega | (split at b <;> first | omega | (split <;> omega))
theorem KD_u16 {dn ln : Nat} (h8 : dn ≤ 8) (h12 : ln ≤ 12) : ∀ n, KD dn ln n ≠ 16 := fun n h => by
  obtain ⟨a, b⟩ := KD_u h8 h12 (by omega) h
  rcases (show n = 0 ∨ n = 1 ∨ n = 2 ∨ n = 3 ∨ n = 4 ∨ n = 5 ∨ n = 6 ∨ n = 7 ∨ n = 8 ∨ n = 9 ∨ n = 10 by omega) with rfl | rfl | rfl | rfl | rfl | rfl | rfl | rfl | rfl | rfl | rfl <;> simp only [kd1] at b <;> first | omega | (split at b <;> omega)
/-! other addresses of names that aren't there -/
theorem e_sh_ad {X : eD} {ad ad' : Nat → Nat} {v : eV} {dn ln n : Nat} (h8 : dn ≤ 8) (h12 : ln ≤ 12) (ha : ∀ q, KD dn ln q ≠ 0 → ad' q = ad q) (h11 : ad' 11 = ad 11) (hn : KD dn ln n ≠ 0) : e_sh X ad' (SP dn ln) v (KD dn ln n) n = e_sh X ad (SP dn ln) v (KD dn ln n) n := by
  have hd : ∀ i k, i < dn → k < 7 → ad' (20 + 7 * i + k) = ad (20 + 7 * i + k) := fun i k hi hk => ha _ (by
    rw [KD_d h8 hi hk]
    rcases (show k = 0 ∨ k = 1 ∨ k = 2 ∨ k = 3 ∨ k = 4 ∨ k = 5 ∨ k = 6 by omega) with rfl | rfl | rfl | rfl | rfl | rfl | rfl <;> decide)
  have hd0 : ∀ i, i < dn → ad' (20 + 7 * i) = ad (20 + 7 * i) := fun i hi => hd i 0 hi (by decide)
  have hl : ∀ i, i < ln → ad' (80 + i) = ad (80 + i) := fun i hi => ha _ (by rw [KD_l h12 hi]; decide)
  have c := KD_cK h8 h12
  rcases KD_cases h8 h12 hn with g | ⟨i, k, hi, hk, rfl⟩ | ⟨i, hi, rfl⟩ | ⟨a, b⟩ | rfl
  · have hlist9 : ∀ q, e_sh X ad' (SP dn ln) v 9 q = e_sh X ad (SP dn ln) v 9 q := fun q => by
      show (Sum.inl (X.2 1, _, _) : va_E) = Sum.inl (X.2 1, _, _)
      congr 7
      funext j
      by_cases hj : j < SP dn ln 8
      · rw [if_pos hj, if_pos hj, hl j hj]
      · rw [if_neg hj, if_neg hj]
    have hlist7 : ∀ q, e_sh X ad' (SP dn ln) v 7 q = e_sh X ad (SP dn ln) v 7 q := fun q => by
      show (Sum.inl (X.2 1, _, _) : va_E) = Sum.inl (X.2 1, _, _)
      congr 7
      funext j
      by_cases hj : j < SP dn ln 7
      · rw [if_pos hj, if_pos hj, hd0 j hj]
      · rw [if_neg hj, if_neg hj]
    rcases (show n = 0 ∨ n = 1 ∨ n = 2 ∨ n = 3 ∨ n = 4 ∨ n = 5 ∨ n = 6 ∨ n = 7 ∨ n = 8 ∨ n = 9 ∨ n = 10 by omega) with rfl | rfl | rfl | rfl | rfl | rfl | rfl | rfl | rfl | rfl | rfl
    · show (Sum.inr (6, [.ref (ad' 1), .ref (ad' 2), .ref (ad' 3), .ref (ad' 4), _]) : va_E) = Sum.inr (6, [.ref (ad 1), .ref (ad 2), .ref (ad 3), .ref (ad 4), _])
      rw [ha 1 (by rw [c.1.2.1]; decide), ha 2 (by rw [c.1.2.2.1]; decide), ha 3 (by rw [c.1.2.2.2.1]; decide), ha 4 (by rw [c.1.2.2.2.2.1]; decide)]
    · show (Sum.inr (2, [_, .ref (ad' (SP dn ln 5)), _]) : va_E) = Sum.inr (2, [_, .ref (ad (SP dn ln 5)), _])
      have : ad' (SP dn ln 5) = ad (SP dn ln 5) := by
        by_cases g0 : 0 < dn
        · exact ha _ (by rw [c.2.1 g0]; decide)
        · rw [show SP dn ln 5 = 11 from if_neg g0]; exact h11
      rw [this]
    · show (Sum.inr (2, [_, .ref (ad' (SP dn ln 6)), _]) : va_E) = Sum.inr (2, [_, .ref (ad (SP dn ln 6)), _])
      have : ad' (SP dn ln 6) = ad (SP dn ln 6) := by
        by_cases g0 : 0 < ln
        · exact ha _ (by rw [c.2.2.1 g0]; decide)
        · rw [show SP dn ln 6 = 11 from if_pos (by omega)]; exact h11
      rw [this]
    · rfl
    · show (Sum.inl (X.2 2, 3, _) : va_E) = Sum.inl (X.2 2, 3, _)
      congr 7
      funext j
      by_cases hj : j < 3
      · rw [if_pos hj, if_pos hj, ha _ (by rw [c.1.2.2.2.2.2 j hj]; decide)]
      · rw [if_neg hj, if_neg hj]
    · rfl
    · rfl
    · rfl
    · by_cases g0 : 0 < dn
      · rw [show KD dn ln 8 = 7 from if_pos g0]; exact hlist7 8
      · exact absurd (show KD dn ln 8 = 0 from if_neg g0) hn
    · by_cases g0 : 0 < ln ∧ ln ≤ 10
      · rw [show KD dn ln 9 = 9 from if_pos g0]; exact hlist9 9
      · exact absurd (show KD dn ln 9 = 0 from if_neg g0) hn
    · by_cases g0 : 10 < ln
      · rw [show KD dn ln 10 = 9 from if_pos g0]; exact hlist9 10
      · exact absurd (show KD dn ln 10 = 0 from if_neg g0) hn
  · rw [KD_d h8 hi hk]
    rcases (show k = 0 ∨ k = 1 ∨ k = 2 ∨ k = 3 ∨ k = 4 ∨ k = 5 ∨ k = 6 by omega) with rfl | rfl | rfl | rfl | rfl | rfl | rfl
    · show (Sum.inr (3, [.ref (ad' (20 + 7 * i + 1)), .ref (ad' (20 + 7 * i + 4)), _, _]) : va_E) = Sum.inr (3, [.ref (ad (20 + 7 * i + 1)), .ref (ad (20 + 7 * i + 4)), _, _])
      rw [hd i 1 hi (by decide), hd i 4 hi (by decide)]
    · show (Sum.inr (5, [_, .ref (ad' (20 + 7 * i + 2)), .ref (ad' (20 + 7 * i + 3))]) : va_E) = Sum.inr (5, [_, .ref (ad (20 + 7 * i + 2)), .ref (ad (20 + 7 * i + 3))])
      rw [hd i 2 hi (by decide), hd i 3 hi (by decide)]
    · rfl
    · rfl
    · show (Sum.inr (5, [_, .ref (ad' (20 + 7 * i + 5)), .ref (ad' (20 + 7 * i + 6))]) : va_E) = Sum.inr (5, [_, .ref (ad (20 + 7 * i + 5)), .ref (ad (20 + 7 * i + 6))])
      rw [hd i 5 hi (by decide), hd i 6 hi (by decide)]
    · rfl
    · rfl
  · rw [KD_l h12 hi]
    rfl
  · have hm : ∀ q, 100 ≤ q → q < 114 → ad' q = ad q := fun q h1 h2 => ha _ (by
      rw [KD_m h1 h2]
      rcases (show q = 100 ∨ q = 101 ∨ q = 102 ∨ q = 103 ∨ q = 104 ∨ q = 105 ∨ q = 106 ∨ q = 107 ∨ q = 108 ∨ q = 109 ∨ q = 110 ∨ q = 111 ∨ q = 112 ∨ q = 113 by omega) with rfl | rfl | rfl | rfl | rfl | rfl | rfl | rfl | rfl | rfl | rfl | rfl | rfl | rfl <;> decide)
    rw [KD_m a b]
    rcases (show n = 100 ∨ n = 101 ∨ n = 102 ∨ n = 103 ∨ n = 104 ∨ n = 105 ∨ n = 106 ∨ n = 107 ∨ n = 108 ∨ n = 109 ∨ n = 110 ∨ n = 111 ∨ n = 112 ∨ n = 113 by omega) with rfl | rfl | rfl | rfl | rfl | rfl | rfl | rfl | rfl | rfl | rfl | rfl | rfl | rfl
    · show e_sh X ad' (SP dn ln) v 12 100 = e_sh X ad (SP dn ln) v 12 100
      simp only [e_sh, hm 101 (by decide) (by decide), hm 102 (by decide) (by decide), hm 103 (by decide) (by decide), hm 104 (by decide) (by decide), hm 105 (by decide) (by decide), hm 106 (by decide) (by decide), hm 107 (by decide) (by decide), hm 108 (by decide) (by decide), hm 109 (by decide) (by decide), hm 110 (by decide) (by decide), hm 111 (by decide) (by decide), hm 112 (by decide) (by decide), hm 113 (by decide) (by decide)]
    all_goals rfl
  · rfl
theorem e_P.ad {X : eD} {z0 : Nat} {ad ad' : Nat → Nat} {v : eV} {dn ln : Nat} {H : Heap} (h8 : dn ≤ 8) (h12 : ln ≤ 12) (hP : e_P X ad (KD dn ln) (SP dn ln) v H) (hI : e_I z0 ad (KD dn ln)) (ha : ∀ q, KD dn ln q ≠ 0 → ad' q = ad q) (h11 : ad' 11 = ad 11) : e_P X ad' (KD dn ln) (SP dn ln) v H ∧ e_I z0 ad' (KD dn ln) :=
  ⟨hP.re (fun n hn => ⟨hn, ha n hn, e_sh_ad h8 h12 ha h11 hn⟩), hI.re (fun n hn => ⟨hn, ha n hn⟩)⟩

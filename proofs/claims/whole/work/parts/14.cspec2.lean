/-! the class's writers -/
def cShift (v : eV) (t c : Nat) (w : Int32) : Nat → eV
  | 0 => v
  | k + 1 => e_set (cShift v t c w k) (t + 2) (c + k) (cShift v t c w k (t + 2) (c + k) + w)
def cWrite (v : eV) (t c : Nat) (w : Int32) : eV := cShift (e_set v (t + 1) c w) t c (w - v (t + 1) c) (64 - c)
def cVisit (v : eV) (t g c : Nat) : eV := cWrite (cWrite v t c (v (t + 1) c + cWay v t g c)) t (c + 1) (cWrite v t c (v (t + 1) c + cWay v t g c) (t + 1) (c + 1) - cWay v t g c)
def cVisitD (v : eV) (d g c : Nat) : eV := cVisit (cVisit v (d + 1) (g + 1) c) (d + 4) (g + 4) c
def cRepl (v : eV) (n : Nat) (a b : Int32) : eV := if v n 2 = a then e_set v n 2 b else e_set v n 3 b
def cFreeR (v : eV) : Nat → eV
  | 0 => v
  | r + 1 => cFill (cFreeR v r) (5 + r) (-1) 13
def cCharge (v : eV) (n2 : Nat) (p : Int32) (a b : Nat) : Nat → eV
  | 0 => v
  | i + 1 => if cTakes p i = true then e_set (cCharge v n2 p a b i) (20 + 7 * i) 2 (cCharge v n2 p a b i (20 + 7 * i) 2 + cPts (cCharge v n2 p a b i) n2 i a b) else cCharge v n2 p a b i
theorem cCharge_t {v : eV} {n2 i a b : Nat} {p : Int32} (h : cTakes p i = true) : cCharge v n2 p a b (i + 1) = e_set (cCharge v n2 p a b i) (20 + 7 * i) 2 (cCharge v n2 p a b i (20 + 7 * i) 2 + cPts (cCharge v n2 p a b i) n2 i a b) := if_pos h
theorem cCharge_f {v : eV} {n2 i a b : Nat} {p : Int32} (h : cTakes p i = false) : cCharge v n2 p a b (i + 1) = cCharge v n2 p a b i := if_neg (by rw [h]; decide)
def cDrop (v : eV) (d : Int32) : Nat → eV
  | 0 => v
  | l + 1 => if cDrop v d l (80 + l) 1 = d then e_set (cDrop v d l) (80 + l) 4 1 else cDrop v d l
theorem cDrop_t {v : eV} {d : Int32} {l : Nat} (h : cDrop v d l (80 + l) 1 = d) : cDrop v d (l + 1) = e_set (cDrop v d l) (80 + l) 4 1 := if_pos h
theorem cDrop_f {v : eV} {d : Int32} {l : Nat} (h : ¬ cDrop v d l (80 + l) 1 = d) : cDrop v d (l + 1) = cDrop v d l := if_neg h
def cBest (f : Nat → Int32) : Nat → Int32 × Int32
  | 0 => (-1, 3)
  | i + 1 => if f i < (cBest f i).2 then (nI i, f i) else cBest f i
theorem cBest_t {f : Nat → Int32} {i : Nat} {x y : Int32} (h : cBest f i = (x, y)) (g : f i < y) : cBest f (i + 1) = (nI i, f i) := by
  show ite _ _ _ = _
  rw [h]
  exact if_pos g
theorem cBest_f {f : Nat → Int32} {i : Nat} {x y : Int32} (h : cBest f i = (x, y)) (g : ¬ f i < y) : cBest f (i + 1) = (x, y) := by
  show ite _ _ _ = _
  rw [h]
  exact if_neg g
theorem cBest_get {f : Nat → Int32} : ∀ {n : Nat} {x y : Int32}, cBest f n = (x, y) → ¬ 3 < y ∧ (¬ x = -1 → ∃ j, j < n ∧ x = nI j ∧ y = f j ∧ y < 3)
  | 0, x, y, h => by
    cases h
    exact ⟨by decide, fun g => absurd rfl g⟩
  | n + 1, x, y, h => by
    obtain ⟨a, b, hb⟩ : ∃ a b, cBest f n = (a, b) := ⟨_, _, rfl⟩
    obtain ⟨p1, p2⟩ := cBest_get hb
    by_cases g : f n < b
    · rw [cBest_t hb g] at h
      cases h
      have g3 : f n < 3 := Int32.lt_of_lt_of_le g (Int32.not_lt.mp p1)
      exact ⟨Int32.not_lt.mpr (Int32.le_of_lt g3), fun _ => ⟨n, by omega, rfl, rfl, g3⟩⟩
    · rw [cBest_f hb g] at h
      cases h
      refine ⟨p1, fun q => ?_⟩
      obtain ⟨j, h1, h2, h3, h4⟩ := p2 q
      exact ⟨j, by omega, h2, h3, h4⟩
theorem cNeed_c {v : eV} {l lv j c dl n : Nat} (h0 : 0 < cNeed v l lv j c dl n) (h3 : cNeed v l lv j c dl n < 3) : c < 63 := by
  unfold cNeed at h0 h3
  split at h0
  · rename_i g
    rw [if_pos g] at h3
    exact absurd h3 (by decide)
  · rename_i g
    rw [if_neg g] at h3
    split at h0
    · exact absurd h0 (by decide)
    · rename_i g2
      rw [if_neg g2] at h3
      split at h3
      · rename_i g3
        unfold cCanD cCanT at g3
        simp only [Bool.and_eq_true, decide_eq_true_eq] at g3
        exact g3.1.1.1.1
      · exact absurd h3 (by decide)
def cFind (v : eV) (l lv c dl n n2 : Nat) : Int32 × Int32 := cBest (fun j => cNeed v l lv j c dl n2) n
def cReplS (v : eV) (l lv c dl n n2 : Nat) : eV :=
  if (cFind v l lv c dl n n2).1 = -1 then e_set v (80 + l) 4 1
  else cRepl (if 0 < (cFind v l lv c dl n n2).2 then cVisitD v (20 + 7 * nN (cFind v l lv c dl n n2).1) (20 + 7 * lv) c else v) (80 + l) (nI lv) (cFind v l lv c dl n n2).1
def cReplV (v : eV) (l lv c dl n n2 : Nat) : Int32 := if (cFind v l lv c dl n n2).1 = -1 then 0 else (cFind v l lv c dl n n2).2
def cRest (v : eV) : Nat → eV
  | 0 => v
  | i + 1 => e_set (cRest v i) (20 + 7 * i) 2 (cMax 0 (cRest v i (20 + 7 * i) 2 - 25))
def cSleepS (v : eV) (n : Nat) : eV := e_set (cRest (cFreeR v 3) n) 0 4 (cRest (cFreeR v 3) n 0 4 + 1)

/-! THE CLASS, as functions of its numbers: 20 + 7 i a dancer (2 points, 3 out), + 1 columns (0 first), + 2 moves, + 3 places, + 4 rows, + 5, + 6; 80 + l a lift (0 count, 1 lifted, 2 one, 3 other, 4 gone); 3 told; 5 + r plans; 0 4 day -/
def isT (kd : Nat → Nat) (n : Nat) : Prop := kd n = 2 ∧ kd (n + 1) = 84 ∧ kd (n + 2) = 84
def isD (kd : Nat → Nat) (n : Nat) : Prop := kd n = 1 ∧ isT kd (n + 1) ∧ isT kd (n + 4)
def cK (kd sp : Nat → Nat) : Prop := (kd 0 = 5 ∧ kd 1 = 6 ∧ kd 2 = 8 ∧ kd 3 = 84 ∧ kd 4 = 10 ∧ ∀ r, r < 3 → kd (5 + r) = 33) ∧ (0 < sp 0 → kd (sp 5) = 7) ∧ (0 < sp 1 → kd (sp 6) = 9) ∧ (∀ i, i < sp 0 → isD kd (20 + 7 * i)) ∧ (∀ i, i < sp 1 → kd (80 + i) = 4) ∧ sp 0 ≤ 8 ∧ sp 1 ≤ 12 ∧ sp 0 ≤ sp 2 ∧ sp 1 ≤ sp 3 ∧ sp 2 < 100 ∧ sp 3 < 100 ∧ sp 7 = sp 0 ∧ sp 8 = sp 1
def cI (sp : Nat → Nat) (v : eV) : Prop := (∀ i, i < sp 0 → v (20 + 7 * i) 3 = 0 ∨ v (20 + 7 * i) 3 = 1) ∧ (∀ i, i < sp 1 → ∃ c, c < 64 ∧ v (80 + i) 0 = nI c) ∧ (∀ i, i < sp 1 → ∃ d, d < sp 0 ∧ v (80 + i) 1 = nI d) ∧ (∀ i, i < sp 1 → ∃ d, d < sp 0 ∧ v (80 + i) 2 = nI d) ∧ (∀ i, i < sp 1 → ∃ d, d < sp 0 ∧ v (80 + i) 3 = nI d)
def cOut (v : eV) (i : Nat) : Bool := decide (v (20 + 7 * i) 3 = 1)
theorem cOut_b {sp : Nat → Nat} {v : eV} (h : cI sp v) {i : Nat} (hi : i < sp 0) : v (20 + 7 * i) 3 = bI (cOut v i) := by
  unfold cOut
  rcases h.1 i hi with e | e <;> rw [e] <;> decide
def cOn (x : Int32) : Bool := !decide (x < 0) && decide (x < 8)
def cTakes (p : Int32) (d : Nat) : Bool := !decide ((p >>> (nI d &&& 31)) &&& 1 = 0)
def cMax (x y : Int32) : Int32 := if x < y then y else x
def cFill (v : eV) (n : Nat) (x : Int32) : Nat → eV
  | 0 => v
  | k + 1 => e_set (cFill v n x k) n k x
def cWay (v : eV) (t g c : Nat) : Int32 := v (g + 2) c - v (t + 2) c
def cAhead (v : eV) (t c : Nat) : Int32 := if 0 < c then v (t + 2) (c - 1) else v t 0
def cFollow (v : eV) (t n : Nat) : Int32 := v t 0 + sumN (fun j => v (t + 1) j) n
def cWayIn (v : eV) (t a n : Nat) : Int32 := sumN (fun i => mFlat (v (t + 1) (a + i))) n
def cCanT (v : eV) (t g c : Nat) : Bool := decide (c < 63) && mIn (cWay v t g c) (-2) 2 && mIn (v (t + 1) c + cWay v t g c) (-2) 2 && mIn (v (t + 1) (c + 1) - cWay v t g c) (-2) 2
def cTr (d : Nat) (b : Int32) : Nat := if b = 0 then d + 1 else d + 4
theorem isT_tr {kd : Nat → Nat} {d : Nat} (h : isD kd d) (b : Int32) : isT kd (cTr d b) := by
  unfold cTr
  split
  · exact h.2.1
  · exact h.2.2
def cCount (v : eV) (d n : Nat) : Int32 := sumN (fun j => bI (!decide (v (d + 1 + 1) j = 0) || !decide (v (d + 4 + 1) j = 0))) n
def cOff (v : eV) (d c : Nat) : Bool := !cOn (v (d + 1 + 2) c) || !cOn (v (d + 4 + 2) c)
def cWith (v : eV) (d e c : Nat) : Bool := decide (cWay v (d + 1) (e + 1) c = 0) && decide (cWay v (d + 4) (e + 4) c = 0)
def cBeside (v : eV) (d e c : Nat) : Bool := !cWith v d e c && !decide (1 < mFlat (cWay v (d + 1) (e + 1) c)) && !decide (1 < mFlat (cWay v (d + 4) (e + 4) c))
def cTakesP (v : eV) (d e c : Nat) : Bool := decide (v (d + 1 + 2) c = cAhead v (e + 1) c) && decide (v (d + 4 + 2) c = cAhead v (e + 4) c)
def cChange (v : eV) (d e c : Nat) : Bool := cTakesP v d e c && cTakesP v e d c
def cCanD (v : eV) (d e c : Nat) : Bool := cCanT v (d + 1) (e + 1) c && cCanT v (d + 4) (e + 4) c
def cBy (v : eV) (n : Nat) (d : Int32) : Bool := decide (v n 2 = d) || decide (v n 3 = d)
def cHas (v : eV) (n : Nat) (d : Int32) : Bool := decide (v n 1 = d) || cBy v n d
def cFirstP (v : eV) (x y : Int32) (n : Nat) : Bool := anyN (fun i => decide (v (20 + 7 * i + 1) 0 = x) && decide (v (20 + 7 * i + 4) 0 = y)) n
theorem anyN_t {f : Nat → Bool} {i : Nat} (h : f i = true) : ∀ {n : Nat}, i < n → anyN f n = true
  | 0, g => absurd g (Nat.not_lt_zero _)
  | n + 1, g => by
    show (anyN f n || f n) = true
    by_cases e : i = n
    · subst e
      rw [h, Bool.or_true]
    · rw [anyN_t h (by omega), Bool.true_or]
theorem anyN_s {f : Nat → Bool} {n : Nat} (h : anyN f n = false) (g : f n = false) : anyN f (n + 1) = false := by
  show (anyN f n || f n) = false
  rw [h, g]
  rfl
theorem sum_t {x S : Int32} {b : Bool} (h : x = S) (g : b = true) : x + 1 = S + bI b := by subst h; subst g; rfl
theorem sum_f {x S : Int32} {b : Bool} (h : x = S) (g : b = false) : x = S + bI b := by subst h; subst g; show x = x + 0; rw [Int32.add_zero]
def cPair (v : eV) (i j c : Nat) : Bool := cWith v (20 + 7 * i) (20 + 7 * j) c || cChange v (20 + 7 * i) (20 + 7 * j) c
def cPairs (v : eV) (c i k : Nat) : Int32 := sumN (fun t => bI (cPair v i (i + 1 + t) c)) k
def cClash (v : eV) (c n : Nat) : Nat → Int32
  | 0 => 0
  | i + 1 => (cClash v c n i + bI (cOff v (20 + 7 * i) c)) + cPairs v c i (n - (i + 1))
def cLiftsW (v : eV) (d a b : Int32) (n : Nat) : Int32 := sumN (fun l => bI (decide (v (80 + l) 4 = 0) && !decide (v (80 + l) 0 < a) && !decide (b < v (80 + l) 0) && cHas v (80 + l) d)) n
def cFree (v : eV) (l d n : Nat) : Bool := !cOut v d && decide (cLiftsW v (nI d) (v (80 + l) 0) (v (80 + l) 0) n = 1)
def cBesL (v : eV) (d dl c : Nat) : Bool := cBeside v (20 + 7 * d) (20 + 7 * dl) c
def cStands (v : eV) (l c dl da db n : Nat) : Bool := cFree v l dl n && cFree v l da n && cFree v l db n && cBesL v da dl c && cBesL v db dl c
def cState (v : eV) (l c dl da db n : Nat) : Int32 := if v (80 + l) 4 = 0 then bI (cStands v l c dl da db n) else 2
def cLast (v : eV) : Nat → Int32
  | 0 => v 3 0
  | n + 1 => if v 3 (n + 1) = 0 then cLast v n else v 3 (n + 1)
def cUp (v : eV) : Nat → Int32
  | 0 => 500
  | n + 1 => if v 3 n = 0 then cUp v n else v 3 n
def cSum (v : eV) : Nat → Int64
  | 0 => 0
  | n + 1 => cSum v n + (cUp v (n + 1)).toInt64
def cPts (v : eV) (n d a b : Nat) : Int32 := cWayIn v (20 + 7 * d + 1) a (b + 1 - a) + cWayIn v (20 + 7 * d + 4) a (b + 1 - a) + 5 * cLiftsW v (nI d) (nI a) (nI b) n
def cPart (v : eV) (n a b i : Nat) : Bool := !cOut v i && decide (0 < cPts v n i a b)
def cParts (v : eV) (n a b : Nat) : Nat → Int32
  | 0 => 0
  | i + 1 => if cPart v n a b i = true then cParts v n a b i ||| ((1 : Int32) <<< (nI i &&& 31)) else cParts v n a b i
def cBusy (v : eV) (p : Int32) (h : Nat) (n : Nat) : Bool := anyN (fun r => !decide (v (5 + r) (h - 8) = -1) && !decide (v (5 + r) (h - 8) &&& p = 0)) n
def cTired (v : eV) (n2 : Nat) (p : Int32) (a b : Nat) (n : Nat) : Bool := anyN (fun i => cTakes p i && decide (60 < v (20 + 7 * i) 2 + cPts v n2 i a b)) n
def cNeed (v : eV) (l lv j c dl n : Nat) : Int32 := if (cOut v j || decide (0 < cLiftsW v (nI j) (v (80 + l) 0) (v (80 + l) 0) n)) = true then 3 else if cBesL v j dl c = true then 0 else if cCanD v (20 + 7 * j) (20 + 7 * lv) c = true then 2 else 3
theorem cK_rows {kd sp : Nat → Nat} (h : cK kd sp) {r : Nat} (hr : r < 3) : kd (5 + r) = 33 := h.1.2.2.2.2.2 r hr
theorem e_absF {x : Int32} : (if 0 ≤ x then x else 0 - x) = mFlat x := by
  unfold mFlat
  by_cases h : x < 0
  · rw [if_neg (Int32.not_le.mpr h), if_pos h, Int32.zero_sub]
  · rw [if_pos (Int32.not_lt.mp h), if_neg h]
theorem cLast_0 {v : eV} {i : Nat} (h : 1 ≤ i) (g : v 3 i = 0) : cLast v i = cLast v (i - 1) := by
  obtain ⟨n, rfl⟩ : ∃ n, i = n + 1 := ⟨i - 1, by omega⟩
  show ite _ _ _ = _
  rw [if_pos g]
  rfl
theorem cLast_n {v : eV} {i : Nat} (h : ¬ i = 0) (g : ¬ v 3 i = 0) : cLast v i = v 3 i := by
  obtain ⟨n, rfl⟩ : ∃ n, i = n + 1 := ⟨i - 1, by omega⟩
  show ite _ _ _ = _
  rw [if_neg g]
theorem cUp_0 {v : eV} {i : Nat} (g : v 3 i = 0) : cUp v (i + 1) = cUp v i := if_pos g
theorem cUp_n {v : eV} {i : Nat} (g : ¬ v 3 i = 0) : cUp v (i + 1) = v 3 i := if_neg g
theorem cParts_t {v : eV} {n a b i : Nat} (g : cPart v n a b i = true) : cParts v n a b (i + 1) = cParts v n a b i ||| ((1 : Int32) <<< (nI i &&& 31)) := if_pos g
theorem cParts_f {v : eV} {n a b i : Nat} (g : cPart v n a b i = false) : cParts v n a b (i + 1) = cParts v n a b i := if_neg (by rw [g]; decide)

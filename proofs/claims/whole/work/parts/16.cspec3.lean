/-! the class's public methods: the code (0: it returns; else which throw), the answer, the numbers behind it -/
theorem nl5 : nI 5 = 5 := rfl
def xP (m : List (String × Int32)) (C : Int32) : String → Prop := fun E => ∃ k, (E, k) ∈ m ∧ C = k
def cOkN (n : Nat) (d : Int32) : Bool := !decide (d < 0) && decide (d < nI n)
def cOkC (c : Int32) : Bool := !decide (c < 0) && decide (c < 64)
def cOkR (r : Int32) : Bool := !decide (r < 0) && decide (r < 3)
def cOkH (h : Int32) : Bool := !decide (h < 8) && decide (h < 21)
theorem cOkN_nat {n : Nat} {d : Int32} (hn : n < 2 ^ 31) (h : cOkN n d = true) : ∃ j, j < n ∧ d = nI j := by
  unfold cOkN at h
  simp only [Bool.and_eq_true, Bool.not_eq_true', decide_eq_false_iff_not, decide_eq_true_eq] at h
  obtain ⟨j, hj, e⟩ := nI_of h.1
  subst e
  exact ⟨j, (nI_ltI hj hn).mp h.2, rfl⟩
theorem cOkC_nat {c : Int32} (h : cOkC c = true) : ∃ j, j < 64 ∧ c = nI j := cOkN_nat (n := 64) (by decide) h
theorem cOkR_nat {c : Int32} (h : cOkR c = true) : ∃ j, j < 3 ∧ c = nI j := cOkN_nat (n := 3) (by decide) h
theorem cOkH_nat {c : Int32} (h : cOkH c = true) : ∃ j, (8 ≤ j ∧ j ≤ 20) ∧ c = nI j := by
  unfold cOkH at h
  simp only [Bool.and_eq_true, Bool.not_eq_true', decide_eq_false_iff_not, decide_eq_true_eq] at h
  have h0 : ¬ c < 0 := fun g => h.1 (Int32.lt_trans g (by decide))
  obtain ⟨j, hj, e⟩ := nI_of h0
  subst e
  have h1 : 8 ≤ j := Nat.not_lt.mp (fun g => h.1 (nI_lt (b := 8) g (by decide)))
  have h2 : j < 21 := (nI_ltI (b := 21) hj (by decide)).mp h.2
  exact ⟨j, ⟨h1, by omega⟩, rfl⟩
def cPlaceC (n : Nat) (d c : Int32) : Int32 := if (cOkN n d && cOkC c) = true then 0 else 1
def cPlaceV (v : eV) (d c b : Int32) : Int32 := v (cTr (20 + 7 * nN d) b + 2) (nN c)
def cAnewV (v : eV) (d c b : Int32) : Int32 := cFollow v (cTr (20 + 7 * nN d) b) (nN c + 1)
def cClashesC (c : Int32) : Int32 := if cOkC c = true then 0 else 1
def cFirst (v : eV) (n : Nat) : Int32 := firstN (fun c => decide (0 < cClash v c n n)) 64 0
def cKneesC (n : Nat) (d : Int32) : Int32 := if cOkN n d = true then 0 else 1
def cRehearsalC (r h : Int32) : Int32 := if (cOkR r && cOkH h) = true then 0 else 1
def cTempoC (c x : Int32) : Int32 := if cOkC c = true then (if mIn x 1 1000000000 = true then 0 else 2) else 1
def cBeginsC (v : eV) (c : Int32) : Int32 := if cOkC c = true then (if 2147483647 < cSum v (nN c) then 2 else 0) else 1
def cOfLiftC (n : Nat) (l x : Int32) : Int32 := if cOkN n l = true then (if (!decide (x < 0) && decide (x < 5)) = true then 0 else 2) else 1
def cOfLiftV (v : eV) (n : Nat) (l x : Int32) : Int32 := if x = 0 then v (80 + nN l) 0 else if x = 1 then v (80 + nN l) 1 else if x = 2 then v (80 + nN l) 2 else if x = 3 then v (80 + nN l) 3 else cState v (nN l) (nN (v (80 + nN l) 0)) (nN (v (80 + nN l) 1)) (nN (v (80 + nN l) 2)) (nN (v (80 + nN l) 3)) n
def cMoveC (v : eV) (n : Nat) (d c x y : Int32) : Int32 := if (cOkN n d && cOkC c) = true then (if (mIn x (-2) 2 && mIn y (-2) 2) = true then (if cOut v (nN d) = true then 3 else 0) else 2) else 1
def cMoveS (v : eV) (d c : Nat) (x y : Int32) : eV := cWrite (cWrite v (20 + 7 * d + 1) c x) (20 + 7 * d + 4) c y
def cRehB (v : eV) (n n2 r h a b : Nat) : Bool := !decide (v (5 + r) (h - 8) = -1) || cBusy v (cParts v n2 a b n) h 3 || cTired v n2 (cParts v n2 a b n) a b n
def cRehC (v : eV) (n n2 : Nat) (r h a b : Int32) : Int32 := if (cOkR r && cOkH h && cOkC a && cOkC b) = true then (if b < a then 2 else if cRehB v n n2 (nN r) (nN h) (nN a) (nN b) = true then 3 else 0) else 1
def cRehS (v : eV) (n n2 r h a b : Nat) : eV := e_set (cCharge v n2 (cParts v n2 a b n) a b n) (5 + r) (h - 8) (cParts v n2 a b n)
def cHurtC (v : eV) (n : Nat) (d : Int32) : Int32 := if cOkN n d = true then (if cOut v (nN d) = true then 2 else 0) else 1
def cHit (v : eV) (l d : Nat) : Bool := decide (v (80 + l) 4 = 0) && cBy v (80 + l) (nI d)
def cMendAll (v : eV) (n n2 d : Nat) : Nat → eV × Int32
  | 0 => (v, 0)
  | l + 1 => if cHit (cMendAll v n n2 d l).1 l d = true then (cReplS (cMendAll v n n2 d l).1 l d (nN ((cMendAll v n n2 d l).1 (80 + l) 0)) (nN ((cMendAll v n n2 d l).1 (80 + l) 1)) n n2, (cMendAll v n n2 d l).2 + cReplV (cMendAll v n n2 d l).1 l d (nN ((cMendAll v n n2 d l).1 (80 + l) 0)) (nN ((cMendAll v n n2 d l).1 (80 + l) 1)) n n2)
    else cMendAll v n n2 d l
theorem cMendAll_hit {U u : eV} {n n2 d l c dl : Nat} {y : Int32} (h : cMendAll U n n2 d l = (u, y)) (g : cHit u l d = true) (ec : u (80 + l) 0 = nI c) (el : u (80 + l) 1 = nI dl) (hc : c < 64) (hd : dl < 8) : cMendAll U n n2 d (l + 1) = (cReplS u l d c dl n n2, y + cReplV u l d c dl n n2) := by
  unfold cMendAll
  rw [h]
  show ite _ _ _ = _
  rw [if_pos g, nN_of ec (by omega), nN_of el (by omega)]
theorem cMendAll_miss {U u : eV} {n n2 d l : Nat} {y : Int32} (h : cMendAll U n n2 d l = (u, y)) (g : ¬ cHit u l d = true) : cMendAll U n n2 d (l + 1) = (u, y) := by
  unfold cMendAll
  rw [h]
  show ite _ _ _ = _
  rw [if_neg g]
def cHurt0 (v : eV) (n2 d : Nat) : eV := cDrop (e_set v (20 + 7 * d) 3 1) (nI d) n2
/-! which cells the writers leave alone -/
theorem es_ne {v : eV} {n k m : Nat} {x : Int32} (h : m ≠ n) : e_set v n k x m = v m := if_neg h
theorem es_eq {v : eV} {n k : Nat} {x : Int32} : e_set v n k x n = upd (v n) k x := if_pos rfl
theorem cShift_ne {v : eV} {t c m : Nat} {w : Int32} (h : m ≠ t + 2) : ∀ k, cShift v t c w k m = v m
  | 0 => rfl
  | k + 1 => (es_ne h).trans (cShift_ne h k)
theorem cWrite_ne {v : eV} {t c m : Nat} {w : Int32} (h1 : m ≠ t + 1) (h2 : m ≠ t + 2) : cWrite v t c w m = v m := (cShift_ne h2 _).trans (es_ne h1)
theorem cVisit_ne {v : eV} {t g c m : Nat} (h1 : m ≠ t + 1) (h2 : m ≠ t + 2) : cVisit v t g c m = v m := (cWrite_ne h1 h2).trans (cWrite_ne h1 h2)
theorem cVisitD_ne {v : eV} {d g c m : Nat} (h1 : m ≠ d + 1 + 1) (h2 : m ≠ d + 1 + 2) (h3 : m ≠ d + 4 + 1) (h4 : m ≠ d + 4 + 2) : cVisitD v d g c m = v m := (cVisit_ne h3 h4).trans (cVisit_ne h1 h2)
theorem cDrop_ne {v : eV} {d : Int32} {m : Nat} : ∀ l, (∀ i, i < l → m ≠ 80 + i) → cDrop v d l m = v m
  | 0, _ => rfl
  | l + 1, h => by
    unfold cDrop
    split
    · exact (es_ne (h l (by omega))).trans (cDrop_ne l (fun i hi => h i (by omega)))
    · exact cDrop_ne l (fun i hi => h i (by omega))
theorem cDrop_k {v : eV} {d : Int32} {m k : Nat} (hk : k ≠ 4) : ∀ l, cDrop v d l m k = v m k
  | 0 => rfl
  | l + 1 => by
    unfold cDrop
    split
    · show (if m = 80 + l then upd (cDrop v d l (80 + l)) 4 1 else cDrop v d l m) k = _
      split
      · rename_i e
        subst e
        show (if k = 4 then _ else _) = _
        rw [if_neg hk]
        exact cDrop_k hk l
      · exact cDrop_k hk l
    · exact cDrop_k hk l
theorem cI_of {sp : Nat → Nat} {v u : eV} (h : cI sp v) (h1 : ∀ i, i < sp 0 → u (20 + 7 * i) 3 = 0 ∨ u (20 + 7 * i) 3 = 1) (h2 : ∀ i, i < sp 1 → u (80 + i) 0 = v (80 + i) 0 ∧ u (80 + i) 1 = v (80 + i) 1) (h3 : ∀ i, i < sp 1 → ∃ d, d < sp 0 ∧ u (80 + i) 2 = nI d) (h4 : ∀ i, i < sp 1 → ∃ d, d < sp 0 ∧ u (80 + i) 3 = nI d) : cI sp u :=
  ⟨h1, fun i hi => by rw [(h2 i hi).1]; exact h.2.1 i hi, fun i hi => by rw [(h2 i hi).2]; exact h.2.2.1 i hi, h3, h4⟩
theorem cI_hurt0 {sp : Nat → Nat} {v : eV} {n2 d : Nat} (h : cI sp v) (hd : d < 8) (hs : sp 0 ≤ 8) : cI sp (cHurt0 v n2 d) := by
  have hl : ∀ i k, k ≠ 4 → cHurt0 v n2 d (80 + i) k = v (80 + i) k := fun i k hk => by
    unfold cHurt0
    rw [cDrop_k hk, es_ne (by omega)]
  refine cI_of h (fun i hi => ?_) (fun i hi => ⟨hl i 0 (by decide), hl i 1 (by decide)⟩) (fun i hi => by rw [hl i 2 (by decide)]; exact h.2.2.2.1 i hi) (fun i hi => by rw [hl i 3 (by decide)]; exact h.2.2.2.2 i hi)
  unfold cHurt0
  rw [cDrop_k (by decide)]
  by_cases e : i = d
  · subst e
    rw [es_eq]
    exact Or.inr rfl
  · rw [es_ne (by omega)]
    exact h.1 i hi
theorem cI_repl {sp : Nat → Nat} {v : eV} {l a : Nat} {b : Int32} (h : cI sp v) (hs : sp 0 ≤ 8) {w : Nat} (hb : b = nI w) (hw : w < sp 0) {r : Int32} : cI sp (cRepl v (80 + l) r b) := by
  have ho : ∀ i, i < sp 0 → cRepl v (80 + l) r b (20 + 7 * i) = v (20 + 7 * i) := fun i hi => by
    unfold cRepl
    split <;> exact es_ne (by omega)
  have hk : ∀ i k, k ≠ 2 → k ≠ 3 → cRepl v (80 + l) r b (80 + i) k = v (80 + i) k := fun i k h2 h3 => by
    unfold cRepl
    by_cases e : i = l
    · subst e
      split
      · rw [es_eq]; exact if_neg h2
      · rw [es_eq]; exact if_neg h3
    · split <;> rw [es_ne (by omega)]
  refine cI_of h (fun i hi => by rw [ho i hi]; exact h.1 i hi) (fun i hi => ⟨hk i 0 (by decide) (by decide), hk i 1 (by decide) (by decide)⟩) (fun i hi => ?_) (fun i hi => ?_)
  · unfold cRepl
    by_cases e : i = l
    · subst e
      split
      · rw [es_eq]; exact ⟨w, hw, hb⟩
      · rw [es_eq]; exact h.2.2.2.1 _ hi
    · split <;> rw [es_ne (by omega)] <;> exact h.2.2.2.1 _ hi
  · unfold cRepl
    by_cases e : i = l
    · subst e
      split
      · rw [es_eq]; exact h.2.2.2.2 _ hi
      · rw [es_eq]; exact ⟨w, hw, hb⟩
    · split <;> rw [es_ne (by omega)] <;> exact h.2.2.2.2 _ hi
theorem cI_replS {sp : Nat → Nat} {v : eV} {l lv c dl : Nat} (h : cI sp v) (hs : sp 0 ≤ 8) (hl : l < sp 1) : cI sp (cReplS v l lv c dl (sp 0) (sp 1)) := by
  unfold cReplS
  obtain ⟨x, y, e⟩ : ∃ x y, cFind v l lv c dl (sp 0) (sp 1) = (x, y) := ⟨_, _, rfl⟩
  rw [e]
  split
  · refine cI_of h (fun i hi => by rw [es_ne (by omega)]; exact h.1 i hi) (fun i hi => ?_) (fun i hi => ?_) (fun i hi => ?_)
    · by_cases q : i = l
      · subst q; rw [es_eq]; exact ⟨rfl, rfl⟩
      · rw [es_ne (by omega)]; exact ⟨rfl, rfl⟩
    · by_cases q : i = l
      · subst q; rw [es_eq]; exact h.2.2.2.1 _ hi
      · rw [es_ne (by omega)]; exact h.2.2.2.1 _ hi
    · by_cases q : i = l
      · subst q; rw [es_eq]; exact h.2.2.2.2 _ hi
      · rw [es_ne (by omega)]; exact h.2.2.2.2 _ hi
  · rename_i g
    obtain ⟨j, hj, ej, -, -⟩ := (cBest_get e).2 g
    refine cI_repl (a := 0) ?_ hs ej hj
    split
    · refine cI_of h (fun i hi => ?_) (fun i hi => ?_) (fun i hi => ?_) (fun i hi => ?_)
      all_goals rw [show (x, y).1 = x from rfl, ej, nN_of (x := nI j) rfl (by omega)]
      · rw [cVisitD_ne (by omega) (by omega) (by omega) (by omega)]; exact h.1 i hi
      · rw [cVisitD_ne (by omega) (by omega) (by omega) (by omega)]; exact ⟨rfl, rfl⟩
      · rw [cVisitD_ne (by omega) (by omega) (by omega) (by omega)]; exact h.2.2.2.1 i hi
      · rw [cVisitD_ne (by omega) (by omega) (by omega) (by omega)]; exact h.2.2.2.2 i hi
    · exact h


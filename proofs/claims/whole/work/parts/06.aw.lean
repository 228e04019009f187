/-! THE REFERENCE, as functions of its numbers v: 101 first, 102 second, 103 out, 104 knees, 105 mx, 106 my, 107 lc, 108 ll, 109 la, 110 lb, 111 lg, 112 told, 113 taken; v 100 4 dancers, 12 lifts, 15 day, 16 thrown -/
def mkd : Nat → Nat
  | 100 => 12 | 101 => 28 | 102 => 28 | 103 => 28 | 104 => 28 | 105 => 532 | 106 => 532 | 107 => 32 | 108 => 32 | 109 => 32 | 110 => 32 | 111 => 32 | 112 => 84 | 113 => 59 | _ => 0
def mK (kd : Nat → Nat) : Prop := ∀ n, 100 ≤ n → n < 114 → kd n = mkd n
def mI (dn ln : Nat) (v : eV) : Prop := v 100 4 = nI dn ∧ v 100 12 = nI ln ∧ dn ≤ 8 ∧ ln ≤ 12 ∧ (∀ i, i < ln → ∃ c, c < 64 ∧ v 107 i = nI c) ∧ (∀ i, i < ln → ∃ d, d < dn ∧ v 108 i = nI d) ∧ (∀ i, i < ln → ∃ d, d < dn ∧ v 109 i = nI d) ∧ (∀ i, i < ln → ∃ d, d < dn ∧ v 110 i = nI d)
def sumN (f : Nat → Int32) : Nat → Int32
  | 0 => 0
  | n + 1 => sumN f n + f n
def anyN (f : Nat → Bool) : Nat → Bool
  | 0 => false
  | n + 1 => anyN f n || f n
theorem bI_or (a b : Bool) : bI a ||| bI b = bI (a || b) := by cases a <;> cases b <;> decide
def mIn (x lo hi : Int32) : Bool := !decide (x < lo) && !decide (hi < x)
def mX (v : eV) (d n : Nat) : Int32 := v 101 d + sumN (fun j => v 105 (64 * d + j)) n
def mY (v : eV) (d n : Nat) : Int32 := v 102 d + sumN (fun j => v 106 (64 * d + j)) n
def mAt (v : eV) (d n e k : Nat) : Bool := decide (mX v d n = mX v e k) && decide (mY v d n = mY v e k)
def mOf (v : eV) (l : Nat) (d : Int32) : Bool := decide (v 108 l = d) || decide (v 109 l = d) || decide (v 110 l = d)
def mLiftsOf (v : eV) (d c : Int32) (n : Nat) : Int32 := sumN (fun i => bI (decide (v 111 i = 0) && decide (v 107 i = c) && mOf v i d)) n
def mBeside (v : eV) (d e c : Nat) : Bool := !mAt v d (c + 1) e (c + 1) && mIn (mX v d (c + 1) - mX v e (c + 1)) (-1) 1 && mIn (mY v d (c + 1) - mY v e (c + 1)) (-1) 1
def mLast (v : eV) : Nat → Int32
  | 0 => 500
  | n + 1 => if 0 < v 112 n then v 112 n else mLast v n
def mFlat (x : Int32) : Int32 := if x < 0 then -x else x
def mCost (v : eV) (ln d a n : Nat) : Int32 := sumN (fun i => mFlat (v 105 (64 * d + (a + i))) + mFlat (v 106 (64 * d + (a + i))) + 5 * mLiftsOf v (nI d) (nI (a + i)) ln) n
def mBusy (v : eV) (d h n : Nat) : Bool := anyN (fun r => !decide (v 113 (13 * r + h - 8) < 0) && decide ((v 113 (13 * r + h - 8) >>> (nI d &&& 31)) &&& 1 = 1)) n
theorem e_pred {a : Nat} (h : a < 2 ^ 30) : (nI a - 1).toInt = (a : Int) - 1 := by
  have h1 := pk_sub_toInt (a := a) (b := 1) h (by decide)
  exact h1
theorem e_pred_lt {a b : Nat} (ha : a < 2 ^ 30) (hb : b < 2 ^ 30) : nI a - 1 < nI b ↔ a ≤ b := by
  rw [Int32.lt_iff_toInt_lt, e_pred ha, nI_toInt (by omega)]
  omega
theorem e_xc {a n i : Nat} {c : Int32} (hc : c + 1 = nI n) (ha : a < 1000) (hn : n < 1000) (hi : i < 1000) : nI a + c < nI (a + i) ↔ n ≤ i := by
  have e : nI a + c = nI (a + n) - 1 := by
    rw [← nI_add a n, ← hc, Int32.sub_eq_add_neg]
    simp only [Int32.add_assoc]
    rw [show (1 : Int32) + -1 = 0 by decide, Int32.add_zero]
  rw [e, e_pred_lt (by omega) (by omega)]
  omega
theorem e_sub1 {n : Nat} : (nI n - 1) + 1 = nI n := by rw [Int32.sub_add_cancel]
def mStands (v : eV) (i c0 dl da db ln : Nat) : Bool := (mBeside v da dl c0 && mBeside v db dl c0) && (decide (mLiftsOf v (nI dl) (nI c0) ln = 1) && decide (mLiftsOf v (nI da) (nI c0) ln = 1) && decide (mLiftsOf v (nI db) (nI c0) ln = 1)) && decide (v 103 dl + v 103 da + v 103 db = 0)
def mOffI (v : eV) (d c : Nat) : Int32 := if (mIn (mX v d (c + 1)) 0 7 && mIn (mY v d (c + 1)) 0 7) = true then 0 else 1
def mPair (v : eV) (d e c : Nat) : Bool := mAt v d (c + 1) e (c + 1) || (mAt v d (c + 1) e c && mAt v e (c + 1) d c)
def mPairs (v : eV) (c d : Nat) (n : Nat) : Int32 := sumN (fun j => bI (mPair v d j c)) n
def mClash (v : eV) (c : Nat) : Nat → Int32
  | 0 => 0
  | n + 1 => mClash v c n + mOffI v n c + mPairs v c n n
def mWX (v : eV) (d h c : Nat) : Int32 := mX v h (c + 1) - mX v d (c + 1)
def mWY (v : eV) (d h c : Nat) : Int32 := mY v h (c + 1) - mY v d (c + 1)
def mCanCome (v : eV) (d h c : Nat) : Bool := !decide (c = 63) && mIn (mWX v d h c) (-2) 2 && mIn (mWY v d h c) (-2) 2 && mIn (v 105 (64 * d + c) + mWX v d h c) (-2) 2 && mIn (v 106 (64 * d + c) + mWY v d h c) (-2) 2 && mIn (v 105 (64 * d + c + 1) - mWX v d h c) (-2) 2 && mIn (v 106 (64 * d + c + 1) - mWY v d h c) (-2) 2
theorem inJx4a65c : ∀ w ∈ wsJx4a65c0, w ∈ AW := fun w h => aw_of ((by decide +kernel : ∀ w ∈ wsJx4a65c0, w ∈ lw_tbl) w h) ((by decide +kernel : ∀ w ∈ wsJx4a65c0, goodWord w = true) w h)
theorem inX4 : ∀ w ∈ wsX40, w ∈ AW := fun w h => aw_of ((by decide +kernel : ∀ w ∈ wsX40, w ∈ lw_tbl) w h) ((by decide +kernel : ∀ w ∈ wsX40, goodWord w = true) w h)
theorem inX3 : ∀ w ∈ wsX30, w ∈ AW := fun w h => aw_of ((by decide +kernel : ∀ w ∈ wsX30, w ∈ lw_tbl) w h) ((by decide +kernel : ∀ w ∈ wsX30, goodWord w = true) w h)
theorem inX2 : ∀ w ∈ wsX20, w ∈ AW := fun w h => aw_of ((by decide +kernel : ∀ w ∈ wsX20, w ∈ lw_tbl) w h) ((by decide +kernel : ∀ w ∈ wsX20, goodWord w = true) w h)
theorem inX1 : ∀ w ∈ wsX10, w ∈ AW := fun w h => aw_of ((by decide +kernel : ∀ w ∈ wsX10, w ∈ lw_tbl) w h) ((by decide +kernel : ∀ w ∈ wsX10, goodWord w = true) w h)
theorem inX0 : ∀ w ∈ wsX00, w ∈ AW := fun w h => aw_of ((by decide +kernel : ∀ w ∈ wsX00, w ∈ lw_tbl) w h) ((by decide +kernel : ∀ w ∈ wsX00, goodWord w = true) w h)
theorem aw_0 : Cond.fieldLink RX4 56 "StepscriptModel" "dancers" "I" ∈ AW := aw_of (List.mem_of_getElem? (i := 723) (by decide +kernel)) (by decide +kernel)
theorem aw_1 : Cond.methodLink RX4 59 yX4_in ∈ AW := aw_of (List.mem_of_getElem? (i := 779) (by decide +kernel)) (by decide +kernel)
theorem aw_2 : Cond.instanceMethod yX4_in ∈ AW := aw_of (List.mem_of_getElem? (i := 781) (by decide +kernel)) (by decide +kernel)
theorem aw_3 : Cond.selects RX4 yX4_in yX4_in ∈ AW := aw_of (List.mem_of_getElem? (i := 24) (by decide +kernel)) (by decide +kernel)
theorem aw_4 : Cond.initialized RX4 ∈ AW := aw_of (List.mem_of_getElem? (i := 49) (by decide +kernel)) (by decide +kernel)
set_option maxRecDepth 100000 in
theorem aw_5 : Cond.code yX4_in cX4_in 4 (some .boolean) ∈ AW := aw_of (List.mem_of_getElem? (i := 782) rfl) (by decide +kernel)
theorem cw_RX4_59 : e_cwV RX4 59 RX4 yX4_in cX4_in 4 (some .boolean) 3 := ⟨aw_1, aw_2, aw_3, aw_4, aw_5, rfl, by decide +kernel, by decide +kernel, by decide +kernel⟩
theorem aw_7 : Cond.fieldLink RX4 7 "StepscriptModel" "first" "[I" ∈ AW := aw_of (List.mem_of_getElem? (i := 719) (by decide +kernel)) (by decide +kernel)
theorem aw_8 : Cond.fieldLink RX4 22 "StepscriptModel" "mx" "[I" ∈ AW := aw_of (List.mem_of_getElem? (i := 724) (by decide +kernel)) (by decide +kernel)
theorem aw_9 : Cond.fieldLink RX4 13 "StepscriptModel" "second" "[I" ∈ AW := aw_of (List.mem_of_getElem? (i := 720) (by decide +kernel)) (by decide +kernel)
theorem aw_10 : Cond.fieldLink RX4 25 "StepscriptModel" "my" "[I" ∈ AW := aw_of (List.mem_of_getElem? (i := 725) (by decide +kernel)) (by decide +kernel)
theorem aw_11 : Cond.methodLink RX4 77 yX4_x ∈ AW := aw_of (List.mem_of_getElem? (i := 807) (by decide +kernel)) (by decide +kernel)
theorem aw_12 : Cond.instanceMethod yX4_x ∈ AW := aw_of (List.mem_of_getElem? (i := 809) (by decide +kernel)) (by decide +kernel)
theorem aw_13 : Cond.selects RX4 yX4_x yX4_x ∈ AW := aw_of (List.mem_of_getElem? (i := 29) (by decide +kernel)) (by decide +kernel)
set_option maxRecDepth 100000 in
theorem aw_14 : Cond.code yX4_x cX4_x 5 (some .int) ∈ AW := aw_of (List.mem_of_getElem? (i := 810) rfl) (by decide +kernel)
theorem cw_RX4_77 : e_cwV RX4 77 RX4 yX4_x cX4_x 5 (some .int) 2 := ⟨aw_11, aw_12, aw_13, aw_4, aw_14, rfl, by decide +kernel, by decide +kernel, by decide +kernel⟩
theorem aw_16 : Cond.methodLink RX4 73 yX4_y ∈ AW := aw_of (List.mem_of_getElem? (i := 803) (by decide +kernel)) (by decide +kernel)
theorem aw_17 : Cond.instanceMethod yX4_y ∈ AW := aw_of (List.mem_of_getElem? (i := 805) (by decide +kernel)) (by decide +kernel)
theorem aw_18 : Cond.selects RX4 yX4_y yX4_y ∈ AW := aw_of (List.mem_of_getElem? (i := 28) (by decide +kernel)) (by decide +kernel)
set_option maxRecDepth 100000 in
theorem aw_19 : Cond.code yX4_y cX4_y 5 (some .int) ∈ AW := aw_of (List.mem_of_getElem? (i := 806) rfl) (by decide +kernel)
theorem cw_RX4_73 : e_cwV RX4 73 RX4 yX4_y cX4_y 5 (some .int) 2 := ⟨aw_16, aw_17, aw_18, aw_4, aw_19, rfl, by decide +kernel, by decide +kernel, by decide +kernel⟩
theorem aw_21 : Cond.fieldLink RX4 31 "StepscriptModel" "ll" "[I" ∈ AW := aw_of (List.mem_of_getElem? (i := 727) (by decide +kernel)) (by decide +kernel)
theorem aw_22 : Cond.fieldLink RX4 34 "StepscriptModel" "la" "[I" ∈ AW := aw_of (List.mem_of_getElem? (i := 728) (by decide +kernel)) (by decide +kernel)
theorem aw_23 : Cond.fieldLink RX4 37 "StepscriptModel" "lb" "[I" ∈ AW := aw_of (List.mem_of_getElem? (i := 729) (by decide +kernel)) (by decide +kernel)
theorem aw_24 : Cond.fieldLink RX4 88 "StepscriptModel" "lifts" "I" ∈ AW := aw_of (List.mem_of_getElem? (i := 731) (by decide +kernel)) (by decide +kernel)
theorem aw_25 : Cond.fieldLink RX4 40 "StepscriptModel" "lg" "[I" ∈ AW := aw_of (List.mem_of_getElem? (i := 730) (by decide +kernel)) (by decide +kernel)
theorem aw_26 : Cond.fieldLink RX4 28 "StepscriptModel" "lc" "[I" ∈ AW := aw_of (List.mem_of_getElem? (i := 726) (by decide +kernel)) (by decide +kernel)
theorem aw_27 : Cond.methodLink RX4 91 yX4_isOf ∈ AW := aw_of (List.mem_of_getElem? (i := 851) (by decide +kernel)) (by decide +kernel)
theorem aw_28 : Cond.instanceMethod yX4_isOf ∈ AW := aw_of (List.mem_of_getElem? (i := 853) (by decide +kernel)) (by decide +kernel)
theorem aw_29 : Cond.selects RX4 yX4_isOf yX4_isOf ∈ AW := aw_of (List.mem_of_getElem? (i := 35) (by decide +kernel)) (by decide +kernel)
set_option maxRecDepth 100000 in
theorem aw_30 : Cond.code yX4_isOf cX4_isOf 3 (some .boolean) ∈ AW := aw_of (List.mem_of_getElem? (i := 854) rfl) (by decide +kernel)
theorem cw_RX4_91 : e_cwV RX4 91 RX4 yX4_isOf cX4_isOf 3 (some .boolean) 2 := ⟨aw_27, aw_28, aw_29, aw_4, aw_30, rfl, by decide +kernel, by decide +kernel, by decide +kernel⟩
theorem aw_32 : Cond.methodLink RX4 80 yX4_isAt ∈ AW := aw_of (List.mem_of_getElem? (i := 823) (by decide +kernel)) (by decide +kernel)
theorem aw_33 : Cond.instanceMethod yX4_isAt ∈ AW := aw_of (List.mem_of_getElem? (i := 825) (by decide +kernel)) (by decide +kernel)
theorem aw_34 : Cond.selects RX4 yX4_isAt yX4_isAt ∈ AW := aw_of (List.mem_of_getElem? (i := 31) (by decide +kernel)) (by decide +kernel)
set_option maxRecDepth 100000 in
theorem aw_35 : Cond.code yX4_isAt cX4_isAt 5 (some .boolean) ∈ AW := aw_of (List.mem_of_getElem? (i := 826) rfl) (by decide +kernel)
theorem cw_RX4_80 : e_cwV RX4 80 RX4 yX4_isAt cX4_isAt 5 (some .boolean) 4 := ⟨aw_32, aw_33, aw_34, aw_4, aw_35, rfl, by decide +kernel, by decide +kernel, by decide +kernel⟩
theorem aw_37 : Cond.fieldLink RX4 43 "StepscriptModel" "told" "[I" ∈ AW := aw_of (List.mem_of_getElem? (i := 732) (by decide +kernel)) (by decide +kernel)
theorem aw_38 : Cond.methodLink RX4 110 yX4_flat ∈ AW := aw_of (List.mem_of_getElem? (i := 877) (by decide +kernel)) (by decide +kernel)
theorem aw_39 : Cond.instanceMethod yX4_flat ∈ AW := aw_of (List.mem_of_getElem? (i := 879) (by decide +kernel)) (by decide +kernel)
theorem aw_40 : Cond.selects RX4 yX4_flat yX4_flat ∈ AW := aw_of (List.mem_of_getElem? (i := 38) (by decide +kernel)) (by decide +kernel)
set_option maxRecDepth 100000 in
theorem aw_41 : Cond.code yX4_flat cX4_flat 2 (some .int) ∈ AW := aw_of (List.mem_of_getElem? (i := 880) rfl) (by decide +kernel)
theorem cw_RX4_110 : e_cwV RX4 110 RX4 yX4_flat cX4_flat 2 (some .int) 1 := ⟨aw_38, aw_39, aw_40, aw_4, aw_41, rfl, by decide +kernel, by decide +kernel, by decide +kernel⟩
theorem aw_43 : Cond.methodLink RX4 98 yX4_liftsOf ∈ AW := aw_of (List.mem_of_getElem? (i := 847) (by decide +kernel)) (by decide +kernel)
theorem aw_44 : Cond.instanceMethod yX4_liftsOf ∈ AW := aw_of (List.mem_of_getElem? (i := 849) (by decide +kernel)) (by decide +kernel)
theorem aw_45 : Cond.selects RX4 yX4_liftsOf yX4_liftsOf ∈ AW := aw_of (List.mem_of_getElem? (i := 34) (by decide +kernel)) (by decide +kernel)
set_option maxRecDepth 100000 in
theorem aw_46 : Cond.code yX4_liftsOf cX4_liftsOf 5 (some .int) ∈ AW := aw_of (List.mem_of_getElem? (i := 850) rfl) (by decide +kernel)
theorem cw_RX4_98 : e_cwV RX4 98 RX4 yX4_liftsOf cX4_liftsOf 5 (some .int) 2 := ⟨aw_43, aw_44, aw_45, aw_4, aw_46, rfl, by decide +kernel, by decide +kernel, by decide +kernel⟩
theorem aw_48 : Cond.fieldLink RX4 46 "StepscriptModel" "taken" "[I" ∈ AW := aw_of (List.mem_of_getElem? (i := 733) (by decide +kernel)) (by decide +kernel)
theorem aw_49 : Cond.fieldLink RX4 16 "StepscriptModel" "out" "[I" ∈ AW := aw_of (List.mem_of_getElem? (i := 721) (by decide +kernel)) (by decide +kernel)
theorem aw_50 : Cond.methodLink RX4 95 yX4_isBeside ∈ AW := aw_of (List.mem_of_getElem? (i := 843) (by decide +kernel)) (by decide +kernel)
theorem aw_51 : Cond.instanceMethod yX4_isBeside ∈ AW := aw_of (List.mem_of_getElem? (i := 845) (by decide +kernel)) (by decide +kernel)
theorem aw_52 : Cond.selects RX4 yX4_isBeside yX4_isBeside ∈ AW := aw_of (List.mem_of_getElem? (i := 33) (by decide +kernel)) (by decide +kernel)
set_option maxRecDepth 100000 in
theorem aw_53 : Cond.code yX4_isBeside cX4_isBeside 4 (some .boolean) ∈ AW := aw_of (List.mem_of_getElem? (i := 846) rfl) (by decide +kernel)
theorem cw_RX4_95 : e_cwV RX4 95 RX4 yX4_isBeside cX4_isBeside 4 (some .boolean) 3 := ⟨aw_50, aw_51, aw_52, aw_4, aw_53, rfl, by decide +kernel, by decide +kernel, by decide +kernel⟩

/-! the words of all methods together: what the tables say and what stays -/
def AW : List Cond := lw_tbl.filter goodWord
theorem aw_tbl : ∀ w ∈ AW, w ∈ lw_tbl := fun _ h => (List.mem_filter.mp h).1
theorem aw_of {w : Cond} (h : w ∈ lw_tbl) (g : goodWord w = true) : w ∈ AW := List.mem_filter.mpr ⟨h, g⟩
theorem aw_good {w : Cond} (h : w ∈ AW) : (w.onTables && w.keeps) = true ∨ ∃ ty, w = .arrayClass ty := good_of_word (List.mem_filter.mp h).2
theorem aw_in {y : MethodName} {b : ByteArray} {n : Nat} {r : Option FieldType} (h : Cond.code y b n r ∈ AW) : GoodIn AW (.code y b n r :: AW) := fun w hw => (List.mem_cons.mp hw).elim (fun e => by subst e; exact ⟨h, aw_good h⟩) (fun hw => ⟨hw, aw_good hw⟩)

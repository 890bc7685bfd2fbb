/-! the words of the tables that are good, each by its place -/
def rv_AL : List Cond := lw_tbl.filter goodWord
theorem rv_t1 {w : Cond} (h : w ∈ tables_1_1) : w ∈ tables_1 := List.mem_append_left _ h
theorem rv_t2 {w : Cond} (h : w ∈ tables_1_2) : w ∈ tables_1 := List.mem_append_right _ (List.mem_append_left _ h)
theorem rv_t3 {w : Cond} (h : w ∈ tables_1_3) : w ∈ tables_1 := List.mem_append_right _ (List.mem_append_right _ (List.mem_append_left _ h))
theorem rv_t4 {w : Cond} (h : w ∈ tables_1_4) : w ∈ tables_1 := List.mem_append_right _ (List.mem_append_right _ (List.mem_append_right _ (List.mem_append_left _ h)))
theorem rv_t5 {w : Cond} (h : w ∈ tables_1_5) : w ∈ tables_1 := List.mem_append_right _ (List.mem_append_right _ (List.mem_append_right _ (List.mem_append_right _ (List.mem_append_left _ h))))
theorem rv_t6 {w : Cond} (h : w ∈ tables_1_6) : w ∈ tables_1 := List.mem_append_right _ (List.mem_append_right _ (List.mem_append_right _ (List.mem_append_right _ (List.mem_append_right _ (List.mem_append_left _ h)))))
theorem rv_t7 {w : Cond} (h : w ∈ tables_1_7) : w ∈ tables_1 := List.mem_append_right _ (List.mem_append_right _ (List.mem_append_right _ (List.mem_append_right _ (List.mem_append_right _ (List.mem_append_right _ (h))))))
theorem rv_al {w : Cond} (h : w ∈ tables_1) (g : goodWord w = true) : w ∈ rv_AL := List.mem_filter.mpr ⟨List.mem_append_right _ h, g⟩
theorem rv_sl {q : MethodName × Nat} (h : q ∈ lw_privs) : Cond.selects q.1.cls q.1 q.1 ∈ rv_AL := List.mem_filter.mpr ⟨List.mem_append_left _ (List.mem_map.mpr ⟨q, h, rfl⟩), rfl⟩
theorem rv_good : ∀ w ∈ rv_AL, (w.onTables && w.keeps) = true ∨ ∃ ty, w = .arrayClass ty := fun _ h => good_of_word (List.mem_filter.mp h).2
theorem rv_ALin {w : Cond} (h : w ∈ rv_AL) : w ∈ lw_tbl := (List.mem_filter.mp h).1
def rv_ws (y : MethodName) (cc : ByteArray) (maxL : Nat) (ret : Option FieldType) : List Cond := .code y cc maxL ret :: rv_AL
theorem rv_gV {own C : String} {idx maxL : Nat} {y : MethodName} {cc : ByteArray} {ret : Option FieldType} (h1 : Cond.methodLink own idx y ∈ rv_AL) (h2 : Cond.instanceMethod y ∈ rv_AL) (h3 : Cond.selects C y y ∈ rv_AL) (h4 : Cond.initialized C ∈ rv_AL) (h5 : Cond.code y cc maxL ret ∈ rv_AL) : GoodIn rv_AL (wsV own idx C y (rv_ws y cc maxL ret)) := by
  intro w hw
  have : w ∈ rv_AL := by
    simp only [wsV, rv_ws, List.cons_append, List.nil_append, List.mem_cons] at hw
    rcases hw with rfl | rfl | rfl | rfl | rfl | h
    · exact h1
    · exact h2
    · exact h3
    · exact h4
    · exact h5
    · exact h
  exact ⟨this, rv_good w this⟩
theorem rv_gS {own : String} {idx maxL : Nat} {y : MethodName} {cc : ByteArray} {ret : Option FieldType} (h1 : Cond.methodLink own idx y ∈ rv_AL) (h2 : Cond.static y ∈ rv_AL) (h4 : Cond.initialized y.cls ∈ rv_AL) (h5 : Cond.code y cc maxL ret ∈ rv_AL) : GoodIn rv_AL (va_wsS own idx y (rv_ws y cc maxL ret)) := by
  intro w hw
  have : w ∈ rv_AL := by
    simp only [va_wsS, rv_ws, List.cons_append, List.nil_append, List.mem_cons] at hw
    rcases hw with rfl | rfl | rfl | rfl | h
    · exact h1
    · exact h2
    · exact h4
    · exact h5
    · exact h
  exact ⟨this, rv_good w this⟩

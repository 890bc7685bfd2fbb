/-! THE TABLE HOLDS lcs -/
theorem dr_cons {a k : Nat} {A : Nat → Int32} (hk : k < a) : ((List.range a).map A).drop k = A k :: ((List.range a).map A).drop (k + 1) := by
  rw [List.drop_eq_getElem_cons (by simpa using hk)]
  simp
theorem dr_nil {a k : Nat} {A : Nat → Int32} (hk : a ≤ k) : ((List.range a).map A).drop k = [] := List.drop_eq_nil_of_le (by simpa using hk)
def tL (a b : Nat) (A B : Nat → Int32) (k n : Nat) : Nat := lcs (((List.range a).map A).drop k) (((List.range b).map B).drop n)
theorem TE_lcs {a b : Nat} {A B : Nat → Int32} (ha : a ≤ 20) : TE a b A B (tL a b A B) := by
  intro k n hk hn
  refine ⟨?_, ?_⟩
  · unfold tL
    have := lcs_le (((List.range a).map A).drop k) (((List.range b).map B).drop n)
    simp at this
    omega
  · unfold tL
    by_cases h1 : k < a
    · by_cases h2 : n < b
      · rw [dr_cons h1, dr_cons h2, lcs_three, if_pos h1, if_pos h2]
        by_cases e : A k = B n
        · rw [if_pos e, if_pos ⟨h1, h2, e⟩, Nat.add_comm]
        · rw [if_neg e, if_neg (fun z => e z.2.2)]
      · rw [dr_nil (A := B) (show b ≤ n by omega), lcs_nil2, if_neg (fun z => h2 z.2.1), if_pos h1, if_neg h2, lcs_nil2]
        rfl
    · rw [dr_nil (A := A) (show a ≤ k by omega), lcs_nil, if_neg (fun z => h1 z.1), if_neg h1]
      by_cases h2 : n < b
      · rw [if_pos h2, lcs_nil]; rfl
      · rw [if_neg h2]; rfl

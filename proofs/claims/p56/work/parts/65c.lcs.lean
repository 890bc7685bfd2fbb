/-! HOW MUCH CAN BE PAIRED -/
theorem lcs_nil (b : List Int32) : lcs [] b = 0 := by rw [lcs]
theorem lcs_nil2 (a : List Int32) : lcs a [] = 0 := by cases a <;> rw [lcs]
theorem lcs_cons (x y : Int32) (xs ys : List Int32) : lcs (x :: xs) (y :: ys) = if x = y then lcs xs ys + 1 else max (lcs xs (y :: ys)) (lcs (x :: xs) ys) := by rw [lcs]
theorem lcs_bounds : ∀ (n : Nat) (a b : List Int32), a.length + b.length ≤ n → (∀ y, lcs a b ≤ lcs a (y :: b) ∧ lcs a (y :: b) ≤ lcs a b + 1) ∧ (∀ x, lcs a b ≤ lcs (x :: a) b ∧ lcs (x :: a) b ≤ lcs a b + 1) := by
  intro n
  induction n with
  | zero =>
    intro a b h
    have ha : a = [] := List.eq_nil_of_length_eq_zero (by omega)
    have hb : b = [] := List.eq_nil_of_length_eq_zero (by omega)
    subst ha; subst hb
    exact ⟨fun y => by rw [lcs_nil, lcs_nil]; omega, fun x => by rw [lcs_nil2, lcs_nil2]; omega⟩
  | succ n ih =>
    intro a b h
    refine ⟨fun y => ?_, fun x => ?_⟩
    · cases a with
      | nil => rw [lcs_nil, lcs_nil]; omega
      | cons x xs =>
        have h1 := ih xs b (by simp at h ⊢; omega)
        have hA := h1.2 x
        have hB := h1.1 y
        have hxs : lcs xs b ≤ lcs (x :: xs) b ∧ lcs (x :: xs) b ≤ lcs xs b + 1 := hA
        rw [lcs_cons]
        by_cases e : x = y
        · rw [if_pos e]
          omega
        · rw [if_neg e]
          omega
    · cases b with
      | nil => rw [lcs_nil2, lcs_nil2]; omega
      | cons y ys =>
        have h1 := ih a ys (by simp at h ⊢; omega)
        have hA := h1.1 y
        have hB := h1.2 x
        rw [lcs_cons]
        by_cases e : x = y
        · rw [if_pos e]
          omega
        · rw [if_neg e]
          omega
/-- the table's value: the best of three -/
theorem lcs_three (x y : Int32) (xs ys : List Int32) : lcs (x :: xs) (y :: ys) = max (if x = y then lcs xs ys + 1 else 0) (max (lcs xs (y :: ys)) (lcs (x :: xs) ys)) := by
  rw [lcs_cons]
  by_cases e : x = y
  · rw [if_pos e, if_pos e]
    have h1 := (lcs_bounds _ xs ys (Nat.le_refl _)).1 y
    have h2 := (lcs_bounds _ xs ys (Nat.le_refl _)).2 x
    omega
  · rw [if_neg e, if_neg e]
    omega
theorem lcs_le : ∀ (a b : List Int32), lcs a b ≤ a.length := by
  intro a
  induction a with
  | nil => intro b; rw [lcs_nil]; exact Nat.zero_le _
  | cons x xs ih =>
    intro b
    have h := (lcs_bounds _ xs b (Nat.le_refl _)).2 x
    have := ih b
    simp
    omega

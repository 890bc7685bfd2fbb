/-! HUNKS LEAD FROM THE ONE FILE TO THE OTHER -/
def runs (A B : List Int32) (k n t : Nat) : Prop := ∀ i, i < t → ln A (k + i) = ln B (n + i)
def wlk (A B : List Int32) : List (Nat × Nat × Nat × Nat) → Nat → Nat → Nat → Nat → Prop
  | [], k, n, p, r => k ≤ A.length ∧ n ≤ B.length ∧ A.length - k = B.length - n ∧ runs A B k n (A.length - k) ∧ r = p + (A.length - k)
  | (x, d, q, e) :: H, k, n, p, r => k ≤ x ∧ n ≤ q ∧ x - k = q - n ∧ runs A B k n (x - k) ∧ 0 < d + e ∧ x + d ≤ A.length ∧ q + e ≤ B.length ∧ wlk A B H (x + d) (q + e) (p + (x - k)) r
theorem drop_ln {A xs : List Int32} {x : Int32} {e : Nat} (h : A.drop e = x :: xs) : ln A e = x ∧ A.drop (e + 1) = xs ∧ e < A.length := by
  have h0 : (A.drop e)[0]? = some x := by rw [h]; rfl
  rw [List.getElem?_drop] at h0
  have h1 : A[e]? = some x := h0
  refine ⟨?_, ?_, ?_⟩
  · unfold ln; rw [List.getD_eq_getElem?_getD, h1]; rfl
  · rw [← List.drop_drop, h]; rfl
  · apply Classical.byContradiction
    intro z
    rw [List.getElem?_eq_none (by omega)] at h1
    cases h1
theorem drop_nil' {A : List Int32} {e : Nat} (h : A.drop e = []) (he : e ≤ A.length) : e = A.length := by
  have := congrArg List.length h
  rw [List.length_drop] at this
  simp at this; omega
theorem runs_snoc {A B : List Int32} {k n t : Nat} (h : runs A B k n t) (h2 : ln A (k + t) = ln B (n + t)) : runs A B k n (t + 1) := fun i hi => by
  by_cases c : i < t
  · exact h i c
  · rw [show i = t by omega]; exact h2
theorem wlk_hks (A B : List Int32) : ∀ (N : Nat) (xs ys : List Int32), xs.length + ys.length ≤ N → ∀ e a w m k n p, A.drop e = xs → B.drop m = ys → e ≤ A.length → m ≤ B.length → a ≤ e → w ≤ m → k ≤ a → n ≤ w → a - k = w - n → runs A B k n (a - k) → wlk A B (hks (mts xs ys m) e a w B.length) k n p (p + (a - k) + lcs xs ys) := by
  intro N
  induction N with
  | zero =>
    intro xs ys hN e a w m k n p hx hy he hm h1 h2 h3 h4 h5 h6
    have ex : xs = [] := List.length_eq_zero_iff.mp (by omega)
    have ey : ys = [] := List.length_eq_zero_iff.mp (by omega)
    subst ex; subst ey
    have e1 := drop_nil' hx he
    have e2 := drop_nil' hy hm
    rw [mts_nil, lcs_nil]
    show wlk A B (if a < e ∨ w < B.length then [(a, e - a, w, B.length - w)] else []) k n p _
    by_cases c : a < e ∨ w < B.length
    · rw [if_pos c]
      refine ⟨h3, h4, h5, h6, by omega, by omega, by omega, ?_⟩
      refine ⟨by omega, by omega, by omega, ?_, by omega⟩
      intro i hi; omega
    · rw [if_neg c]
      refine ⟨by omega, by omega, by omega, ?_, by omega⟩
      rw [show A.length - k = a - k by omega]; exact h6
  | succ N ih =>
    intro xs ys hN e a w m k n p hx hy he hm h1 h2 h3 h4 h5 h6
    cases xs with
    | nil =>
      have e1 := drop_nil' hx he
      rw [mts_nil, lcs_nil]
      show wlk A B (if a < e ∨ w < B.length then [(a, e - a, w, B.length - w)] else []) k n p _
      by_cases c : a < e ∨ w < B.length
      · rw [if_pos c]
        refine ⟨h3, h4, h5, h6, by omega, by omega, by omega, ?_⟩
        refine ⟨by omega, by omega, by omega, ?_, by omega⟩
        intro i hi; omega
      · rw [if_neg c]
        refine ⟨by omega, by omega, by omega, ?_, by omega⟩
        rw [show A.length - k = a - k by omega]; exact h6
    | cons x xs =>
      obtain ⟨x1, x2, x3⟩ := drop_ln hx
      cases ys with
      | nil =>
        have g := ih xs [] (by simp at hN ⊢; omega) (e + 1) a w m k n p x2 hy (by omega) hm (by omega) h2 h3 h4 h5 h6
        rw [lcs_nil2] at g ⊢
        rw [mts_nil2] at g ⊢
        exact g
      | cons y ys =>
        obtain ⟨y1, y2, y3⟩ := drop_ln hy
        have hN : xs.length + 1 + (ys.length + 1) ≤ N + 1 := hN
        rw [mts_cons]
        have hl := lcs_cons x y xs ys
        by_cases c : x = y
        · rw [if_pos c] at hl ⊢
          rw [hl]
          show wlk A B ((if a < e ∨ w < m then [(a, e - a, w, m - w)] else []) ++ hks (mts xs ys (m + 1)) (e + 1) (e + 1) (m + 1) B.length) k n p _
          by_cases c2 : a < e ∨ w < m
          · rw [if_pos c2]
            refine ⟨h3, h4, h5, h6, by omega, by omega, by omega, ?_⟩
            have g := ih xs ys (by omega) (e + 1) (e + 1) (m + 1) (m + 1) e m (p + (a - k)) x2 y2 (by omega) (by omega) (Nat.le_refl _) (Nat.le_refl _) (by omega) (by omega) (by omega) (fun i hi => by
              rw [show i = 0 by omega, Nat.add_zero, Nat.add_zero, x1, y1, c])
            rw [show a + (e - a) = e by omega, show w + (m - w) = m by omega, show p + (a - k) + (lcs xs ys + 1) = p + (a - k) + (e + 1 - e) + lcs xs ys by omega]
            exact g
          · rw [if_neg c2]
            have ea : a = e := by omega
            have ew : w = m := by omega
            subst ea; subst ew
            have g := ih xs ys (by omega) (a + 1) (a + 1) (w + 1) (w + 1) k n p x2 y2 (by omega) (by omega) (Nat.le_refl _) (Nat.le_refl _) (by omega) (by omega) (by omega) (by
              rw [show a + 1 - k = (a - k) + 1 by omega]
              refine runs_snoc h6 ?_
              rw [show k + (a - k) = a by omega, show n + (a - k) = w by omega, x1, y1, c])
            rw [show p + (a - k) + (lcs xs ys + 1) = p + (a + 1 - k) + lcs xs ys by omega]
            exact g
        · rw [if_neg c] at hl ⊢
          by_cases c2 : lcs xs (y :: ys) = lcs (x :: xs) (y :: ys)
          · rw [if_pos c2, ← c2]
            have g := ih xs (y :: ys) (by simp; omega) (e + 1) a w m k n p x2 hy (by omega) hm (by omega) h2 h3 h4 h5 h6
            exact g
          · rw [if_neg c2]
            have e3 : lcs (x :: xs) (y :: ys) = lcs (x :: xs) ys := by
              rw [hl] at c2 ⊢
              omega
            have g := ih (x :: xs) ys (by simp; omega) e a w (m + 1) k n p hx y2 he (by omega) h1 (by omega) h3 h4 h5 h6
            rw [e3]; exact g
theorem wlk_hk (A B : List Int32) : wlk A B (hk A B) 0 0 0 (lcs A B) := by
  have g := wlk_hks A B (A.length + B.length) A B (Nat.le_refl _) 0 0 0 0 0 0 0 rfl rfl (Nat.zero_le _) (Nat.zero_le _) (Nat.le_refl _) (Nat.le_refl _) (Nat.le_refl _) (Nat.le_refl _) rfl (fun i hi => absurd hi (Nat.not_lt_zero _))
  rw [Nat.zero_add] at g
  exact g

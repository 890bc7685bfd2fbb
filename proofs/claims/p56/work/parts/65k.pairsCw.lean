/-! ARRAYS FILLED; THE CLASS PAIRS LINES, WHOLE -/
theorem sJ_fill {gh : rC_gh} {C : rv_Mem} {k L : Nat} (v : Int32) (hA : rC_isA gh k = true) (hL : rC_ln k = L) (hb : L < 5000) : ∃ C', fJ_fill gh C k v = some C' ∧ (∀ q, q ≠ k → C' q = C q) ∧ (∀ p, p < L → C' k p = v) ∧ ∀ p, L ≤ p → C' k p = C k p := by
  have R := rv_ui (z := (fun _ _ _ _ _ => none)) (F := fJ_fill_5_s gh) (fun T j M => T M k v (nI j) (nI L)) L (fun j M => (∀ q, q ≠ k → M q = C q) ∧ (∀ p, p < j → M k p = v) ∧ ∀ p, j ≤ p → M k p = C k p) some ?_ ?_ rv_FU 0 C (Nat.zero_le _) (FU_lt (by omega)) ⟨fun _ _ => rfl, fun p h => absurd h (Nat.not_lt_zero _), fun _ _ => rfl⟩
  · obtain ⟨M', ⟨h1, h2, h3⟩, h4⟩ := R
    refine ⟨M', ?_, h1, h2, h3⟩
    unfold fJ_fill
    rw [if_pos hA, hL]
    exact h4
  · intro T j M hj ⟨h1, h2, h3⟩
    refine ⟨rv_u M k j v, ⟨fun q hq => by rw [mu_ne hq]; exact h1 q hq, fun p hp => ?_, fun p hp => by rw [mu_ne2 (by omega)]; exact h3 p (by omega)⟩, ?_⟩
    · by_cases e : p = j
      · subst e; rw [mu_same]
      · rw [mu_ne2 e]; exact h2 p (by omega)
    · show fJ_fill_5_s gh T M k v (nI j) (nI L) = _
      unfold fJ_fill_5_s
      simp (disch := omega) only [q_lt, q_in, if_pos, q_nc, hA, hL, lt_do, q_succ, if_true]
  · intro T M hI
    show fJ_fill_5_s gh T M k v (nI L) (nI L) = _
    unfold fJ_fill_5_s
    rw [if_neg (by rw [q_lt (by omega) (by omega)]; omega)]
theorem s3_pairLines {gh : rC_gh} {o : Nat} {M0 : rv_Mem} {a b : Nat} (ho : rC_is gh 4 o = true) (ha : a ≤ 10) (hb : b ≤ 10) (h8 : M0 o 8 = nI a) (h9 : M0 o 9 = nI b) (hT : ∀ i j, i ≤ a → j ≤ b → M0 (o + 22) (11 * i + j) = nI (tL a b (M0 (o + 18)) (M0 (o + 20)) i j)) :
    ∃ M', f3_pairLines gh M0 o = some M' ∧ (∀ q, q ≠ o + 24 → M' q = M0 q) ∧ ∀ p, p < a → M' (o + 24) p = oI ((mts ((List.range a).map (M0 (o + 18))) ((List.range b).map (M0 (o + 20))) 0).getD p none) := by
  have hr := rC_arCm ho 24 (n := 10) (by omega)
  have hA : rC_isA gh (o + 24) = true := by
    unfold rC_isA
    rw [hr.1, hr.2.1]
    rfl
  obtain ⟨M1, g1, g2, g3, -⟩ := sJ_fill (gh := gh) (C := M0) (k := o + 24) (L := 10) (-1) hA hr.2.2 (by omega)
  have e8 : M1 o = M0 o := g2 o (by omega)
  have e18 : M1 (o + 18) = M0 (o + 18) := g2 _ (by omega)
  have e20 : M1 (o + 20) = M0 (o + 20) := g2 _ (by omega)
  have e22 : M1 (o + 22) = M0 (o + 22) := g2 _ (by omega)
  obtain ⟨M', k1, k2, k3⟩ := s3_pairLoop (gh := gh) (o := o) (M0 := M1) (a := a) (b := b) ho ha hb (by rw [e8]; exact h8) (by rw [e8]; exact h9) (by rw [e18, e20, e22]; exact hT) (fun p hp => g3 p hp)
  rw [e18, e20] at k3
  refine ⟨M', ?_, fun q hq => by rw [k2 q hq, g2 q hq], k3⟩
  unfold f3_pairLines
  rw [if_pos ho, g1]
  exact k1

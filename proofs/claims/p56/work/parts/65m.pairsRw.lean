/-! THE REFERENCE'S PAIRS, WHOLE -/
theorem s12_pairs {M0 : rv_Mem} {a b c1 c2 f : Nat} {A B : Nat → Int32} (ha : a ≤ 10) (hb : b ≤ 10) (h1 : c1 < 82) (h2 : c2 < 82) (hf : f < 4) (hsa : M0 3 (4 * c1 + f) = nI a) (hsb : M0 3 (4 * c2 + f) = nI b) (hA : ∀ i, wd (rv_z (M0 64 0)) (M0 4 (10 * (4 * c1 + f) + i)) = A i) (hB : ∀ i, wd (rv_z (M0 64 0)) (M0 4 (10 * (4 * c2 + f) + i)) = B i) :
    ∃ M', f12_pairs M0 (nI c1) (nI c2) (nI f) = some M' ∧ (∀ q, q ≠ 53 → q ≠ 54 → M' q = M0 q) ∧ ∀ p, p < a → M' 54 p = oI ((mts ((List.range a).map A) ((List.range b).map B) 0).getD p none) := by
  have eA : (fun i => wd (rv_z (M0 64 0)) (M0 4 (10 * (4 * c1 + f) + i))) = A := funext hA
  have eB : (fun i => wd (rv_z (M0 64 0)) (M0 4 (10 * (4 * c2 + f) + i))) = B := funext hB
  obtain ⟨M1, g1, g2, g3⟩ := s12_laysTable (M0 := M0) (T := tL a b A B) ha hb h1 h2 hf hsa hsb (by rw [eA, eB]; exact TE_lcs (by omega))
  have L := rv_ui (z := (fun _ _ _ _ _ => none)) (F := f12_pairs_16_s) (fun T j M => T M (nI c1) (nI c2) (nI f) (nI j)) 10 (fun j M => (∀ q, q ≠ 54 → M q = M1 q) ∧ ∀ p, p < j → M 54 p = NO) (fun M => f12_pairs_37 rv_FU M (nI c1) (nI c2) (nI f) 0 0) ?_ ?_ rv_FU 0 M1 (Nat.zero_le _) (FU_lt (by omega)) ⟨fun _ _ => rfl, fun p h => absurd h (Nat.not_lt_zero _)⟩
  · obtain ⟨M2, ⟨k1, k2⟩, k3⟩ := L
    have e3 : M2 3 = M0 3 := by rw [k1 3 (by omega), g2 3 (by omega)]
    have e4 : M2 4 = M0 4 := by rw [k1 4 (by omega), g2 4 (by omega)]
    have e64 : M2 64 = M0 64 := by rw [k1 64 (by omega), g2 64 (by omega)]
    have e53 : M2 53 = M1 53 := k1 53 (by omega)
    obtain ⟨M', m1, m2, m3, -⟩ := s12_pairLoop (M0 := M2) (A := A) (B := B) ha hb h1 h2 hf (by rw [e3]; exact hsa) (by rw [e3]; exact hsb) (fun i _ => by rw [e64, e4]; exact hA i) (fun i _ => by rw [e64, e4]; exact hB i) (fun i j hi hj => by rw [e53]; exact g3 i j hi hj) k2
    refine ⟨M', ?_, fun q q1 q2 => by rw [m2 q q2, k1 q q2, g2 q q1], m3⟩
    unfold f12_pairs
    rw [g1, o1_some]
    exact k3.trans m1
  · intro T j M hj ⟨k1, k2⟩
    refine ⟨rv_u M 54 j (-1), ⟨fun q hq => by rw [mu_ne hq]; exact k1 q hq, fun p hp => ?_⟩, ?_⟩
    · by_cases e : p = j
      · subst e; rw [mu_same]; rfl
      · rw [mu_ne2 e]; exact k2 p (by omega)
    · show f12_pairs_16_s T M (nI c1) (nI c2) (nI f) (nI j) = _
      unfold f12_pairs_16_s
      simp (disch := omega) only [q_10, q_lt, q_in, if_pos, q_nc, lt_do, q_succ]
  · intro T M hI
    show f12_pairs_16_s T M (nI c1) (nI c2) (nI f) (nI 10) = _
    unfold f12_pairs_16_s
    rw [if_neg (by rw [q_10, q_lt (by omega) (by omega)]; omega)]

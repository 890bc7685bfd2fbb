/-! THE CLASS READS LINES -/
theorem s3_readLines {gh : rC_gh} {C : rv_Mem} {c f k s : Nat} (w : Bool) (hc : c < 82) (hf : f < 4) (hs : C 15 (4 * c + f) = nI s) (hs2 : s ≤ 10) (hA : rC_isA gh k = true) (hL : rC_ln k = 10) (hk : k ≠ 14 ∧ k ≠ 15) : ∃ C', f3_readLines gh C (nI c) (nI f) w k = some (nI s, C') ∧ (∀ q, q ≠ k → C' q = C q) ∧ ∀ p, p < s → C' k p = wd w (C 14 (10 * (4 * c + f) + p)) := by
  have L := rv_ui (z := (fun _ _ _ _ _ _ _ => none)) (F := f3_readLines_17_s gh) (fun T p M => T M (nI c) (nI f) w k (nI s) (nI p)) s (fun j M => (∀ q, q ≠ k → M q = C q) ∧ ∀ p, p < j → M k p = wd w (C 14 (10 * (4 * c + f) + p))) (fun M => some (nI s, M)) ?_ ?_ rv_FU 0 C (Nat.zero_le _) (FU_lt (by omega)) ⟨fun _ _ => rfl, fun p h => absurd h (Nat.not_lt_zero _)⟩
  · obtain ⟨M', ⟨h1, h2⟩, h3⟩ := L
    refine ⟨M', ?_, h1, h2⟩
    rw [← h3]
    unfold f3_readLines
    rw [s9_sizeOf hc hf, hs, o1_some, if_pos hA, hL, if_neg (by rw [q_lt (by omega) (by omega)]; omega)]
    rfl
  · intro T j M hj ⟨h1, h2⟩
    refine ⟨rv_u M k j (wd w (C 14 (10 * (4 * c + f) + j))), ⟨fun q hq => by rw [mu_ne hq]; exact h1 q hq, fun p hp => ?_⟩, ?_⟩
    · by_cases e : p = j
      · subst e; rw [mu_same]
      · rw [mu_ne2 e]; exact h2 p (by omega)
    · show f3_readLines_17_s gh T M (nI c) (nI f) w k (nI s) (nI j) = _
      unfold f3_readLines_17_s f3_readLines_52 wd
      have g15 : M 15 (4 * c + f) = nI s := by rw [h1 15 (by omega)]; exact hs
      have g14 : M 14 = C 14 := h1 14 (by omega)
      rw [if_pos (by rw [q_lt (by omega) (by omega)]; exact hj), s9_lineAt hc hf g15 hs2 hj, o1_some, g14]
      cases w <;> simp (disch := omega) only [bf_t, if_true, if_false, hA, hL, q_in, if_pos, q_nc, lt_do, q_succ]
  · intro T M hI
    show f3_readLines_17_s gh T M (nI c) (nI f) w k (nI s) (nI s) = _
    unfold f3_readLines_17_s
    rw [if_neg (by rw [q_lt (by omega) (by omega)]; omega)]

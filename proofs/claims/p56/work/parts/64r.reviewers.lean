/-! REVIEWERS -/
theorem any_succ (p : Nat → Bool) (k : Nat) : (List.range (k + 1)).any p = ((List.range k).any p || p k) := by
  rw [List.range_succ, List.any_append]
  simp
theorem s12_reviewersOf {M : rv_Mem} {n cm h : Nat} (hN : M 0 0 = nI n) (hn : n ≤ 80) (hM : M 24 0 = nI cm) (hcm : cm ≤ 60) (hh : h < 20) (ho : ∃ p, p < 6 ∧ M 12 h = nI p) (ha : ∀ k, k < cm → ∃ p, p < 6 ∧ M 25 k = nI p) (hv : ∀ c p l, c < n → p < 6 → l < 2 → ∃ v, v ≤ 5 ∧ M 22 (12 * c + 2 * p + l) = nI v) :
    ∃ x, f12_reviewersOf M (nI h) = some x ∧ ∀ i, i < 32 → bt x i = revB n cm (M 5) (M 12) (M 19) (M 22) (M 25) (M 26) (M 32) h i := by
  obtain ⟨po, po1, po2⟩ := ho
  -- the people of one commit
  have L70 : ∀ (t : Int32 → Int32 → Int32 → Option Int32) (c : Nat) (s0 : Int32), c < n → ∃ s, (∀ i, i < 32 → bt s i = (bt s0 i || (decide (M 5 c = nI h) && decide (i < 6) && (decide (M 22 (12 * c + 2 * i) ≠ 0) || decide (M 22 (12 * c + 2 * i + 1) ≠ 0))))) ∧ f12_reviewersOf_70 M t rv_FU (nI h) s0 (nI c) (nI 0) = t (nI h) s (nI (c + 1)) := by
    intro t c s0 hc
    have L := rv_ui (z := (fun _ _ _ _ => none)) (F := f12_reviewersOf_70_s M t) (fun T k s => T (nI h) s (nI c) (nI k)) 6 (fun k s => ∀ i, i < 32 → bt s i = (bt s0 i || (decide (M 5 c = nI h) && decide (i < k) && (decide (M 22 (12 * c + 2 * i) ≠ 0) || decide (M 22 (12 * c + 2 * i + 1) ≠ 0))))) (fun s => t (nI h) s (nI (c + 1))) ?_ ?_ rv_FU 0 s0 (Nat.zero_le _) (FU_lt (by omega)) (fun i _ => by simp)
    · exact L
    · intro T k s hk hI
      obtain ⟨v, v1, v2⟩ := hv c k 0 hc hk (by omega)
      obtain ⟨w, w1, w2⟩ := hv c k 1 hc hk (by omega)
      rw [Nat.add_zero] at v2
      have ev : decide (M 22 (12 * c + 2 * k) ≠ 0) = decide (0 < v) := by rw [v2, q_0, q_eqn (by omega)]
      have ew : decide (M 22 (12 * c + 2 * k + 1) ≠ 0) = decide (0 < w) := by rw [w2, q_0, q_eqn (by omega)]
      have hstep : ∃ s', (∀ i, i < 32 → bt s' i = (bt s i || (decide (M 5 c = nI h) && decide (i = k) && decide (0 < v + w)))) ∧ f12_reviewersOf_70_s M t T (nI h) s (nI c) (nI k) = T (nI h) s' (nI c) (nI (k + 1)) := by
        unfold f12_reviewersOf_70_s f12_reviewersOf_116 f12_reviewersOf_141 f12_reviewersOf_142
        simp (disch := omega) only [q_0, q_1, q_2, q_6, q_12, q_82, q_add, q_mul, q_lt, q_in, q_nc, if_pos, v2, w2]
        by_cases h5 : M 5 c = nI h
        · by_cases hp : 0 < v + w
          · refine ⟨s ||| (1 <<< (nI k &&& 31)), fun i hi => ?_, ?_⟩
            · rw [b_or, b_shl1 k (by omega) i hi, decide_eq_true h5, decide_eq_true hp]
              simp
            · simp only [if_pos hp, if_pos h5, if_true, q_0, q_1, q_31]
          · refine ⟨s, fun i hi => ?_, ?_⟩
            · rw [decide_eq_false hp]
              simp
            · simp only [if_neg hp, if_pos h5, bf_t, if_false, i_or0]
        · refine ⟨s, fun i hi => ?_, ?_⟩
          · rw [decide_eq_false h5]
            simp
          · by_cases hp : 0 < v + w
            · simp only [if_pos hp, if_neg h5, i_or0]
            · simp only [if_neg hp, if_neg h5, i_or0]
      obtain ⟨s', s1, s2⟩ := hstep
      refine ⟨s', fun i hi => ?_, s2⟩
      rw [s1 i hi, hI i hi]
      by_cases e : i = k
      · subst e
        rw [ev, ew]
        have e1 : decide (i < i + 1) = true := decide_eq_true (by omega)
        have e2 : decide (i < i) = false := decide_eq_false (by omega)
        have e3 : decide (0 < v + w) = (decide (0 < v) || decide (0 < w)) := by
          by_cases a : 0 < v
          · simp [a]; omega
          · by_cases b : 0 < w
            · simp [b]; omega
            · have : v = 0 := by omega
              have : w = 0 := by omega
              simp [*]
        rw [e1, e2, e3]
        simp
      · have e1 : decide (i < k + 1) = decide (i < k) := by
          by_cases a : i < k
          · rw [decide_eq_true a, decide_eq_true (by omega)]
          · rw [decide_eq_false a, decide_eq_false (by omega)]
        rw [e1, decide_eq_false e]
        simp
    · intro T s hI
      show f12_reviewersOf_70_s M t T (nI h) s (nI c) (nI 6) = _
      unfold f12_reviewersOf_70_s
      simp (disch := omega) only [q_no, q_no2, q_0, q_1, q_2, q_3, q_4, q_5, q_6, q_7, q_8, q_10, q_11, q_12, q_15, q_16, q_17, q_20, q_30, q_31, q_32, q_40, q_45, q_60, q_80, q_81, q_82, q_100, q_320, q_328, q_399, q_400, q_3280, q_nc, q_eq, q_lt, q_le, q_add, q_mul, q_in, q_inno, q_no_eq, q_no_eq', q_no_lt, q_lt_no, q_no_le, q_le_no, o1_some, o2_some, lt_do, x1_inl, x1_inr, x2_inl, x2_inr, if_true, if_false, if_pos, if_neg, rvi_t, rvi_f, bt_f, bf_t, bb_t, bb_f, not_true_eq_false, not_false_eq_true]
  -- all commits
  have L59 : ∀ s0 : Int32, ∃ s, (∀ i, i < 32 → bt s i = (bt s0 i || (List.range n).any (fun c => decide (M 5 c = nI h) && decide (i < 6) && (decide (M 22 (12 * c + 2 * i) ≠ 0) || decide (M 22 (12 * c + 2 * i + 1) ≠ 0))))) ∧ f12_reviewersOf_59 M rv_FU (nI h) s0 (nI 0) = some (s &&& ((1 <<< (nI po &&& 31)) ^^^ (-1))) := by
    intro s0
    have L := rv_ui (z := (fun _ _ _ => none)) (F := f12_reviewersOf_59_s M) (fun T k s => T (nI h) s (nI k)) n (fun k s => ∀ i, i < 32 → bt s i = (bt s0 i || (List.range k).any (fun c => decide (M 5 c = nI h) && decide (i < 6) && (decide (M 22 (12 * c + 2 * i) ≠ 0) || decide (M 22 (12 * c + 2 * i + 1) ≠ 0))))) (fun s => some (s &&& ((1 <<< (nI po &&& 31)) ^^^ (-1)))) ?_ ?_ rv_FU 0 s0 (Nat.zero_le _) (FU_lt (by omega)) (fun i _ => by simp)
    · exact L
    · intro T k s hk hI
      obtain ⟨s', s1, s2⟩ := L70 T k s hk
      refine ⟨s', fun i hi => by rw [s1 i hi, hI i hi, any_succ, Bool.or_assoc], ?_⟩
      show f12_reviewersOf_59_s M T (nI h) s (nI k) = _
      unfold f12_reviewersOf_59_s
      simp (disch := omega) only [q_no, q_no2, q_0, q_1, q_2, q_3, q_4, q_5, q_6, q_7, q_8, q_10, q_11, q_12, q_15, q_16, q_17, q_20, q_30, q_31, q_32, q_40, q_45, q_60, q_80, q_81, q_82, q_100, q_320, q_328, q_399, q_400, q_3280, q_nc, q_eq, q_lt, q_le, q_add, q_mul, q_in, q_inno, q_no_eq, q_no_eq', q_no_lt, q_lt_no, q_no_le, q_le_no, o1_some, o2_some, lt_do, x1_inl, x1_inr, x2_inl, x2_inr, if_true, if_false, if_pos, if_neg, rvi_t, rvi_f, bt_f, bf_t, bb_t, bb_f, not_true_eq_false, not_false_eq_true, hN]
      exact s2
    · intro T s hI
      show f12_reviewersOf_59_s M T (nI h) s (nI n) = _
      unfold f12_reviewersOf_59_s
      simp (disch := omega) only [q_no, q_no2, q_0, q_1, q_2, q_3, q_4, q_5, q_6, q_7, q_8, q_10, q_11, q_12, q_15, q_16, q_17, q_20, q_30, q_31, q_32, q_40, q_45, q_60, q_80, q_81, q_82, q_100, q_320, q_328, q_399, q_400, q_3280, q_nc, q_eq, q_lt, q_le, q_add, q_mul, q_in, q_inno, q_no_eq, q_no_eq', q_no_lt, q_lt_no, q_no_le, q_le_no, o1_some, o2_some, lt_do, x1_inl, x1_inr, x2_inl, x2_inr, if_true, if_false, if_pos, if_neg, rvi_t, rvi_f, bt_f, bf_t, bb_t, bb_f, not_true_eq_false, not_false_eq_true, hN, po2]
  -- the comments
  have L9 : ∀ s0 : Int32, ∃ s, (∀ i, i < 32 → bt s i = (bt s0 i || (List.range cm).any (fun k => decide (M 26 k = nI h) && !rv_z (M 32 k) && decide (M 25 k = nI i)))) ∧ f12_reviewersOf_9 M rv_FU (nI h) s0 (nI 0) = f12_reviewersOf_59 M rv_FU (nI h) s (nI 0) := by
    intro s0
    have L := rv_ui (z := (fun _ _ _ => none)) (F := f12_reviewersOf_9_s M) (fun T k s => T (nI h) s (nI k)) cm (fun k s => ∀ i, i < 32 → bt s i = (bt s0 i || (List.range k).any (fun k => decide (M 26 k = nI h) && !rv_z (M 32 k) && decide (M 25 k = nI i)))) (fun s => f12_reviewersOf_59 M rv_FU (nI h) s (nI 0)) ?_ ?_ rv_FU 0 s0 (Nat.zero_le _) (FU_lt (by omega)) (fun i _ => by simp)
    · exact L
    · intro T k s hk hI
      obtain ⟨p, p1, p2⟩ := ha k hk
      have hstep : ∃ s', (∀ i, i < 32 → bt s' i = (bt s i || (decide (M 26 k = nI h) && !rv_z (M 32 k) && decide (i = p)))) ∧ f12_reviewersOf_9_s M T (nI h) s (nI k) = T (nI h) s' (nI (k + 1)) := by
        unfold f12_reviewersOf_9_s f12_reviewersOf_48 f12_reviewersOf_49
        simp (disch := omega) only [q_0, q_1, q_60, q_add, q_lt, q_in, q_nc, if_pos, hM, p2]
        by_cases h5 : M 26 k = nI h
        · by_cases hp : rv_z (M 32 k) = false
          · refine ⟨s ||| (1 <<< (nI p &&& 31)), fun i hi => ?_, ?_⟩
            · rw [b_or, b_shl1 p (by omega) i hi, decide_eq_true h5, hp]
              simp
            · simp only [if_pos hp, if_pos h5, if_true, q_0, q_1, q_31]
          · refine ⟨s, fun i hi => ?_, ?_⟩
            · have hp' : rv_z (M 32 k) = true := by simpa using hp
              rw [hp']
              simp
            · simp only [if_neg hp, if_pos h5, i_or0]
        · refine ⟨s, fun i hi => ?_, ?_⟩
          · rw [decide_eq_false h5]
            simp
          · simp only [if_neg h5, i_or0]
      obtain ⟨s', s1, s2⟩ := hstep
      refine ⟨s', fun i hi => ?_, s2⟩
      have ei : decide (M 25 k = nI i) = decide (i = p) := by
        rw [p2]
        simp (disch := omega) only [q_eq]
        by_cases e : i = p
        · subst e; rfl
        · rw [decide_eq_false e, decide_eq_false (fun z => e z.symm)]
      rw [s1 i hi, hI i hi, any_succ, ei, Bool.or_assoc]
    · intro T s hI
      show f12_reviewersOf_9_s M T (nI h) s (nI cm) = _
      unfold f12_reviewersOf_9_s
      simp (disch := omega) only [q_no, q_no2, q_0, q_1, q_2, q_3, q_4, q_5, q_6, q_7, q_8, q_10, q_11, q_12, q_15, q_16, q_17, q_20, q_30, q_31, q_32, q_40, q_45, q_60, q_80, q_81, q_82, q_100, q_320, q_328, q_399, q_400, q_3280, q_nc, q_eq, q_lt, q_le, q_add, q_mul, q_in, q_inno, q_no_eq, q_no_eq', q_no_lt, q_lt_no, q_no_le, q_le_no, o1_some, o2_some, lt_do, x1_inl, x1_inr, x2_inl, x2_inr, if_true, if_false, if_pos, if_neg, rvi_t, rvi_f, bt_f, bf_t, bb_t, bb_f, not_true_eq_false, not_false_eq_true, hM]
  obtain ⟨s1, a1, a2⟩ := L9 (M 19 h)
  obtain ⟨s2, b1, b2⟩ := L59 s1
  refine ⟨s2 &&& ((1 <<< (nI po &&& 31)) ^^^ (-1)), ?_, fun i hi => ?_⟩
  · unfold f12_reviewersOf
    simp (disch := omega) only [q_20, q_in, if_pos, q_nc, q_0]
    rw [a2, b2]
  · rw [b_and, b_not _ hi, b_shl1 po (by omega) i hi, b1 i hi, a1 i hi]
    unfold revB
    have eo : decide (M 12 h = nI i) = decide (i = po) := by
      rw [po2]
      simp (disch := omega) only [q_eq]
      by_cases e : i = po
      · subst e; rfl
      · rw [decide_eq_false e, decide_eq_false (fun z => e z.symm)]
    rw [eo, Bool.and_comm]

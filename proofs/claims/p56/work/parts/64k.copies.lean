/-! FILES: the reference's copies, and the desk -/
theorem s12_copies {M : rv_Mem} {a b : Nat} (ha : a < 82) (hb : b < 82) (hab : a ≠ b) : ∃ M', f12_copies M (nI a) (nI b) = some M' ∧ cpf 4 3 M M' a b 4 := by
  have second : ∀ (M0 : rv_Mem), ∃ M', ((∀ q, q ≠ 4 → M' q = M0 q) ∧ (∀ i, i < 40 * b ∨ 40 * b + 40 ≤ i → M' 4 i = M0 4 i) ∧ ∀ p, p < 40 → M' 4 (40 * b + p) = M0 4 (40 * a + p)) ∧ f12_copies_35 rv_FU M0 (nI a) (nI b) (nI 0) = some M' := by
    intro M0
    have L := rv_ui (z := (fun _ _ _ _ => none)) (F := f12_copies_35_s) (fun T k M => T M (nI a) (nI b) (nI k)) 40 (fun k M => (∀ q, q ≠ 4 → M q = M0 q) ∧ (∀ i, i < 40 * b ∨ 40 * b + k ≤ i → M 4 i = M0 4 i) ∧ ∀ p, p < k → M 4 (40 * b + p) = M0 4 (40 * a + p)) some ?_ ?_ rv_FU 0 M0 (Nat.zero_le _) (FU_lt (by omega)) ⟨fun _ _ => rfl, fun _ _ => rfl, fun _ h => absurd h (Nat.not_lt_zero _)⟩
    · exact L
    · intro T k M hk ⟨i1, i2, i3⟩
      refine ⟨rv_u M 4 (40 * b + k) (M 4 (40 * a + k)), ⟨fun q hq => by rw [mu_ne hq]; exact i1 q hq, fun i hi => by rw [mu_ne2 (by omega)]; exact i2 i (by omega), fun p hp => ?_⟩, ?_⟩
      · by_cases e : p = k
        · subst e
          rw [mu_same]; exact i2 _ (by omega)
        · rw [mu_ne2 (by omega)]; exact i3 p (by omega)
      · show f12_copies_35_s T M (nI a) (nI b) (nI k) = _
        unfold f12_copies_35_s
        simp (disch := omega) only [q_no, q_no2, q_0, q_1, q_2, q_3, q_4, q_5, q_6, q_7, q_8, q_10, q_11, q_12, q_15, q_16, q_17, q_20, q_30, q_31, q_32, q_40, q_45, q_60, q_80, q_81, q_82, q_100, q_320, q_328, q_399, q_400, q_3280, q_nc, q_eq, q_lt, q_le, q_add, q_mul, q_in, q_inno, q_no_eq, q_no_eq', q_no_lt, q_lt_no, q_no_le, q_le_no, o1_some, o2_some, lt_do, x1_inl, x1_inr, x2_inl, x2_inr, if_true, if_false, if_pos, if_neg, rvi_t, rvi_f, bt_f, bf_t, bb_t, bb_f, not_true_eq_false, not_false_eq_true]
    · intro T M hI
      show f12_copies_35_s T M (nI a) (nI b) (nI 40) = _
      unfold f12_copies_35_s
      simp (disch := omega) only [q_no, q_no2, q_0, q_1, q_2, q_3, q_4, q_5, q_6, q_7, q_8, q_10, q_11, q_12, q_15, q_16, q_17, q_20, q_30, q_31, q_32, q_40, q_45, q_60, q_80, q_81, q_82, q_100, q_320, q_328, q_399, q_400, q_3280, q_nc, q_eq, q_lt, q_le, q_add, q_mul, q_in, q_inno, q_no_eq, q_no_eq', q_no_lt, q_lt_no, q_no_le, q_le_no, o1_some, o2_some, lt_do, x1_inl, x1_inr, x2_inl, x2_inr, if_true, if_false, if_pos, if_neg, rvi_t, rvi_f, bt_f, bf_t, bb_t, bb_f, not_true_eq_false, not_false_eq_true]
  have L := rv_ui (z := (fun _ _ _ _ => none)) (F := f12_copies_2_s) (fun T k M => T M (nI a) (nI b) (nI k)) 4 (fun k M' => (∀ q, q ≠ 3 → M' q = M q) ∧ (∀ i, i < 4 * b ∨ 4 * b + k ≤ i → M' 3 i = M 3 i) ∧ ∀ f, f < k → M' 3 (4 * b + f) = M 3 (4 * a + f)) (fun M' => f12_copies_35 rv_FU M' (nI a) (nI b) (nI 0)) ?_ ?_ rv_FU 0 M (Nat.zero_le _) (FU_lt (by omega)) ⟨fun _ _ => rfl, fun _ _ => rfl, fun _ h => absurd h (Nat.not_lt_zero _)⟩
  · obtain ⟨M1, ⟨h1, h2, h3⟩, h4⟩ := L
    obtain ⟨M2, ⟨g1, g2, g3⟩, g4⟩ := second M1
    refine ⟨M2, h4.trans g4, fun q hq1 hq2 => by rw [g1 q hq1, h1 q hq2], fun i hi => by rw [g2 i hi, h1 4 (by omega)], fun i hi => by rw [g1 3 (by omega)]; exact h2 i hi, fun f hf => ⟨by rw [g1 3 (by omega)]; exact h3 f hf, fun p s _ hs hp => ?_⟩⟩
    rw [show 10 * (4 * b + f) + p = 40 * b + (10 * f + p) by omega, g3 _ (by omega), h1 4 (by omega)]
    congr 1
    omega
  · intro T k M' hk ⟨i1, i2, i3⟩
    refine ⟨rv_u M' 3 (4 * b + k) (M' 3 (4 * a + k)), ⟨fun q hq => by rw [mu_ne hq]; exact i1 q hq, fun i hi => by rw [mu_ne2 (by omega)]; exact i2 i (by omega), fun p hp => ?_⟩, ?_⟩
    · by_cases e : p = k
      · subst e
        rw [mu_same]; exact i2 _ (by omega)
      · rw [mu_ne2 (by omega)]; exact i3 p (by omega)
    · show f12_copies_2_s T M' (nI a) (nI b) (nI k) = _
      unfold f12_copies_2_s
      simp (disch := omega) only [q_no, q_no2, q_0, q_1, q_2, q_3, q_4, q_5, q_6, q_7, q_8, q_10, q_11, q_12, q_15, q_16, q_17, q_20, q_30, q_31, q_32, q_40, q_45, q_60, q_80, q_81, q_82, q_100, q_320, q_328, q_399, q_400, q_3280, q_nc, q_eq, q_lt, q_le, q_add, q_mul, q_in, q_inno, q_no_eq, q_no_eq', q_no_lt, q_lt_no, q_no_le, q_le_no, o1_some, o2_some, lt_do, x1_inl, x1_inr, x2_inl, x2_inr, if_true, if_false, if_pos, if_neg, rvi_t, rvi_f, bt_f, bf_t, bb_t, bb_f, not_true_eq_false, not_false_eq_true]
  · intro T M' hI
    show f12_copies_2_s T M' (nI a) (nI b) (nI 4) = _
    unfold f12_copies_2_s
    simp (disch := omega) only [q_no, q_no2, q_0, q_1, q_2, q_3, q_4, q_5, q_6, q_7, q_8, q_10, q_11, q_12, q_15, q_16, q_17, q_20, q_30, q_31, q_32, q_40, q_45, q_60, q_80, q_81, q_82, q_100, q_320, q_328, q_399, q_400, q_3280, q_nc, q_eq, q_lt, q_le, q_add, q_mul, q_in, q_inno, q_no_eq, q_no_eq', q_no_lt, q_lt_no, q_no_le, q_le_no, o1_some, o2_some, lt_do, x1_inl, x1_inr, x2_inl, x2_inr, if_true, if_false, if_pos, if_neg, rvi_t, rvi_f, bt_f, bf_t, bb_t, bb_f, not_true_eq_false, not_false_eq_true]
/-- both sides copy: the files stay alike -/
theorem fil_copy {n : Nat} {C C' R R' : rv_Mem} {a b : Nat} (h : A_fil n (C 14) (C 15) (R 3) (R 4)) (ha : a < n ∨ a = 80) (hC : cpf 14 15 C C' a b 4) (hR : cpf 4 3 R R' a b 4) : ∀ c, (c < n ∨ c = 80 ∨ c = b) → ∀ f, f < 4 → ∃ s, s ≤ 10 ∧ C' 15 (4 * c + f) = nI s ∧ R' 3 (4 * c + f) = nI s ∧ ∀ p, p < s → ∃ v, v < 400 ∧ C' 14 (10 * (4 * c + f) + p) = nI v ∧ R' 4 (10 * (4 * c + f) + p) = nI v := by
  obtain ⟨c1, c2, c3, c4⟩ := hC
  obtain ⟨r1, r2, r3, r4⟩ := hR
  intro c hc f hf
  by_cases e : c = b
  · subst e
    obtain ⟨s, s1, s2, s3, s4⟩ := h a ha f hf
    refine ⟨s, s1, by rw [(c4 f hf).1, s2], by rw [(r4 f hf).1, s3], fun p hp => ?_⟩
    obtain ⟨v, v1, v2, v3⟩ := s4 p hp
    exact ⟨v, v1, by rw [(c4 f hf).2 p s s2 s1 hp, v2], by rw [(r4 f hf).2 p s s3 s1 hp, v3]⟩
  · obtain ⟨s, s1, s2, s3, s4⟩ := h c (by omega) f hf
    refine ⟨s, s1, by rw [c3 _ (by omega), s2], by rw [r3 _ (by omega), s3], fun p hp => ?_⟩
    obtain ⟨v, v1, v2, v3⟩ := s4 p hp
    exact ⟨v, v1, by rw [c2 _ (by omega), v2], by rw [r2 _ (by omega), v3]⟩

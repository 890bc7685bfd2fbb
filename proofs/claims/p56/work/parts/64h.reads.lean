/-! READING CALLS -/
theorem h_stateOf : ∀ gh MC MR, Rel gh MC MR → ∀ p1, rS_stateOf Rel gh MC MR p1 := fun gh C R h p1 => by
  obtain ⟨n, hR⟩ := h
  have hc := hR.ch20
  unfold rS_stateOf f11_stateOf f12_stateOf f12_asks f12_asks_14 f12_goes
  rcases hR.dchange p1 with ⟨m, h1, rfl, e1, e2⟩ | ⟨e1, e2⟩
  · left
    have hv : C (100 + m) 5 = R 13 m := by
      obtain ⟨-, -, -, ⟨s, -, e3, e4⟩, -⟩ := hR.chg m h1
      rw [e3, e4]
    rw [e1, e2]
    simp (disch := omega) only [q_no, q_no2, q_0, q_1, q_2, q_3, q_4, q_5, q_6, q_7, q_8, q_10, q_11, q_12, q_15, q_16, q_17, q_20, q_30, q_31, q_32, q_40, q_45, q_60, q_80, q_81, q_82, q_100, q_320, q_328, q_399, q_400, q_3280, q_nc, q_eq, q_lt, q_le, q_add, q_mul, q_in, q_inno, q_no_eq, q_no_eq', q_no_lt, q_lt_no, q_no_le, q_le_no, o1_some, o2_some, lt_do, x1_inl, x1_inr, x2_inl, x2_inr, if_true, if_false, if_pos, if_neg, rvi_t, rvi_f, bt_f, bf_t, bb_t, bb_f, not_true_eq_false, not_false_eq_true, is1 h1 hc]
    refine ⟨C (100 + m) 5, rv_u R 66 0 (nI 0), rfl, ?_, mu_same _ _ _ _, ⟨n, Rn_66 hR⟩⟩
    rw [hv, mu_ne (by omega)]
  · right
    rw [e1, e2]
    simp (disch := omega) only [q_no, q_no2, q_0, q_1, q_2, q_3, q_4, q_5, q_6, q_7, q_8, q_10, q_11, q_12, q_15, q_16, q_17, q_20, q_30, q_31, q_32, q_40, q_45, q_60, q_80, q_81, q_82, q_100, q_320, q_328, q_399, q_400, q_3280, q_nc, q_eq, q_lt, q_le, q_add, q_mul, q_in, q_inno, q_no_eq, q_no_eq', q_no_lt, q_lt_no, q_no_le, q_le_no, o1_some, o2_some, lt_do, x1_inl, x1_inr, x2_inl, x2_inr, if_true, if_false, if_pos, if_neg, rvi_t, rvi_f, bt_f, bf_t, bb_t, bb_f, not_true_eq_false, not_false_eq_true]
    exact ⟨rv_u R 66 0 (nI 1), nI 0, trivial, rfl, mu_same _ _ _ _, ⟨n, Rn_66 hR⟩⟩
theorem h_sets : ∀ gh MC MR, Rel gh MC MR → ∀ p1, rS_sets Rel gh MC MR p1 := fun gh C R h p1 => by
  obtain ⟨n, hR⟩ := h
  have hc := hR.ch20
  unfold rS_sets f11_sets f12_sets f12_asks f12_asks_14 f12_goes
  rcases hR.dchange p1 with ⟨m, h1, rfl, e1, e2⟩ | ⟨e1, e2⟩
  · left
    have hv : C (100 + m) 4 = R 14 m := by
      obtain ⟨k, -, -, e3, e4, -⟩ := hR.sets h1
      rw [e3, e4]
    rw [e1, e2]
    simp (disch := omega) only [q_no, q_no2, q_0, q_1, q_2, q_3, q_4, q_5, q_6, q_7, q_8, q_10, q_11, q_12, q_15, q_16, q_17, q_20, q_30, q_31, q_32, q_40, q_45, q_60, q_80, q_81, q_82, q_100, q_320, q_328, q_399, q_400, q_3280, q_nc, q_eq, q_lt, q_le, q_add, q_mul, q_in, q_inno, q_no_eq, q_no_eq', q_no_lt, q_lt_no, q_no_le, q_le_no, o1_some, o2_some, lt_do, x1_inl, x1_inr, x2_inl, x2_inr, if_true, if_false, if_pos, if_neg, rvi_t, rvi_f, bt_f, bf_t, bb_t, bb_f, not_true_eq_false, not_false_eq_true, is1 h1 hc]
    refine ⟨C (100 + m) 4, rv_u R 66 0 (nI 0), rfl, ?_, mu_same _ _ _ _, ⟨n, Rn_66 hR⟩⟩
    rw [hv, mu_ne (by omega)]
  · right
    rw [e1, e2]
    simp (disch := omega) only [q_no, q_no2, q_0, q_1, q_2, q_3, q_4, q_5, q_6, q_7, q_8, q_10, q_11, q_12, q_15, q_16, q_17, q_20, q_30, q_31, q_32, q_40, q_45, q_60, q_80, q_81, q_82, q_100, q_320, q_328, q_399, q_400, q_3280, q_nc, q_eq, q_lt, q_le, q_add, q_mul, q_in, q_inno, q_no_eq, q_no_eq', q_no_lt, q_lt_no, q_no_le, q_le_no, o1_some, o2_some, lt_do, x1_inl, x1_inr, x2_inl, x2_inr, if_true, if_false, if_pos, if_neg, rvi_t, rvi_f, bt_f, bf_t, bb_t, bb_f, not_true_eq_false, not_false_eq_true]
    exact ⟨rv_u R 66 0 (nI 1), nI 0, trivial, rfl, mu_same _ _ _ _, ⟨n, Rn_66 hR⟩⟩
theorem h_whoseTurn : ∀ gh MC MR, Rel gh MC MR → ∀ p1, rS_whoseTurn Rel gh MC MR p1 := fun gh C R h p1 => by
  obtain ⟨n, hR⟩ := h
  have hc := hR.ch20
  unfold rS_whoseTurn f11_whoseTurn f12_whoseTurn f12_asks f12_asks_14 f12_goes
  rcases hR.dchange p1 with ⟨m, h1, rfl, e1, e2⟩ | ⟨e1, e2⟩
  · left
    have hv : C (100 + m) 10 = R 20 m := by
      exact (hR.chg m h1).2.2.2.2.2.2.2.1
    rw [e1, e2]
    simp (disch := omega) only [q_no, q_no2, q_0, q_1, q_2, q_3, q_4, q_5, q_6, q_7, q_8, q_10, q_11, q_12, q_15, q_16, q_17, q_20, q_30, q_31, q_32, q_40, q_45, q_60, q_80, q_81, q_82, q_100, q_320, q_328, q_399, q_400, q_3280, q_nc, q_eq, q_lt, q_le, q_add, q_mul, q_in, q_inno, q_no_eq, q_no_eq', q_no_lt, q_lt_no, q_no_le, q_le_no, o1_some, o2_some, lt_do, x1_inl, x1_inr, x2_inl, x2_inr, if_true, if_false, if_pos, if_neg, rvi_t, rvi_f, bt_f, bf_t, bb_t, bb_f, not_true_eq_false, not_false_eq_true, is1 h1 hc]
    refine ⟨C (100 + m) 10, rv_u R 66 0 (nI 0), rfl, ?_, mu_same _ _ _ _, ⟨n, Rn_66 hR⟩⟩
    rw [hv, mu_ne (by omega)]
  · right
    rw [e1, e2]
    simp (disch := omega) only [q_no, q_no2, q_0, q_1, q_2, q_3, q_4, q_5, q_6, q_7, q_8, q_10, q_11, q_12, q_15, q_16, q_17, q_20, q_30, q_31, q_32, q_40, q_45, q_60, q_80, q_81, q_82, q_100, q_320, q_328, q_399, q_400, q_3280, q_nc, q_eq, q_lt, q_le, q_add, q_mul, q_in, q_inno, q_no_eq, q_no_eq', q_no_lt, q_lt_no, q_no_le, q_le_no, o1_some, o2_some, lt_do, x1_inl, x1_inr, x2_inl, x2_inr, if_true, if_false, if_pos, if_neg, rvi_t, rvi_f, bt_f, bf_t, bb_t, bb_f, not_true_eq_false, not_false_eq_true]
    exact ⟨rv_u R 66 0 (nI 1), nI 0, trivial, rfl, mu_same _ _ _ _, ⟨n, Rn_66 hR⟩⟩
theorem h_tip : ∀ gh MC MR, Rel gh MC MR → ∀ p1, rS_tip Rel gh MC MR p1 := fun gh C R h p1 => by
  obtain ⟨n, hR⟩ := h
  have hn := hR.n80
  unfold rS_tip f11_tip f12_tip f12_tip_13 f12_goes f9_tipOf
  rcases d_repository gh C p1 with ⟨m, h1, rfl, e1, e2⟩ | ⟨e1, e2⟩
  · left
    have hv : C 22 m = R 9 m := by
      obtain ⟨⟨t, -, e3, e4, -⟩, -⟩ := hR.tip m h1
      rw [e3, e4]
    rw [e1, e2]
    simp (disch := omega) only [q_no, q_no2, q_0, q_1, q_2, q_3, q_4, q_5, q_6, q_7, q_8, q_10, q_11, q_12, q_15, q_16, q_17, q_20, q_30, q_31, q_32, q_40, q_45, q_60, q_80, q_81, q_82, q_100, q_320, q_328, q_399, q_400, q_3280, q_nc, q_eq, q_lt, q_le, q_add, q_mul, q_in, q_inno, q_no_eq, q_no_eq', q_no_lt, q_lt_no, q_no_le, q_le_no, o1_some, o2_some, lt_do, x1_inl, x1_inr, x2_inl, x2_inr, if_true, if_false, if_pos, if_neg, rvi_t, rvi_f, bt_f, bf_t, bb_t, bb_f, not_true_eq_false, not_false_eq_true, s9_read (gh := gh) (C := C) (k := 22) h1 rfl rfl (by omega)]
    refine ⟨C 22 m, rv_u R 66 0 (nI 0), rfl, ?_, mu_same _ _ _ _, ⟨n, Rn_66 hR⟩⟩
    rw [hv, mu_ne (by omega)]
  · right
    rw [e1, e2]
    simp (disch := omega) only [q_no, q_no2, q_0, q_1, q_2, q_3, q_4, q_5, q_6, q_7, q_8, q_10, q_11, q_12, q_15, q_16, q_17, q_20, q_30, q_31, q_32, q_40, q_45, q_60, q_80, q_81, q_82, q_100, q_320, q_328, q_399, q_400, q_3280, q_nc, q_eq, q_lt, q_le, q_add, q_mul, q_in, q_inno, q_no_eq, q_no_eq', q_no_lt, q_lt_no, q_no_le, q_le_no, o1_some, o2_some, lt_do, x1_inl, x1_inr, x2_inl, x2_inr, if_true, if_false, if_pos, if_neg, rvi_t, rvi_f, bt_f, bf_t, bb_t, bb_f, not_true_eq_false, not_false_eq_true]
    exact ⟨rv_u R 66 0 (nI 1), nI 0, trivial, rfl, mu_same _ _ _ _, ⟨n, Rn_66 hR⟩⟩
theorem h_namedAfter : ∀ gh MC MR, Rel gh MC MR → ∀ p1, rS_namedAfter Rel gh MC MR p1 := fun gh C R h p1 => by
  obtain ⟨n, hR⟩ := h
  have hn := hR.n80
  unfold rS_namedAfter f11_namedAfter f12_namedAfter f12_namedAfter_14 f12_goes f9_nameOf
  rcases hR.dcommit p1 with ⟨m, h1, rfl, e1, e2⟩ | ⟨e1, e2⟩
  · left
    have hv : C 18 m = R 8 m := by
      exact (hR.bas.1 m h1).2
    rw [e1, e2]
    simp (disch := omega) only [q_no, q_no2, q_0, q_1, q_2, q_3, q_4, q_5, q_6, q_7, q_8, q_10, q_11, q_12, q_15, q_16, q_17, q_20, q_30, q_31, q_32, q_40, q_45, q_60, q_80, q_81, q_82, q_100, q_320, q_328, q_399, q_400, q_3280, q_nc, q_eq, q_lt, q_le, q_add, q_mul, q_in, q_inno, q_no_eq, q_no_eq', q_no_lt, q_lt_no, q_no_le, q_le_no, o1_some, o2_some, lt_do, x1_inl, x1_inr, x2_inl, x2_inr, if_true, if_false, if_pos, if_neg, rvi_t, rvi_f, bt_f, bf_t, bb_t, bb_f, not_true_eq_false, not_false_eq_true, s9_read (gh := gh) (C := C) (k := 18) (L := 82) (i := m) (by omega) rfl rfl (by omega)]
    refine ⟨C 18 m, rv_u R 66 0 (nI 0), rfl, ?_, mu_same _ _ _ _, ⟨n, Rn_66 hR⟩⟩
    rw [hv, mu_ne (by omega)]
  · right
    rw [e1, e2]
    simp (disch := omega) only [q_no, q_no2, q_0, q_1, q_2, q_3, q_4, q_5, q_6, q_7, q_8, q_10, q_11, q_12, q_15, q_16, q_17, q_20, q_30, q_31, q_32, q_40, q_45, q_60, q_80, q_81, q_82, q_100, q_320, q_328, q_399, q_400, q_3280, q_nc, q_eq, q_lt, q_le, q_add, q_mul, q_in, q_inno, q_no_eq, q_no_eq', q_no_lt, q_lt_no, q_no_le, q_le_no, o1_some, o2_some, lt_do, x1_inl, x1_inr, x2_inl, x2_inr, if_true, if_false, if_pos, if_neg, rvi_t, rvi_f, bt_f, bf_t, bb_t, bb_f, not_true_eq_false, not_false_eq_true]
    exact ⟨rv_u R 66 0 (nI 1), nI 0, trivial, rfl, mu_same _ _ _ _, ⟨n, Rn_66 hR⟩⟩
theorem h_mails : ∀ gh MC MR, Rel gh MC MR → ∀ p1, rS_mails Rel gh MC MR p1 := fun gh C R h p1 => by
  obtain ⟨n, hR⟩ := h
  have hn := hR.n80
  unfold rS_mails f11_mails f12_mails f12_mails_13 f12_goes 
  rcases d_person gh C p1 with ⟨m, h1, rfl, e1, e2⟩ | ⟨e1, e2⟩
  · left
    have hv : C 13 m = R 51 m := by
      exact hR.mis.2.1 m h1
    rw [e1, e2]
    simp (disch := omega) only [q_no, q_no2, q_0, q_1, q_2, q_3, q_4, q_5, q_6, q_7, q_8, q_10, q_11, q_12, q_15, q_16, q_17, q_20, q_30, q_31, q_32, q_40, q_45, q_60, q_80, q_81, q_82, q_100, q_320, q_328, q_399, q_400, q_3280, q_nc, q_eq, q_lt, q_le, q_add, q_mul, q_in, q_inno, q_no_eq, q_no_eq', q_no_lt, q_lt_no, q_no_le, q_le_no, o1_some, o2_some, lt_do, x1_inl, x1_inr, x2_inl, x2_inr, if_true, if_false, if_pos, if_neg, rvi_t, rvi_f, bt_f, bf_t, bb_t, bb_f, not_true_eq_false, not_false_eq_true]
    refine ⟨C 13 m, rv_u R 66 0 (nI 0), rfl, ?_, mu_same _ _ _ _, ⟨n, Rn_66 hR⟩⟩
    rw [hv, mu_ne (by omega)]
  · right
    rw [e1, e2]
    simp (disch := omega) only [q_no, q_no2, q_0, q_1, q_2, q_3, q_4, q_5, q_6, q_7, q_8, q_10, q_11, q_12, q_15, q_16, q_17, q_20, q_30, q_31, q_32, q_40, q_45, q_60, q_80, q_81, q_82, q_100, q_320, q_328, q_399, q_400, q_3280, q_nc, q_eq, q_lt, q_le, q_add, q_mul, q_in, q_inno, q_no_eq, q_no_eq', q_no_lt, q_lt_no, q_no_le, q_le_no, o1_some, o2_some, lt_do, x1_inl, x1_inr, x2_inl, x2_inr, if_true, if_false, if_pos, if_neg, rvi_t, rvi_f, bt_f, bf_t, bb_t, bb_f, not_true_eq_false, not_false_eq_true]
    exact ⟨rv_u R 66 0 (nI 1), nI 0, trivial, rfl, mu_same _ _ _ _, ⟨n, Rn_66 hR⟩⟩
theorem h_commitOf : ∀ gh MC MR, Rel gh MC MR → ∀ p1 p2, rS_commitOf Rel gh MC MR p1 p2 := fun gh C R h p1 p2 => by
  obtain ⟨n, hR⟩ := h
  have hc := hR.ch20
  unfold rS_commitOf f11_commitOf f12_commitOf f12_commitOf_15 f12_goes
  rcases hR.dchange p1 with ⟨m, h1, rfl, e1, e2⟩ | ⟨e1, e2⟩
  · rw [e1]
    rcases hR.dset h1 p2 with ⟨s, c, rfl, -, -, -, -, -, -, -, g1, g2, g3, g4⟩ | ⟨g2, g3⟩
    · left
      rw [g3]
      simp (disch := omega) only [q_no, q_no2, q_0, q_1, q_2, q_3, q_4, q_5, q_6, q_7, q_8, q_10, q_11, q_12, q_15, q_16, q_17, q_20, q_30, q_31, q_32, q_40, q_45, q_60, q_80, q_81, q_82, q_100, q_320, q_328, q_399, q_400, q_3280, q_nc, q_eq, q_lt, q_le, q_add, q_mul, q_in, q_inno, q_no_eq, q_no_eq', q_no_lt, q_lt_no, q_no_le, q_le_no, o1_some, o2_some, lt_do, x1_inl, x1_inr, x2_inl, x2_inr, if_true, if_false, if_pos, if_neg, rvi_t, rvi_f, bt_f, bf_t, bb_t, bb_f, not_true_eq_false, not_false_eq_true, g2]
      rw [s12_commitAt (n := n) (by rw [mu_ne (by omega)]; exact hR.1.2.2.1) hR.n80, mu_ne (by omega), mu_ne (by omega), g1]
      simp (disch := omega) only [q_no, q_no2, q_0, q_1, q_2, q_3, q_4, q_5, q_6, q_7, q_8, q_10, q_11, q_12, q_15, q_16, q_17, q_20, q_30, q_31, q_32, q_40, q_45, q_60, q_80, q_81, q_82, q_100, q_320, q_328, q_399, q_400, q_3280, q_nc, q_eq, q_lt, q_le, q_add, q_mul, q_in, q_inno, q_no_eq, q_no_eq', q_no_lt, q_lt_no, q_no_le, q_le_no, o1_some, o2_some, lt_do, x1_inl, x1_inr, x2_inl, x2_inr, if_true, if_false, if_pos, if_neg, rvi_t, rvi_f, bt_f, bf_t, bb_t, bb_f, not_true_eq_false, not_false_eq_true]
      exact ⟨nI c, rv_u R 66 0 (nI 0), rfl, rfl, mu_same _ _ _ _, ⟨n, Rn_66 hR⟩⟩
    · right
      rw [g3]
      simp (disch := omega) only [q_no, q_no2, q_0, q_1, q_2, q_3, q_4, q_5, q_6, q_7, q_8, q_10, q_11, q_12, q_15, q_16, q_17, q_20, q_30, q_31, q_32, q_40, q_45, q_60, q_80, q_81, q_82, q_100, q_320, q_328, q_399, q_400, q_3280, q_nc, q_eq, q_lt, q_le, q_add, q_mul, q_in, q_inno, q_no_eq, q_no_eq', q_no_lt, q_lt_no, q_no_le, q_le_no, o1_some, o2_some, lt_do, x1_inl, x1_inr, x2_inl, x2_inr, if_true, if_false, if_pos, if_neg, rvi_t, rvi_f, bt_f, bf_t, bb_t, bb_f, not_true_eq_false, not_false_eq_true, g2]
      exact ⟨rv_u R 66 0 (nI 1), nI 0, trivial, rfl, mu_same _ _ _ _, ⟨n, Rn_66 hR⟩⟩
  · right
    have e3 : f12_isSet R p1 p2 = some false := by unfold f12_isSet; rw [e2]; rfl
    rw [e1, e3]
    simp (disch := omega) only [q_no, q_no2, q_0, q_1, q_2, q_3, q_4, q_5, q_6, q_7, q_8, q_10, q_11, q_12, q_15, q_16, q_17, q_20, q_30, q_31, q_32, q_40, q_45, q_60, q_80, q_81, q_82, q_100, q_320, q_328, q_399, q_400, q_3280, q_nc, q_eq, q_lt, q_le, q_add, q_mul, q_in, q_inno, q_no_eq, q_no_eq', q_no_lt, q_lt_no, q_no_le, q_le_no, o1_some, o2_some, lt_do, x1_inl, x1_inr, x2_inl, x2_inr, if_true, if_false, if_pos, if_neg, rvi_t, rvi_f, bt_f, bf_t, bb_t, bb_f, not_true_eq_false, not_false_eq_true]
    exact ⟨rv_u R 66 0 (nI 1), nI 0, trivial, rfl, mu_same _ _ _ _, ⟨n, Rn_66 hR⟩⟩
theorem h_before : ∀ gh MC MR, Rel gh MC MR → ∀ p1, rS_before Rel gh MC MR p1 := fun gh C R h p1 => by
  obtain ⟨n, hR⟩ := h
  have hn := hR.n80
  have hb : ∀ c, c < n ∨ c = 80 → C 17 c = R 2 c := fun c hc => by
    rcases hc with hc | rfl
    · by_cases h2 : c < 2
      · rw [(hR.bas.2.1 c h2).1, (hR.bas.2.1 c h2).2]
      · obtain ⟨b, -, g1, g2, -⟩ := hR.bas.2.2.1 c (by omega) hc
        rw [g1, g2]
    · obtain ⟨b, -, g1, g2⟩ := hR.bas.2.2.2
      rw [g1, g2]
  unfold rS_before f11_before f12_before f12_before_14 f12_before_19 f12_before_40 f12_goes f11_needCommitOrDesk f9_baseOf
  by_cases hx : p1 = -1
  · left
    subst hx
    simp (disch := omega) only [q_no, q_no2, q_0, q_1, q_2, q_3, q_4, q_5, q_6, q_7, q_8, q_10, q_11, q_12, q_15, q_16, q_17, q_20, q_30, q_31, q_32, q_40, q_45, q_60, q_80, q_81, q_82, q_100, q_320, q_328, q_399, q_400, q_3280, q_nc, q_eq, q_lt, q_le, q_add, q_mul, q_in, q_inno, q_no_eq, q_no_eq', q_no_lt, q_lt_no, q_no_le, q_le_no, o1_some, o2_some, lt_do, x1_inl, x1_inr, x2_inl, x2_inr, if_true, if_false, if_pos, if_neg, rvi_t, rvi_f, bt_f, bf_t, bb_t, bb_f, not_true_eq_false, not_false_eq_true, not_true_eq_false, s9_read (gh := gh) (C := C) (k := 17) (L := 82) (i := 80) (by omega) rfl rfl (by omega)]
    refine ⟨C 17 80, rv_u R 66 0 (nI 0), rfl, ?_, mu_same _ _ _ _, ⟨n, Rn_66 hR⟩⟩
    rw [hb 80 (Or.inr rfl), mu_ne (by omega)]
  · rw [if_neg hx, if_pos hx]
    rcases hR.dcommit p1 with ⟨m, h1, rfl, e1, e2⟩ | ⟨e1, e2⟩
    · left
      rw [e1, e2]
      simp (disch := omega) only [q_no, q_no2, q_0, q_1, q_2, q_3, q_4, q_5, q_6, q_7, q_8, q_10, q_11, q_12, q_15, q_16, q_17, q_20, q_30, q_31, q_32, q_40, q_45, q_60, q_80, q_81, q_82, q_100, q_320, q_328, q_399, q_400, q_3280, q_nc, q_eq, q_lt, q_le, q_add, q_mul, q_in, q_inno, q_no_eq, q_no_eq', q_no_lt, q_lt_no, q_no_le, q_le_no, o1_some, o2_some, lt_do, x1_inl, x1_inr, x2_inl, x2_inr, if_true, if_false, if_pos, if_neg, rvi_t, rvi_f, bt_f, bf_t, bb_t, bb_f, not_true_eq_false, not_false_eq_true, s9_read (gh := gh) (C := C) (k := 17) (L := 82) (i := m) (by omega) rfl rfl (by omega)]
      refine ⟨C 17 m, rv_u R 66 0 (nI 0), rfl, ?_, mu_same _ _ _ _, ⟨n, Rn_66 hR⟩⟩
      rw [hb m (Or.inl h1), mu_ne (by omega)]
    · right
      rw [e1, e2]
      simp (disch := omega) only [q_no, q_no2, q_0, q_1, q_2, q_3, q_4, q_5, q_6, q_7, q_8, q_10, q_11, q_12, q_15, q_16, q_17, q_20, q_30, q_31, q_32, q_40, q_45, q_60, q_80, q_81, q_82, q_100, q_320, q_328, q_399, q_400, q_3280, q_nc, q_eq, q_lt, q_le, q_add, q_mul, q_in, q_inno, q_no_eq, q_no_eq', q_no_lt, q_lt_no, q_no_le, q_le_no, o1_some, o2_some, lt_do, x1_inl, x1_inr, x2_inl, x2_inr, if_true, if_false, if_pos, if_neg, rvi_t, rvi_f, bt_f, bf_t, bb_t, bb_f, not_true_eq_false, not_false_eq_true]
      exact ⟨rv_u R 66 0 (nI 1), nI 0, trivial, rfl, mu_same _ _ _ _, ⟨n, Rn_66 hR⟩⟩

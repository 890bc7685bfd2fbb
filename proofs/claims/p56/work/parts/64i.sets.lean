/-! CALLS THAT SET -/
theorem Rn.h64 {n : Nat} {gh : rC_gh} {C R : rv_Mem} (h : Rn n gh C R) : rv_z (R 64 0) = false := h.1.2.2.2.2.2.2.2.2.2
theorem h_setWay : ∀ gh MC MR, Rel gh MC MR → ∀ p1 p2, rS_setWay Rel gh MC MR p1 p2 := fun gh C R h p1 p2 => by
  obtain ⟨n, hR⟩ := h
  unfold rS_setWay f11_setWay f12_setWay f12_setWay_26 f12_goes f5_replaceWay
  rcases d_repository gh C p1 with ⟨m, h1, rfl, e1, e2⟩ | ⟨e1, e2⟩
  · rw [e1, e2]
    rcases q_any p2 with hx | ⟨w, hw, rfl⟩
    · right; right
      simp (disch := omega) only [q_no, q_no2, q_0, q_1, q_2, q_3, q_4, q_5, q_6, q_7, q_8, q_10, q_11, q_12, q_15, q_16, q_17, q_20, q_30, q_31, q_32, q_40, q_45, q_60, q_80, q_81, q_82, q_100, q_320, q_328, q_399, q_400, q_3280, q_nc, q_eq, q_lt, q_le, q_add, q_mul, q_in, q_inno, q_no_eq, q_no_eq', q_no_lt, q_lt_no, q_no_le, q_le_no, o1_some, o2_some, lt_do, x1_inl, x1_inr, x2_inl, x2_inr, if_true, if_false, if_pos, if_neg, rvi_t, rvi_f, bt_f, bf_t, bb_t, bb_f, not_true_eq_false, not_false_eq_true, q_neg0 hx, s12_isIn_neg hx]
      exact ⟨C, rv_u R 66 0 (nI 2), nI 0, rfl, rfl, mu_same _ _ _ _, ⟨n, Rn_66 hR⟩⟩
    · by_cases hw3 : w < 3
      · left
        have hd : decide (0 ≤ w ∧ w ≤ 2) = true := decide_eq_true (by omega)
        simp (disch := omega) only [q_no, q_no2, q_0, q_1, q_2, q_3, q_4, q_5, q_6, q_7, q_8, q_10, q_11, q_12, q_15, q_16, q_17, q_20, q_30, q_31, q_32, q_40, q_45, q_60, q_80, q_81, q_82, q_100, q_320, q_328, q_399, q_400, q_3280, q_nc, q_eq, q_lt, q_le, q_add, q_mul, q_in, q_inno, q_no_eq, q_no_eq', q_no_lt, q_lt_no, q_no_le, q_le_no, o1_some, o2_some, lt_do, x1_inl, x1_inr, x2_inl, x2_inr, if_true, if_false, if_pos, if_neg, rvi_t, rvi_f, bt_f, bf_t, bb_t, bb_f, not_true_eq_false, not_false_eq_true, s12_isIn, hd, s9_read (gh := gh) (C := C) (k := 51) (L := 2) h1 rfl rfl (by omega), s9_write (gh := gh) (C := C) (k := 51) (L := 2) (v := nI w) h1 rfl rfl (by omega)]
        obtain ⟨-, w0, -, g1, g2⟩ := hR.tip m h1
        refine ⟨C 51 m, rv_u C 51 m (nI w), rv_u (rv_u R 66 0 (nI 0)) 10 m (nI w), rfl, ?_, ?_, ⟨n, ?_⟩⟩
        · rw [g1, mu_ne (by omega), g2]
        · rw [mu_ne (by omega), mu_same]
        · refine Rn_set hR (fun k hk => mu_ne (by omega)) (fun k hk => mu_ne (by omega)) (fun k hk => by rw [mu_ne (by omega), mu_ne (by omega)]) (by rw [mu_ne (by omega), mu_ne (by omega)]; exact hR.h64) ?_ hR.vot hR.ols hR.rul hR.mis
          intro r hr
          obtain ⟨t1, w1, t2, t3, t4⟩ := hR.tip r hr
          refine ⟨t1, ?_⟩
          by_cases er : r = m
          · subst er
            exact ⟨w, hw3, mu_same _ _ _ _, mu_same _ _ _ _⟩
          · refine ⟨w1, t2, ?_, ?_⟩
            · rw [mu_ne2 er]; exact t3
            · rw [mu_ne2 er, mu_ne (by omega)]; exact t4
      · right; right
        have hd : decide (0 ≤ w ∧ w ≤ 2) = false := decide_eq_false (by omega)
        simp (disch := omega) only [q_no, q_no2, q_0, q_1, q_2, q_3, q_4, q_5, q_6, q_7, q_8, q_10, q_11, q_12, q_15, q_16, q_17, q_20, q_30, q_31, q_32, q_40, q_45, q_60, q_80, q_81, q_82, q_100, q_320, q_328, q_399, q_400, q_3280, q_nc, q_eq, q_lt, q_le, q_add, q_mul, q_in, q_inno, q_no_eq, q_no_eq', q_no_lt, q_lt_no, q_no_le, q_le_no, o1_some, o2_some, lt_do, x1_inl, x1_inr, x2_inl, x2_inr, if_true, if_false, if_pos, if_neg, rvi_t, rvi_f, bt_f, bf_t, bb_t, bb_f, not_true_eq_false, not_false_eq_true, s12_isIn, hd]
        exact ⟨C, rv_u R 66 0 (nI 2), nI 0, rfl, rfl, mu_same _ _ _ _, ⟨n, Rn_66 hR⟩⟩
  · right; left
    rw [e1, e2]
    simp (disch := omega) only [q_no, q_no2, q_0, q_1, q_2, q_3, q_4, q_5, q_6, q_7, q_8, q_10, q_11, q_12, q_15, q_16, q_17, q_20, q_30, q_31, q_32, q_40, q_45, q_60, q_80, q_81, q_82, q_100, q_320, q_328, q_399, q_400, q_3280, q_nc, q_eq, q_lt, q_le, q_add, q_mul, q_in, q_inno, q_no_eq, q_no_eq', q_no_lt, q_lt_no, q_no_le, q_le_no, o1_some, o2_some, lt_do, x1_inl, x1_inr, x2_inl, x2_inr, if_true, if_false, if_pos, if_neg, rvi_t, rvi_f, bt_f, bf_t, bb_t, bb_f, not_true_eq_false, not_false_eq_true]
    exact ⟨C, rv_u R 66 0 (nI 1), nI 0, rfl, rfl, mu_same _ _ _ _, ⟨n, Rn_66 hR⟩⟩
theorem isIn_t {x a b : Nat} (h : a ≤ x ∧ x ≤ b) (hb : b < 2147483648) : f12_isIn (nI x) (nI a) (nI b) = some true := by rw [s12_isIn (by omega) (by omega) hb, decide_eq_true h]
theorem isIn_f {x a b : Nat} (h : ¬ (a ≤ x ∧ x ≤ b)) (hx : x < 2147483648) (ha : a < 2147483648) (hb : b < 2147483648) : f12_isIn (nI x) (nI a) (nI b) = some false := by rw [s12_isIn hx ha hb, decide_eq_false h]
theorem h_setCopied : ∀ gh MC MR, Rel gh MC MR → ∀ p1 p2 p3, rS_setCopied Rel gh MC MR p1 p2 p3 := fun gh C R h p1 p2 p3 => by
  obtain ⟨n, hR⟩ := h
  unfold rS_setCopied f11_setCopied f12_setCopied f12_setCopied_31 f12_setCopied_32 f12_goes f10_replaceCopied
  have bad : Rel gh C (rv_u R 66 0 (nI 1)) := ⟨n, Rn_66 hR⟩
  rcases d_label gh C p1 with ⟨m, h1, rfl, e1, e2⟩ | ⟨e1, e2⟩
  · rw [e1, e2]
    rcases q_any p2 with hx | ⟨w, hw, rfl⟩
    · right
      simp (disch := omega) only [q_no, q_no2, q_0, q_1, q_2, q_3, q_4, q_5, q_6, q_7, q_8, q_10, q_11, q_12, q_15, q_16, q_17, q_20, q_30, q_31, q_32, q_40, q_45, q_60, q_80, q_81, q_82, q_100, q_320, q_328, q_399, q_400, q_3280, q_nc, q_eq, q_lt, q_le, q_add, q_mul, q_in, q_inno, q_no_eq, q_no_eq', q_no_lt, q_lt_no, q_no_le, q_le_no, o1_some, o2_some, lt_do, x1_inl, x1_inr, x2_inl, x2_inr, if_true, if_false, if_pos, if_neg, rvi_t, rvi_f, bt_f, bf_t, bb_t, bb_f, not_true_eq_false, not_false_eq_true, q_neg0 hx, s12_isIn_neg hx]
      exact ⟨C, rv_u R 66 0 (nI 1), nI 0, rfl, rfl, mu_same _ _ _ _, bad⟩
    · by_cases hw3 : w < 3
      · rcases q_any p3 with hx | ⟨v, hv, rfl⟩
        · right
          simp (disch := omega) only [q_no, q_no2, q_0, q_1, q_2, q_3, q_4, q_5, q_6, q_7, q_8, q_10, q_11, q_12, q_15, q_16, q_17, q_20, q_30, q_31, q_32, q_40, q_45, q_60, q_80, q_81, q_82, q_100, q_320, q_328, q_399, q_400, q_3280, q_nc, q_eq, q_lt, q_le, q_add, q_mul, q_in, q_inno, q_no_eq, q_no_eq', q_no_lt, q_lt_no, q_no_le, q_le_no, o1_some, o2_some, lt_do, x1_inl, x1_inr, x2_inl, x2_inr, if_true, if_false, if_pos, if_neg, rvi_t, rvi_f, bt_f, bf_t, bb_t, bb_f, not_true_eq_false, not_false_eq_true, q_neg0 hx, s12_isIn_neg hx, isIn_t]
          exact ⟨C, rv_u R 66 0 (nI 1), nI 0, rfl, rfl, mu_same _ _ _ _, bad⟩
        · by_cases hv32 : v < 32
          · left
            have ei : m * 3 + w = 3 * m + w := by omega
            simp (disch := omega) only [q_no, q_no2, q_0, q_1, q_2, q_3, q_4, q_5, q_6, q_7, q_8, q_10, q_11, q_12, q_15, q_16, q_17, q_20, q_30, q_31, q_32, q_40, q_45, q_60, q_80, q_81, q_82, q_100, q_320, q_328, q_399, q_400, q_3280, q_nc, q_eq, q_lt, q_le, q_add, q_mul, q_in, q_inno, q_no_eq, q_no_eq', q_no_lt, q_lt_no, q_no_le, q_le_no, o1_some, o2_some, lt_do, x1_inl, x1_inr, x2_inl, x2_inr, if_true, if_false, if_pos, if_neg, rvi_t, rvi_f, bt_f, bf_t, bb_t, bb_f, not_true_eq_false, not_false_eq_true, isIn_t, ei, s9_read (gh := gh) (C := C) (k := 42) (L := 6) (i := 3 * m + w) (by omega) rfl rfl (by omega), s9_write (gh := gh) (C := C) (k := 42) (L := 6) (i := 3 * m + w) (v := nI v) (by omega) rfl rfl (by omega)]
            obtain ⟨v0, -, g1, g2⟩ := hR.vot.2 (3 * m + w) (by omega)
            refine ⟨C 42 (3 * m + w), rv_u C 42 (3 * m + w) (nI v), rv_u (rv_u R 66 0 (nI 0)) 23 (3 * m + w) (nI v), rfl, ?_, ?_, ⟨n, ?_⟩⟩
            · rw [g1, mu_ne (by omega), g2]
            · rw [mu_ne (by omega), mu_same]
            · refine Rn_set hR (fun k hk => mu_ne (by omega)) (fun k hk => mu_ne (by omega)) (fun k hk => by rw [mu_ne (by omega), mu_ne (by omega)]) (by rw [mu_ne (by omega), mu_ne (by omega)]; exact hR.h64) hR.tip ?_ hR.ols hR.rul hR.mis
              refine ⟨hR.vot.1, fun i hi => ?_⟩
              by_cases er : i = 3 * m + w
              · subst er
                exact ⟨v, hv32, mu_same _ _ _ _, mu_same _ _ _ _⟩
              · obtain ⟨v1, g3, g4, g5⟩ := hR.vot.2 i hi
                refine ⟨v1, g3, ?_, ?_⟩
                · rw [mu_ne2 er]; exact g4
                · rw [mu_ne2 er, mu_ne (by omega)]; exact g5
          · right
            simp (disch := omega) only [q_no, q_no2, q_0, q_1, q_2, q_3, q_4, q_5, q_6, q_7, q_8, q_10, q_11, q_12, q_15, q_16, q_17, q_20, q_30, q_31, q_32, q_40, q_45, q_60, q_80, q_81, q_82, q_100, q_320, q_328, q_399, q_400, q_3280, q_nc, q_eq, q_lt, q_le, q_add, q_mul, q_in, q_inno, q_no_eq, q_no_eq', q_no_lt, q_lt_no, q_no_le, q_le_no, o1_some, o2_some, lt_do, x1_inl, x1_inr, x2_inl, x2_inr, if_true, if_false, if_pos, if_neg, rvi_t, rvi_f, bt_f, bf_t, bb_t, bb_f, not_true_eq_false, not_false_eq_true, isIn_t, isIn_f]
            exact ⟨C, rv_u R 66 0 (nI 1), nI 0, rfl, rfl, mu_same _ _ _ _, bad⟩
      · right
        simp (disch := omega) only [q_no, q_no2, q_0, q_1, q_2, q_3, q_4, q_5, q_6, q_7, q_8, q_10, q_11, q_12, q_15, q_16, q_17, q_20, q_30, q_31, q_32, q_40, q_45, q_60, q_80, q_81, q_82, q_100, q_320, q_328, q_399, q_400, q_3280, q_nc, q_eq, q_lt, q_le, q_add, q_mul, q_in, q_inno, q_no_eq, q_no_eq', q_no_lt, q_lt_no, q_no_le, q_le_no, o1_some, o2_some, lt_do, x1_inl, x1_inr, x2_inl, x2_inr, if_true, if_false, if_pos, if_neg, rvi_t, rvi_f, bt_f, bf_t, bb_t, bb_f, not_true_eq_false, not_false_eq_true, isIn_f]
        exact ⟨C, rv_u R 66 0 (nI 1), nI 0, rfl, rfl, mu_same _ _ _ _, bad⟩
  · right
    rw [e1, e2]
    simp (disch := omega) only [q_no, q_no2, q_0, q_1, q_2, q_3, q_4, q_5, q_6, q_7, q_8, q_10, q_11, q_12, q_15, q_16, q_17, q_20, q_30, q_31, q_32, q_40, q_45, q_60, q_80, q_81, q_82, q_100, q_320, q_328, q_399, q_400, q_3280, q_nc, q_eq, q_lt, q_le, q_add, q_mul, q_in, q_inno, q_no_eq, q_no_eq', q_no_lt, q_lt_no, q_no_le, q_le_no, o1_some, o2_some, lt_do, x1_inl, x1_inr, x2_inl, x2_inr, if_true, if_false, if_pos, if_neg, rvi_t, rvi_f, bt_f, bf_t, bb_t, bb_f, not_true_eq_false, not_false_eq_true]
    exact ⟨C, rv_u R 66 0 (nI 1), nI 0, rfl, rfl, mu_same _ _ _ _, bad⟩
theorem h_setOwners : ∀ gh MC MR, Rel gh MC MR → ∀ p1 p2 p3 (p4 : Bool), rS_setOwners Rel gh MC MR p1 p2 p3 p4 := fun gh C R h p1 p2 p3 p4 => by
  obtain ⟨n, hR⟩ := h
  unfold rS_setOwners f11_setOwners f12_setOwners f12_setOwners_37 f12_setOwners_18 f12_setOwners_37 f12_goes f6_setList
  have bad : ∀ v, Rel gh C (rv_u R 66 0 v) := fun v => ⟨n, Rn_66 hR⟩
  rcases d_repository gh C p1 with ⟨m, h1, rfl, e1, e2⟩ | ⟨e1, e2⟩
  · rw [e1, e2]
    rcases q_any p2 with hx | ⟨w, hw, rfl⟩
    · right; left
      simp (disch := omega) only [q_no, q_no2, q_0, q_1, q_2, q_3, q_4, q_5, q_6, q_7, q_8, q_10, q_11, q_12, q_15, q_16, q_17, q_20, q_30, q_31, q_32, q_40, q_45, q_60, q_80, q_81, q_82, q_100, q_320, q_328, q_399, q_400, q_3280, q_nc, q_eq, q_lt, q_le, q_add, q_mul, q_in, q_inno, q_no_eq, q_no_eq', q_no_lt, q_lt_no, q_no_le, q_le_no, o1_some, o2_some, lt_do, x1_inl, x1_inr, x2_inl, x2_inr, if_true, if_false, if_pos, if_neg, rvi_t, rvi_f, bt_f, bf_t, bb_t, bb_f, not_true_eq_false, not_false_eq_true, q_neg0 hx, s12_isIn_neg hx]
      exact ⟨C, rv_u R 66 0 (nI 1), nI 0, rfl, rfl, mu_same _ _ _ _, bad _⟩
    · by_cases hw3 : w < 7
      · rcases q_any p3 with hx | ⟨v, hv, rfl⟩
        · right; right
          simp (disch := omega) only [q_no, q_no2, q_0, q_1, q_2, q_3, q_4, q_5, q_6, q_7, q_8, q_10, q_11, q_12, q_15, q_16, q_17, q_20, q_30, q_31, q_32, q_40, q_45, q_60, q_80, q_81, q_82, q_100, q_320, q_328, q_399, q_400, q_3280, q_nc, q_eq, q_lt, q_le, q_add, q_mul, q_in, q_inno, q_no_eq, q_no_eq', q_no_lt, q_lt_no, q_no_le, q_le_no, o1_some, o2_some, lt_do, x1_inl, x1_inr, x2_inl, x2_inr, if_true, if_false, if_pos, if_neg, rvi_t, rvi_f, bt_f, bf_t, bb_t, bb_f, not_true_eq_false, not_false_eq_true, q_neg0 hx, s12_isIn_neg hx, isIn_t, show (7 : Int32) = nI 7 from rfl, show (64 : Int32) = nI 64 from rfl]
          exact ⟨C, rv_u R 66 0 (nI 2), nI 0, rfl, rfl, mu_same _ _ _ _, bad _⟩
        · by_cases hv32 : v < 64
          · left
            have ei : m * 7 + w = 7 * m + w := by omega
            simp (disch := omega) only [q_no, q_no2, q_0, q_1, q_2, q_3, q_4, q_5, q_6, q_7, q_8, q_10, q_11, q_12, q_15, q_16, q_17, q_20, q_30, q_31, q_32, q_40, q_45, q_60, q_80, q_81, q_82, q_100, q_320, q_328, q_399, q_400, q_3280, q_nc, q_eq, q_lt, q_le, q_add, q_mul, q_in, q_inno, q_no_eq, q_no_eq', q_no_lt, q_lt_no, q_no_le, q_le_no, o1_some, o2_some, lt_do, x1_inl, x1_inr, x2_inl, x2_inr, if_true, if_false, if_pos, if_neg, rvi_t, rvi_f, bt_f, bf_t, bb_t, bb_f, not_true_eq_false, not_false_eq_true, isIn_t, ei, show (7 : Int32) = nI 7 from rfl, show (64 : Int32) = nI 64 from rfl, show (63 : Int32) = nI 63 from rfl, show (14 : Int32) = nI 14 from rfl, s9_read (gh := gh) (C := C) (k := 48) (L := 14) (i := 7 * m + w) (by omega) rfl rfl (by omega)]
            obtain ⟨⟨v0, -, g1, g2⟩, -⟩ := hR.ols.1 (7 * m + w) (by omega)
            refine ⟨C 48 (7 * m + w), rv_u (rv_u C 48 (7 * m + w) (nI v)) 49 (7 * m + w) (rv_i p4), rv_u (rv_u (rv_u R 66 0 (nI 0)) 41 (7 * m + w) (nI v)) 42 (7 * m + w) (rv_i p4), rfl, ?_, ?_, ⟨n, ?_⟩⟩
            · rw [g1, mu_ne (by omega), g2]
            · rw [mu_ne (by omega), mu_ne (by omega), mu_same]
            · refine Rn_set hR (fun k hk => by rw [mu_ne (by omega), mu_ne (by omega)]) (fun k hk => by rw [mu_ne (by omega), mu_ne (by omega)]) (fun k hk => by rw [mu_ne (by omega), mu_ne (by omega), mu_ne (by omega)]) (by rw [mu_ne (by omega), mu_ne (by omega), mu_ne (by omega)]; exact hR.h64) hR.tip hR.vot ?_ hR.rul hR.mis
              refine ⟨fun i hi => ?_, hR.ols.2.1, hR.ols.2.2⟩
              by_cases er : i = 7 * m + w
              · subst er
                refine ⟨⟨v, hv32, ?_, ?_⟩, ?_⟩
                · rw [mu_ne (by omega), mu_same]
                · rw [mu_ne (by omega), mu_same]
                · rw [mu_same, mu_same]
              · obtain ⟨⟨v1, g3, g4, g5⟩, g6⟩ := hR.ols.1 i hi
                refine ⟨⟨v1, g3, ?_, ?_⟩, ?_⟩
                · rw [mu_ne (by omega), mu_ne2 er]; exact g4
                · rw [mu_ne (by omega), mu_ne2 er, mu_ne (by omega)]; exact g5
                · simp only [mu_ne2 er]; rw [mu_ne (by omega)]; exact g6
          · right; right
            simp (disch := omega) only [q_no, q_no2, q_0, q_1, q_2, q_3, q_4, q_5, q_6, q_7, q_8, q_10, q_11, q_12, q_15, q_16, q_17, q_20, q_30, q_31, q_32, q_40, q_45, q_60, q_80, q_81, q_82, q_100, q_320, q_328, q_399, q_400, q_3280, q_nc, q_eq, q_lt, q_le, q_add, q_mul, q_in, q_inno, q_no_eq, q_no_eq', q_no_lt, q_lt_no, q_no_le, q_le_no, o1_some, o2_some, lt_do, x1_inl, x1_inr, x2_inl, x2_inr, if_true, if_false, if_pos, if_neg, rvi_t, rvi_f, bt_f, bf_t, bb_t, bb_f, not_true_eq_false, not_false_eq_true, isIn_t, isIn_f, show (7 : Int32) = nI 7 from rfl, show (64 : Int32) = nI 64 from rfl, show (63 : Int32) = nI 63 from rfl]
            exact ⟨C, rv_u R 66 0 (nI 2), nI 0, rfl, rfl, mu_same _ _ _ _, bad _⟩
      · right; left
        simp (disch := omega) only [q_no, q_no2, q_0, q_1, q_2, q_3, q_4, q_5, q_6, q_7, q_8, q_10, q_11, q_12, q_15, q_16, q_17, q_20, q_30, q_31, q_32, q_40, q_45, q_60, q_80, q_81, q_82, q_100, q_320, q_328, q_399, q_400, q_3280, q_nc, q_eq, q_lt, q_le, q_add, q_mul, q_in, q_inno, q_no_eq, q_no_eq', q_no_lt, q_lt_no, q_no_le, q_le_no, o1_some, o2_some, lt_do, x1_inl, x1_inr, x2_inl, x2_inr, if_true, if_false, if_pos, if_neg, rvi_t, rvi_f, bt_f, bf_t, bb_t, bb_f, not_true_eq_false, not_false_eq_true, isIn_f, show (7 : Int32) = nI 7 from rfl]
        exact ⟨C, rv_u R 66 0 (nI 1), nI 0, rfl, rfl, mu_same _ _ _ _, bad _⟩
  · right; left
    rw [e1, e2]
    simp (disch := omega) only [q_no, q_no2, q_0, q_1, q_2, q_3, q_4, q_5, q_6, q_7, q_8, q_10, q_11, q_12, q_15, q_16, q_17, q_20, q_30, q_31, q_32, q_40, q_45, q_60, q_80, q_81, q_82, q_100, q_320, q_328, q_399, q_400, q_3280, q_nc, q_eq, q_lt, q_le, q_add, q_mul, q_in, q_inno, q_no_eq, q_no_eq', q_no_lt, q_lt_no, q_no_le, q_le_no, o1_some, o2_some, lt_do, x1_inl, x1_inr, x2_inl, x2_inr, if_true, if_false, if_pos, if_neg, rvi_t, rvi_f, bt_f, bf_t, bb_t, bb_f, not_true_eq_false, not_false_eq_true]
    exact ⟨C, rv_u R 66 0 (nI 1), nI 0, rfl, rfl, mu_same _ _ _ _, bad _⟩
theorem h_setInclude : ∀ gh MC MR, Rel gh MC MR → ∀ p1 p2 (p3 : Bool), rS_setInclude Rel gh MC MR p1 p2 p3 := fun gh C R h p1 p2 p3 => by
  obtain ⟨n, hR⟩ := h
  unfold rS_setInclude f11_setInclude f12_setInclude f12_setInclude_21 f12_setInclude_22 f12_goes f6_setIncluding
  have bad : ∀ v, Rel gh C (rv_u R 66 0 v) := fun v => ⟨n, Rn_66 hR⟩
  rcases d_repository gh C p1 with ⟨m, h1, rfl, e1, e2⟩ | ⟨e1, e2⟩
  · rw [e1, e2]
    rcases q_any p2 with hx | ⟨w, hw, rfl⟩
    · right
      simp (disch := omega) only [q_no, q_no2, q_0, q_1, q_2, q_3, q_4, q_5, q_6, q_7, q_8, q_10, q_11, q_12, q_15, q_16, q_17, q_20, q_30, q_31, q_32, q_40, q_45, q_60, q_80, q_81, q_82, q_100, q_320, q_328, q_399, q_400, q_3280, q_nc, q_eq, q_lt, q_le, q_add, q_mul, q_in, q_inno, q_no_eq, q_no_eq', q_no_lt, q_lt_no, q_no_le, q_le_no, o1_some, o2_some, lt_do, x1_inl, x1_inr, x2_inl, x2_inr, if_true, if_false, if_pos, if_neg, rvi_t, rvi_f, bt_f, bf_t, bb_t, bb_f, not_true_eq_false, not_false_eq_true, q_neg0 hx, s12_isIn_neg hx]
      exact ⟨C, rv_u R 66 0 (nI 1), false, rfl, rfl, mu_same _ _ _ _, bad _⟩
    · by_cases hw3 : w < 2
      · left
        have ei : m * 2 + w = 2 * m + w := by omega
        simp (disch := omega) only [q_no, q_no2, q_0, q_1, q_2, q_3, q_4, q_5, q_6, q_7, q_8, q_10, q_11, q_12, q_15, q_16, q_17, q_20, q_30, q_31, q_32, q_40, q_45, q_60, q_80, q_81, q_82, q_100, q_320, q_328, q_399, q_400, q_3280, q_nc, q_eq, q_lt, q_le, q_add, q_mul, q_in, q_inno, q_no_eq, q_no_eq', q_no_lt, q_lt_no, q_no_le, q_le_no, o1_some, o2_some, lt_do, x1_inl, x1_inr, x2_inl, x2_inr, if_true, if_false, if_pos, if_neg, rvi_t, rvi_f, bt_f, bf_t, bb_t, bb_f, not_true_eq_false, not_false_eq_true, isIn_t, ei]
        refine ⟨rv_z (C 50 (2 * m + w)), rv_u C 50 (2 * m + w) (rv_i p3), rv_u (rv_u R 66 0 (nI 0)) 43 (2 * m + w) (rv_i p3), rfl, ?_, ?_, ⟨n, ?_⟩⟩
        · rw [mu_ne (by omega), hR.ols.2.1 (2 * m + w) (by omega)]
        · rw [mu_ne (by omega), mu_same]
        · refine Rn_set hR (fun k hk => mu_ne (by omega)) (fun k hk => mu_ne (by omega)) (fun k hk => by rw [mu_ne (by omega), mu_ne (by omega)]) (by rw [mu_ne (by omega), mu_ne (by omega)]; exact hR.h64) hR.tip hR.vot ?_ hR.rul hR.mis
          refine ⟨hR.ols.1, fun i hi => ?_, hR.ols.2.2⟩
          by_cases er : i = 2 * m + w
          · subst er
            rw [mu_same, mu_same]
          · rw [mu_ne2 er, mu_ne2 er, mu_ne (by omega)]
            exact hR.ols.2.1 i hi
      · right
        simp (disch := omega) only [q_no, q_no2, q_0, q_1, q_2, q_3, q_4, q_5, q_6, q_7, q_8, q_10, q_11, q_12, q_15, q_16, q_17, q_20, q_30, q_31, q_32, q_40, q_45, q_60, q_80, q_81, q_82, q_100, q_320, q_328, q_399, q_400, q_3280, q_nc, q_eq, q_lt, q_le, q_add, q_mul, q_in, q_inno, q_no_eq, q_no_eq', q_no_lt, q_lt_no, q_no_le, q_le_no, o1_some, o2_some, lt_do, x1_inl, x1_inr, x2_inl, x2_inr, if_true, if_false, if_pos, if_neg, rvi_t, rvi_f, bt_f, bf_t, bb_t, bb_f, not_true_eq_false, not_false_eq_true, isIn_f]
        exact ⟨C, rv_u R 66 0 (nI 1), false, rfl, rfl, mu_same _ _ _ _, bad _⟩
  · right
    rw [e1, e2]
    simp (disch := omega) only [q_no, q_no2, q_0, q_1, q_2, q_3, q_4, q_5, q_6, q_7, q_8, q_10, q_11, q_12, q_15, q_16, q_17, q_20, q_30, q_31, q_32, q_40, q_45, q_60, q_80, q_81, q_82, q_100, q_320, q_328, q_399, q_400, q_3280, q_nc, q_eq, q_lt, q_le, q_add, q_mul, q_in, q_inno, q_no_eq, q_no_eq', q_no_lt, q_lt_no, q_no_le, q_le_no, o1_some, o2_some, lt_do, x1_inl, x1_inr, x2_inl, x2_inr, if_true, if_false, if_pos, if_neg, rvi_t, rvi_f, bt_f, bf_t, bb_t, bb_f, not_true_eq_false, not_false_eq_true]
    exact ⟨C, rv_u R 66 0 (nI 1), false, rfl, rfl, mu_same _ _ _ _, bad _⟩
theorem h_setLastResort : ∀ gh MC MR, Rel gh MC MR → ∀ p1, rS_setLastResort Rel gh MC MR p1 := fun gh C R h p1 => by
  obtain ⟨n, hR⟩ := h
  unfold rS_setLastResort f11_setLastResort f12_setLastResort f12_setLastResort_13 f12_goes
  rcases d_person gh C p1 with ⟨m, h1, rfl, e1, e2⟩ | ⟨e1, e2⟩
  · left
    rw [e1, e2]
    simp (disch := omega) only [q_no, q_no2, q_0, q_1, q_2, q_3, q_4, q_5, q_6, q_7, q_8, q_10, q_11, q_12, q_15, q_16, q_17, q_20, q_30, q_31, q_32, q_40, q_45, q_60, q_80, q_81, q_82, q_100, q_320, q_328, q_399, q_400, q_3280, q_nc, q_eq, q_lt, q_le, q_add, q_mul, q_in, q_inno, q_no_eq, q_no_eq', q_no_lt, q_lt_no, q_no_le, q_le_no, o1_some, o2_some, lt_do, x1_inl, x1_inr, x2_inl, x2_inr, if_true, if_false, if_pos, if_neg, rvi_t, rvi_f, bt_f, bf_t, bb_t, bb_f, not_true_eq_false, not_false_eq_true]
    obtain ⟨p, -, g1, g2⟩ := hR.ols.2.2
    refine ⟨C 5 3, rv_u C 5 3 (nI m), rv_u (rv_u R 66 0 (nI 0)) 44 0 (nI m), rfl, ?_, ?_, ⟨n, ?_⟩⟩
    · rw [mu_ne (by omega), g1, g2]
    · rw [mu_ne (by omega), mu_same]
    · exact Rn_set hR (fun k hk => mu_ne (by omega)) (fun k hk => mu_ne (by omega)) (fun k hk => by rw [mu_ne (by omega), mu_ne (by omega)]) (by rw [mu_ne (by omega), mu_ne (by omega)]; exact hR.h64) hR.tip hR.vot ⟨hR.ols.1, hR.ols.2.1, m, h1, mu_same _ _ _ _, mu_same _ _ _ _⟩ hR.rul hR.mis
  · right
    rw [e1, e2]
    simp (disch := omega) only [q_no, q_no2, q_0, q_1, q_2, q_3, q_4, q_5, q_6, q_7, q_8, q_10, q_11, q_12, q_15, q_16, q_17, q_20, q_30, q_31, q_32, q_40, q_45, q_60, q_80, q_81, q_82, q_100, q_320, q_328, q_399, q_400, q_3280, q_nc, q_eq, q_lt, q_le, q_add, q_mul, q_in, q_inno, q_no_eq, q_no_eq', q_no_lt, q_lt_no, q_no_le, q_le_no, o1_some, o2_some, lt_do, x1_inl, x1_inr, x2_inl, x2_inr, if_true, if_false, if_pos, if_neg, rvi_t, rvi_f, bt_f, bf_t, bb_t, bb_f, not_true_eq_false, not_false_eq_true]
    exact ⟨C, rv_u R 66 0 (nI 1), nI 0, rfl, rfl, mu_same _ _ _ _, ⟨n, Rn_66 hR⟩⟩
theorem h_watch : ∀ gh MC MR, Rel gh MC MR → ∀ p1 p2 (p3 : Bool), rS_watch Rel gh MC MR p1 p2 p3 := fun gh C R h p1 p2 p3 => by
  obtain ⟨n, hR⟩ := h
  unfold rS_watch f11_watch f12_watch f12_watch_19 f12_watch_20 f12_goes f12_watch_74 f12_isOf f11_isIn
  have bad : ∀ v, Rel gh C (rv_u R 66 0 v) := fun v => ⟨n, Rn_66 hR⟩
  have good : ∀ (m : Nat) (v : Int32), m < 2 → Rel gh (rv_u C 12 m v) (rv_u (rv_u R 66 0 (nI 0)) 50 m v) := fun m v hm => by
    refine ⟨n, Rn_set hR (fun k hk => mu_ne (by omega)) (fun k hk => mu_ne (by omega)) (fun k hk => by rw [mu_ne (by omega), mu_ne (by omega)]) (by rw [mu_ne (by omega), mu_ne (by omega)]; exact hR.h64) hR.tip hR.vot hR.ols hR.rul ?_⟩
    refine ⟨fun r hr => ?_, hR.mis.2.1, hR.mis.2.2⟩
    by_cases er : r = m
    · subst er
      rw [mu_same, mu_same]
    · rw [mu_ne2 er, mu_ne2 er, mu_ne (by omega)]
      exact hR.mis.1 r hr
  rcases d_person gh C p1 with ⟨p, h1, rfl, e1, e2⟩ | ⟨e1, e2⟩
  · rw [e1, e2]
    rcases d_repository gh C p2 with ⟨m, h2, rfl, e3, e4⟩ | ⟨e3, e4⟩
    · left
      rw [e3, e4]
      have hv : rv_u R 66 0 (nI 0) 50 m = C 12 m := by rw [mu_ne (by omega), hR.mis.1 m h2]
      simp (disch := omega) only [q_no, q_no2, q_0, q_1, q_2, q_3, q_4, q_5, q_6, q_7, q_8, q_10, q_11, q_12, q_15, q_16, q_17, q_20, q_30, q_31, q_32, q_40, q_45, q_60, q_80, q_81, q_82, q_100, q_320, q_328, q_399, q_400, q_3280, q_nc, q_eq, q_lt, q_le, q_add, q_mul, q_in, q_inno, q_no_eq, q_no_eq', q_no_lt, q_lt_no, q_no_le, q_le_no, o1_some, o2_some, lt_do, x1_inl, x1_inr, x2_inl, x2_inr, if_true, if_false, if_pos, if_neg, rvi_t, rvi_f, bt_f, bf_t, bb_t, bb_f, not_true_eq_false, not_false_eq_true, hv]
      have h66 : ∀ v, rv_u (rv_u R 66 0 (nI 0)) 50 m v 66 0 = nI 0 := fun v => by rw [mu_ne (by omega), mu_same]
      by_cases hb : (C 12 m >>> (nI p &&& nI 31)) &&& nI 1 = nI 1
      · rw [if_pos hb]
        cases p3
        · exact ⟨true, _, _, rfl, rfl, h66 _, good m _ h2⟩
        · exact ⟨true, _, _, rfl, rfl, h66 _, good m _ h2⟩
      · rw [if_neg hb]
        cases p3
        · exact ⟨false, _, _, rfl, rfl, h66 _, good m _ h2⟩
        · exact ⟨false, _, _, rfl, rfl, h66 _, good m _ h2⟩
    · right
      rw [e3, e4]
      simp (disch := omega) only [q_no, q_no2, q_0, q_1, q_2, q_3, q_4, q_5, q_6, q_7, q_8, q_10, q_11, q_12, q_15, q_16, q_17, q_20, q_30, q_31, q_32, q_40, q_45, q_60, q_80, q_81, q_82, q_100, q_320, q_328, q_399, q_400, q_3280, q_nc, q_eq, q_lt, q_le, q_add, q_mul, q_in, q_inno, q_no_eq, q_no_eq', q_no_lt, q_lt_no, q_no_le, q_le_no, o1_some, o2_some, lt_do, x1_inl, x1_inr, x2_inl, x2_inr, if_true, if_false, if_pos, if_neg, rvi_t, rvi_f, bt_f, bf_t, bb_t, bb_f, not_true_eq_false, not_false_eq_true]
      exact ⟨C, rv_u R 66 0 (nI 1), false, rfl, rfl, mu_same _ _ _ _, bad _⟩
  · right
    rw [e1, e2]
    simp (disch := omega) only [q_no, q_no2, q_0, q_1, q_2, q_3, q_4, q_5, q_6, q_7, q_8, q_10, q_11, q_12, q_15, q_16, q_17, q_20, q_30, q_31, q_32, q_40, q_45, q_60, q_80, q_81, q_82, q_100, q_320, q_328, q_399, q_400, q_3280, q_nc, q_eq, q_lt, q_le, q_add, q_mul, q_in, q_inno, q_no_eq, q_no_eq', q_no_lt, q_lt_no, q_no_le, q_le_no, o1_some, o2_some, lt_do, x1_inl, x1_inr, x2_inl, x2_inr, if_true, if_false, if_pos, if_neg, rvi_t, rvi_f, bt_f, bf_t, bb_t, bb_f, not_true_eq_false, not_false_eq_true]
    exact ⟨C, rv_u R 66 0 (nI 1), false, rfl, rfl, mu_same _ _ _ _, bad _⟩

/-! WHO SEES A CHANGE -/
theorem Rn.rv {n : Nat} {gh : rC_gh} {C R : rv_Mem} (hR : Rn n gh C R) {h : Nat} (hh : h < gh.1 0) : f12_reviewersOf R (nI h) = some (C (100 + h) 9) := by
  have hc := hR.ch20
  obtain ⟨p, p1, -, p2⟩ := (hR.chg h hh).2.1
  have hv : ∀ c q l, c < n → q < 6 → l < 2 → ∃ v, v ≤ 5 ∧ R 22 (12 * c + 2 * q + l) = nI v := fun c q l hc hq hl => by
    rcases hR.vot.1 c l q (by have := hR.n80; omega) hl hq with ⟨h1, -⟩ | ⟨-, v, v1, v2, -, v3, -⟩
    · exact ⟨0, by omega, h1⟩
    · exact ⟨v, v2, v3⟩
  obtain ⟨x, x1, x2⟩ := s12_reviewersOf (M := R) (n := n) (cm := gh.1 1) (h := h) hR.1.2.2.1 hR.n80 hR.1.2.2.2.2.2.2.1 hR.1.2.2.2.2.2.1 (by omega) ⟨p, p1, p2⟩ (fun k hk => by
    obtain ⟨⟨q, q1, -, q2⟩, -⟩ := hR.cmt k hk
    exact ⟨q, q1, q2⟩) hv
  rw [x1]
  congr 1
  apply b_ext
  intro i hi
  rw [x2 i hi, hR.rev h hh i hi]
theorem h_reviewers : ∀ gh MC MR, Rel gh MC MR → ∀ p1, rS_reviewers Rel gh MC MR p1 := fun gh C R h p1 => by
  obtain ⟨n, hR⟩ := h
  have hc := hR.ch20
  unfold rS_reviewers f11_reviewers f12_reviewers f12_asks f12_asks_14 f12_goes
  rcases hR.dchange p1 with ⟨m, h1, rfl, e1, e2⟩ | ⟨e1, e2⟩
  · left
    rw [e1, e2]
    have hv := (Rn_66 (v := nI 0) hR).rv h1
    simp (disch := omega) only [q_no, q_no2, q_0, q_1, q_2, q_3, q_4, q_5, q_6, q_7, q_8, q_10, q_11, q_12, q_15, q_16, q_17, q_20, q_30, q_31, q_32, q_40, q_45, q_60, q_80, q_81, q_82, q_100, q_320, q_328, q_399, q_400, q_3280, q_nc, q_eq, q_lt, q_le, q_add, q_mul, q_in, q_inno, q_no_eq, q_no_eq', q_no_lt, q_lt_no, q_no_le, q_le_no, o1_some, o2_some, lt_do, x1_inl, x1_inr, x2_inl, x2_inr, if_true, if_false, if_pos, if_neg, rvi_t, rvi_f, bt_f, bf_t, bb_t, bb_f, not_true_eq_false, not_false_eq_true, is1 h1 hc, hv]
    exact ⟨C (100 + m) 9, rv_u R 66 0 (nI 0), rfl, rfl, mu_same _ _ _ _, ⟨n, Rn_66 hR⟩⟩
  · right
    rw [e1, e2]
    simp (disch := omega) only [q_no, q_no2, q_0, q_1, q_2, q_3, q_4, q_5, q_6, q_7, q_8, q_10, q_11, q_12, q_15, q_16, q_17, q_20, q_30, q_31, q_32, q_40, q_45, q_60, q_80, q_81, q_82, q_100, q_320, q_328, q_399, q_400, q_3280, q_nc, q_eq, q_lt, q_le, q_add, q_mul, q_in, q_inno, q_no_eq, q_no_eq', q_no_lt, q_lt_no, q_no_le, q_le_no, o1_some, o2_some, lt_do, x1_inl, x1_inr, x2_inl, x2_inr, if_true, if_false, if_pos, if_neg, rvi_t, rvi_f, bt_f, bf_t, bb_t, bb_f, not_true_eq_false, not_false_eq_true]
    exact ⟨rv_u R 66 0 (nI 1), nI 0, by trivial, by trivial, mu_same _ _ _ _, ⟨n, Rn_66 hR⟩⟩
/-- whether a person sees a change: both sides say the same -/
theorem Rn.seen {n : Nat} {gh : rC_gh} {C R : rv_Mem} (hR : Rn n gh C R) {h p : Nat} (hh : h < gh.1 0) (hp : p < 6) : (f11_needSeen gh C (nI p) (100 + h) = some (.inl ()) ∧ f12_canSee R (nI p) (nI h) = some true) ∨ (f11_needSeen gh C (nI p) (100 + h) = some (.inr 3) ∧ f12_canSee R (nI p) (nI h) = some false) := by
  have hc := hR.ch20
  obtain ⟨-, ⟨o, o1, o2, o3⟩, -, -, -, a7, -⟩ := hR.chg h hh
  have hv := hR.rv hh
  unfold f11_needSeen f12_canSee f12_canSee_32 f11_isIn
  simp (disch := omega) only [q_no, q_no2, q_0, q_2, q_3, q_4, q_5, q_6, q_7, q_8, q_10, q_11, q_12, q_15, q_16, q_17, q_20, q_30, q_32, q_40, q_45, q_60, q_80, q_81, q_82, q_100, q_320, q_328, q_399, q_400, q_3280, q_nc, q_eq, q_lt, q_le, q_add, q_mul, q_in, q_inno, q_no_eq, q_no_eq', q_no_lt, q_lt_no, q_no_le, q_le_no, o1_some, o2_some, lt_do, x1_inl, x1_inr, x2_inl, x2_inr, if_true, if_false, if_pos, if_neg, rvi_t, rvi_f, bt_f, bf_t, bb_t, bb_f, not_true_eq_false, not_false_eq_true, is1 hh hc, a7, o2, o3, hv]
  by_cases h7 : rv_z (R 16 h) = true
  · simp only [if_pos h7]
    by_cases ho : o = p
    · left
      simp only [ho, not_true_eq_false, if_false, if_true]
      exact ⟨by trivial, by trivial⟩
    · simp only [if_pos ho]
      by_cases hb : (C (100 + h) 9 >>> (nI p &&& 31)) &&& 1 = 1
      · left
        simp only [if_pos hb, o1_some, bt_f, if_false]
        exact ⟨by trivial, by trivial⟩
      · right
        simp only [if_neg hb, o1_some, if_true]
        exact ⟨by trivial, by trivial⟩
  · left
    simp only [if_neg h7]
    exact ⟨by trivial, by trivial⟩
theorem Rn.shut {n : Nat} {gh : rC_gh} {C R : rv_Mem} (hR : Rn n gh C R) {h p : Nat} (hh : h < gh.1 0) (hp : p < 6) : (f11_needOpenAndSeen gh C (nI p) (100 + h) = some (.inl ()) ∧ f12_isShut R (nI p) (nI h) = some false ∧ R 13 h = nI 0) ∨ (f11_needOpenAndSeen gh C (nI p) (100 + h) = some (.inr 3) ∧ f12_isShut R (nI p) (nI h) = some true) := by
  have hc := hR.ch20
  obtain ⟨-, -, -, ⟨s, s1, s2, s3⟩, -⟩ := hR.chg h hh
  unfold f11_needOpenAndSeen f12_isShut f12_isShut_18
  by_cases h0 : s = 0
  · subst h0
    rcases hR.seen hh hp with ⟨e1, e2⟩ | ⟨e1, e2⟩
    · left
      simp (disch := omega) only [q_no, q_no2, q_0, q_1, q_2, q_3, q_4, q_5, q_6, q_7, q_8, q_10, q_11, q_12, q_15, q_16, q_17, q_20, q_30, q_31, q_32, q_40, q_45, q_60, q_80, q_81, q_82, q_100, q_320, q_328, q_399, q_400, q_3280, q_nc, q_eq, q_lt, q_le, q_add, q_mul, q_in, q_inno, q_no_eq, q_no_eq', q_no_lt, q_lt_no, q_no_le, q_le_no, o1_some, o2_some, lt_do, x1_inl, x1_inr, x2_inl, x2_inr, if_true, if_false, if_pos, if_neg, rvi_t, rvi_f, bt_f, bf_t, bb_t, bb_f, not_true_eq_false, not_false_eq_true, is1 hh hc, s2, s3, e1, e2]
      exact ⟨by trivial, by trivial, by trivial⟩
    · right
      simp (disch := omega) only [q_no, q_no2, q_0, q_1, q_2, q_3, q_4, q_5, q_6, q_7, q_8, q_10, q_11, q_12, q_15, q_16, q_17, q_20, q_30, q_31, q_32, q_40, q_45, q_60, q_80, q_81, q_82, q_100, q_320, q_328, q_399, q_400, q_3280, q_nc, q_eq, q_lt, q_le, q_add, q_mul, q_in, q_inno, q_no_eq, q_no_eq', q_no_lt, q_lt_no, q_no_le, q_le_no, o1_some, o2_some, lt_do, x1_inl, x1_inr, x2_inl, x2_inr, if_true, if_false, if_pos, if_neg, rvi_t, rvi_f, bt_f, bf_t, bb_t, bb_f, not_true_eq_false, not_false_eq_true, is1 hh hc, s2, s3, e1, e2]
      exact ⟨by trivial, by trivial⟩
  · right
    simp (disch := omega) only [q_no, q_no2, q_0, q_1, q_2, q_3, q_4, q_5, q_6, q_7, q_8, q_10, q_11, q_12, q_15, q_16, q_17, q_20, q_30, q_31, q_32, q_40, q_45, q_60, q_80, q_81, q_82, q_100, q_320, q_328, q_399, q_400, q_3280, q_nc, q_eq, q_lt, q_le, q_add, q_mul, q_in, q_inno, q_no_eq, q_no_eq', q_no_lt, q_lt_no, q_no_le, q_le_no, o1_some, o2_some, lt_do, x1_inl, x1_inr, x2_inl, x2_inr, if_true, if_false, if_pos, if_neg, rvi_t, rvi_f, bt_f, bf_t, bb_t, bb_f, not_true_eq_false, not_false_eq_true, is1 hh hc, s2, s3]
    exact ⟨by trivial, by trivial⟩
theorem Rn.dwrong {n : Nat} {gh : rC_gh} {C R : rv_Mem} (hR : Rn n gh C R) (x y : Int32) : (∃ p h, p < 6 ∧ h < gh.1 0 ∧ x = nI p ∧ y = nI h ∧ f11_needPerson gh C x = some (.inl ()) ∧ f11_needChange gh C y = some (.inl (100 + h)) ∧ f12_wrong R x y = some (nI 0)) ∨ ((f11_needPerson gh C x = some (.inr 1) ∨ (f11_needPerson gh C x = some (.inl ()) ∧ f11_needChange gh C y = some (.inr 1))) ∧ f12_wrong R x y = some (nI 1)) := by
  unfold f12_wrong
  rcases d_person gh C x with ⟨p, p1, p2, e1, e2⟩ | ⟨e1, e2⟩
  · rw [e2]
    rcases hR.dchange y with ⟨h, h1, h2, e3, e4⟩ | ⟨e3, e4⟩
    · rw [e4]
      exact Or.inl ⟨p, h, p1, h1, p2, h2, e1, e3, rfl⟩
    · rw [e4]
      exact Or.inr ⟨Or.inr ⟨e1, e3⟩, rfl⟩
  · rw [e2]
    exact Or.inr ⟨Or.inl e1, rfl⟩

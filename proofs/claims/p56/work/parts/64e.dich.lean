/-! NUMBERS FROM OUTSIDE, AND WHAT BOTH SIDES SAY OF THEM -/
theorem q_neg0 {x : Int32} (h : x < 0) : (nI 0 ≤ x) = False := q_neg h
theorem q_negin {x : Int32} (h : x < 0) (N : Nat) : (rv_in x N = true) = False := by simp [rv_in, h]
theorem q_negeq {x : Int32} {n : Nat} (h : x < 0) (hn : n < 2147483648) : (x = nI n) = False := by
  apply propext
  constructor
  · intro e
    subst e
    rw [q_0, q_lt hn (by omega)] at h
    omega
  · exact False.elim
theorem s12_isIn {x a b : Nat} (hx : x < 2147483648) (ha : a < 2147483648) (hb : b < 2147483648) : f12_isIn (nI x) (nI a) (nI b) = some (decide (a ≤ x ∧ x ≤ b)) := by
  unfold f12_isIn
  simp (disch := omega) only [q_no, q_no2, q_0, q_1, q_2, q_3, q_4, q_5, q_6, q_7, q_8, q_10, q_11, q_12, q_15, q_16, q_17, q_20, q_30, q_31, q_32, q_40, q_45, q_60, q_80, q_81, q_82, q_100, q_320, q_328, q_399, q_400, q_3280, q_nc, q_eq, q_lt, q_le, q_add, q_mul, q_in, q_inno, q_no_eq, q_no_eq', q_no_lt, q_lt_no, q_no_le, q_le_no, o1_some, o2_some, lt_do, x1_inl, x1_inr, x2_inl, x2_inr, if_true, if_false, if_pos, if_neg, rvi_t, rvi_f, bt_f, bf_t, bb_t, bb_f, not_true_eq_false, not_false_eq_true]
  by_cases h1 : a ≤ x
  · by_cases h2 : x ≤ b
    · simp [h1, h2]
    · simp [h1, h2]
  · simp [h1]
theorem s12_isIn_neg {x : Int32} {a : Nat} {b : Int32} (h : x < 0) (ha : a < 2147483648) : f12_isIn x (nI a) b = some false := by
  unfold f12_isIn
  have : ¬ nI a ≤ x := by
    rw [Int32.le_iff_toInt_le, q_ti ha]
    rw [Int32.lt_iff_toInt_lt] at h
    have : (0 : Int32).toInt = 0 := rfl
    omega
  rw [if_neg this]
theorem s12_isIn_no {x a : Nat} (hx : x < 2147483648) : f12_isIn (nI x) (nI a) NO = some false := by
  unfold f12_isIn
  by_cases h1 : nI a ≤ nI x
  · simp only [h1, if_true, q_le_no hx, if_false]
  · simp only [h1, if_false]
/-- x is one of N things, or is none -/
theorem d_isIn (x : Int32) (N : Nat) (hN : N < 2147483648) : (∃ m, m < N ∧ x = nI m ∧ f12_isIn x 0 (nI N - 1) = some true) ∨ (f12_isIn x 0 (nI N - 1) = some false ∧ (x < 0 ∨ ∃ m, N ≤ m ∧ m < 2147483648 ∧ x = nI m)) := by
  rw [q_0]
  rcases q_any x with hx | ⟨m, hm, rfl⟩
  · exact Or.inr ⟨s12_isIn_neg hx (by omega), Or.inl hx⟩
  · by_cases h : m < N
    · refine Or.inl ⟨m, h, rfl, ?_⟩
      rw [q_1, q_sub (by omega), s12_isIn hm (by omega) (by omega)]
      simp; omega
    · refine Or.inr ⟨?_, Or.inr ⟨m, by omega, hm, rfl⟩⟩
      by_cases h0 : N = 0
      · subst h0
        rw [show nI 0 - 1 = NO from rfl]
        exact s12_isIn_no hm
      · rw [q_1, q_sub (by omega), s12_isIn hm (by omega) (by omega)]
        simp; omega
theorem d_person (gh : rC_gh) (C : rv_Mem) (x : Int32) : (∃ m, m < 6 ∧ x = nI m ∧ f11_needPerson gh C x = some (.inl ()) ∧ f12_isPerson x = some true) ∨ (f11_needPerson gh C x = some (.inr 1) ∧ f12_isPerson x = some false) := by
  have e : f12_isPerson x = rv_o1 (f12_isIn x 0 (nI 6 - 1)) (fun r2 => some r2) := rfl
  unfold f11_needPerson
  rw [e]
  rcases d_isIn x 6 (by omega) with ⟨m, h1, rfl, h2⟩ | ⟨h2, hx | ⟨m, h1, h3, rfl⟩⟩
  · exact Or.inl ⟨m, h1, rfl, by simp (disch := omega) only [q_no, q_no2, q_0, q_1, q_2, q_3, q_4, q_5, q_6, q_7, q_8, q_10, q_11, q_12, q_15, q_16, q_17, q_20, q_30, q_31, q_32, q_40, q_45, q_60, q_80, q_81, q_82, q_100, q_320, q_328, q_399, q_400, q_3280, q_nc, q_eq, q_lt, q_le, q_add, q_mul, q_in, q_inno, q_no_eq, q_no_eq', q_no_lt, q_lt_no, q_no_le, q_le_no, o1_some, o2_some, lt_do, x1_inl, x1_inr, x2_inl, x2_inr, if_true, if_false, if_pos, if_neg, rvi_t, rvi_f, bt_f, bf_t, bb_t, bb_f, not_true_eq_false, not_false_eq_true], by rw [h2]; rfl⟩
  · exact Or.inr ⟨by simp only [q_no, q_no2, q_0, q_1, q_2, q_3, q_4, q_5, q_6, q_7, q_8, q_10, q_11, q_12, q_15, q_16, q_17, q_20, q_30, q_31, q_32, q_40, q_45, q_60, q_80, q_81, q_82, q_100, q_320, q_328, q_399, q_400, q_3280, q_nc, q_eq, q_lt, q_le, q_add, q_mul, q_in, q_inno, q_no_eq, q_no_eq', q_no_lt, q_lt_no, q_no_le, q_le_no, o1_some, o2_some, lt_do, x1_inl, x1_inr, x2_inl, x2_inr, if_true, if_false, if_pos, if_neg, rvi_t, rvi_f, bt_f, bf_t, bb_t, bb_f, not_true_eq_false, not_false_eq_true, q_neg0 hx], by rw [h2]; rfl⟩
  · exact Or.inr ⟨by simp (disch := omega) only [q_no, q_no2, q_0, q_1, q_2, q_3, q_4, q_5, q_6, q_7, q_8, q_10, q_11, q_12, q_15, q_16, q_17, q_20, q_30, q_31, q_32, q_40, q_45, q_60, q_80, q_81, q_82, q_100, q_320, q_328, q_399, q_400, q_3280, q_nc, q_eq, q_lt, q_le, q_add, q_mul, q_in, q_inno, q_no_eq, q_no_eq', q_no_lt, q_lt_no, q_no_le, q_le_no, o1_some, o2_some, lt_do, x1_inl, x1_inr, x2_inl, x2_inr, if_true, if_false, if_pos, if_neg, rvi_t, rvi_f, bt_f, bf_t, bb_t, bb_f, not_true_eq_false, not_false_eq_true], by rw [h2]; rfl⟩
theorem d_repository (gh : rC_gh) (C : rv_Mem) (x : Int32) : (∃ m, m < 2 ∧ x = nI m ∧ f11_needRepository gh C x = some (.inl ()) ∧ f12_isRepository x = some true) ∨ (f11_needRepository gh C x = some (.inr 1) ∧ f12_isRepository x = some false) := by
  have e : f12_isRepository x = rv_o1 (f12_isIn x 0 (nI 2 - 1)) (fun r2 => some r2) := rfl
  unfold f11_needRepository
  rw [e]
  rcases d_isIn x 2 (by omega) with ⟨m, h1, rfl, h2⟩ | ⟨h2, hx | ⟨m, h1, h3, rfl⟩⟩
  · exact Or.inl ⟨m, h1, rfl, by simp (disch := omega) only [q_no, q_no2, q_0, q_1, q_2, q_3, q_4, q_5, q_6, q_7, q_8, q_10, q_11, q_12, q_15, q_16, q_17, q_20, q_30, q_31, q_32, q_40, q_45, q_60, q_80, q_81, q_82, q_100, q_320, q_328, q_399, q_400, q_3280, q_nc, q_eq, q_lt, q_le, q_add, q_mul, q_in, q_inno, q_no_eq, q_no_eq', q_no_lt, q_lt_no, q_no_le, q_le_no, o1_some, o2_some, lt_do, x1_inl, x1_inr, x2_inl, x2_inr, if_true, if_false, if_pos, if_neg, rvi_t, rvi_f, bt_f, bf_t, bb_t, bb_f, not_true_eq_false, not_false_eq_true], by rw [h2]; rfl⟩
  · exact Or.inr ⟨by simp only [q_no, q_no2, q_0, q_1, q_2, q_3, q_4, q_5, q_6, q_7, q_8, q_10, q_11, q_12, q_15, q_16, q_17, q_20, q_30, q_31, q_32, q_40, q_45, q_60, q_80, q_81, q_82, q_100, q_320, q_328, q_399, q_400, q_3280, q_nc, q_eq, q_lt, q_le, q_add, q_mul, q_in, q_inno, q_no_eq, q_no_eq', q_no_lt, q_lt_no, q_no_le, q_le_no, o1_some, o2_some, lt_do, x1_inl, x1_inr, x2_inl, x2_inr, if_true, if_false, if_pos, if_neg, rvi_t, rvi_f, bt_f, bf_t, bb_t, bb_f, not_true_eq_false, not_false_eq_true, q_neg0 hx], by rw [h2]; rfl⟩
  · exact Or.inr ⟨by simp (disch := omega) only [q_no, q_no2, q_0, q_1, q_2, q_3, q_4, q_5, q_6, q_7, q_8, q_10, q_11, q_12, q_15, q_16, q_17, q_20, q_30, q_31, q_32, q_40, q_45, q_60, q_80, q_81, q_82, q_100, q_320, q_328, q_399, q_400, q_3280, q_nc, q_eq, q_lt, q_le, q_add, q_mul, q_in, q_inno, q_no_eq, q_no_eq', q_no_lt, q_lt_no, q_no_le, q_le_no, o1_some, o2_some, lt_do, x1_inl, x1_inr, x2_inl, x2_inr, if_true, if_false, if_pos, if_neg, rvi_t, rvi_f, bt_f, bf_t, bb_t, bb_f, not_true_eq_false, not_false_eq_true], by rw [h2]; rfl⟩
theorem d_file (gh : rC_gh) (C : rv_Mem) (x : Int32) : (∃ m, m < 4 ∧ x = nI m ∧ f11_needFile gh C x = some (.inl ()) ∧ f12_isFile x = some true) ∨ (f11_needFile gh C x = some (.inr 1) ∧ f12_isFile x = some false) := by
  have e : f12_isFile x = rv_o1 (f12_isIn x 0 (nI 4 - 1)) (fun r2 => some r2) := rfl
  unfold f11_needFile
  rw [e]
  rcases d_isIn x 4 (by omega) with ⟨m, h1, rfl, h2⟩ | ⟨h2, hx | ⟨m, h1, h3, rfl⟩⟩
  · exact Or.inl ⟨m, h1, rfl, by simp (disch := omega) only [q_no, q_no2, q_0, q_1, q_2, q_3, q_4, q_5, q_6, q_7, q_8, q_10, q_11, q_12, q_15, q_16, q_17, q_20, q_30, q_31, q_32, q_40, q_45, q_60, q_80, q_81, q_82, q_100, q_320, q_328, q_399, q_400, q_3280, q_nc, q_eq, q_lt, q_le, q_add, q_mul, q_in, q_inno, q_no_eq, q_no_eq', q_no_lt, q_lt_no, q_no_le, q_le_no, o1_some, o2_some, lt_do, x1_inl, x1_inr, x2_inl, x2_inr, if_true, if_false, if_pos, if_neg, rvi_t, rvi_f, bt_f, bf_t, bb_t, bb_f, not_true_eq_false, not_false_eq_true], by rw [h2]; rfl⟩
  · exact Or.inr ⟨by simp only [q_no, q_no2, q_0, q_1, q_2, q_3, q_4, q_5, q_6, q_7, q_8, q_10, q_11, q_12, q_15, q_16, q_17, q_20, q_30, q_31, q_32, q_40, q_45, q_60, q_80, q_81, q_82, q_100, q_320, q_328, q_399, q_400, q_3280, q_nc, q_eq, q_lt, q_le, q_add, q_mul, q_in, q_inno, q_no_eq, q_no_eq', q_no_lt, q_lt_no, q_no_le, q_le_no, o1_some, o2_some, lt_do, x1_inl, x1_inr, x2_inl, x2_inr, if_true, if_false, if_pos, if_neg, rvi_t, rvi_f, bt_f, bf_t, bb_t, bb_f, not_true_eq_false, not_false_eq_true, q_neg0 hx], by rw [h2]; rfl⟩
  · exact Or.inr ⟨by simp (disch := omega) only [q_no, q_no2, q_0, q_1, q_2, q_3, q_4, q_5, q_6, q_7, q_8, q_10, q_11, q_12, q_15, q_16, q_17, q_20, q_30, q_31, q_32, q_40, q_45, q_60, q_80, q_81, q_82, q_100, q_320, q_328, q_399, q_400, q_3280, q_nc, q_eq, q_lt, q_le, q_add, q_mul, q_in, q_inno, q_no_eq, q_no_eq', q_no_lt, q_lt_no, q_no_le, q_le_no, o1_some, o2_some, lt_do, x1_inl, x1_inr, x2_inl, x2_inr, if_true, if_false, if_pos, if_neg, rvi_t, rvi_f, bt_f, bf_t, bb_t, bb_f, not_true_eq_false, not_false_eq_true], by rw [h2]; rfl⟩
theorem d_label (gh : rC_gh) (C : rv_Mem) (x : Int32) : (∃ m, m < 2 ∧ x = nI m ∧ f11_needLabel gh C x = some (.inl ()) ∧ f12_isLabel x = some true) ∨ (f11_needLabel gh C x = some (.inr 2) ∧ f12_isLabel x = some false) := by
  have e : f12_isLabel x = rv_o1 (f12_isIn x 0 (nI 2 - 1)) (fun r2 => some r2) := rfl
  unfold f11_needLabel
  rw [e]
  rcases d_isIn x 2 (by omega) with ⟨m, h1, rfl, h2⟩ | ⟨h2, hx | ⟨m, h1, h3, rfl⟩⟩
  · exact Or.inl ⟨m, h1, rfl, by simp (disch := omega) only [q_no, q_no2, q_0, q_1, q_2, q_3, q_4, q_5, q_6, q_7, q_8, q_10, q_11, q_12, q_15, q_16, q_17, q_20, q_30, q_31, q_32, q_40, q_45, q_60, q_80, q_81, q_82, q_100, q_320, q_328, q_399, q_400, q_3280, q_nc, q_eq, q_lt, q_le, q_add, q_mul, q_in, q_inno, q_no_eq, q_no_eq', q_no_lt, q_lt_no, q_no_le, q_le_no, o1_some, o2_some, lt_do, x1_inl, x1_inr, x2_inl, x2_inr, if_true, if_false, if_pos, if_neg, rvi_t, rvi_f, bt_f, bf_t, bb_t, bb_f, not_true_eq_false, not_false_eq_true], by rw [h2]; rfl⟩
  · exact Or.inr ⟨by simp only [q_no, q_no2, q_0, q_1, q_2, q_3, q_4, q_5, q_6, q_7, q_8, q_10, q_11, q_12, q_15, q_16, q_17, q_20, q_30, q_31, q_32, q_40, q_45, q_60, q_80, q_81, q_82, q_100, q_320, q_328, q_399, q_400, q_3280, q_nc, q_eq, q_lt, q_le, q_add, q_mul, q_in, q_inno, q_no_eq, q_no_eq', q_no_lt, q_lt_no, q_no_le, q_le_no, o1_some, o2_some, lt_do, x1_inl, x1_inr, x2_inl, x2_inr, if_true, if_false, if_pos, if_neg, rvi_t, rvi_f, bt_f, bf_t, bb_t, bb_f, not_true_eq_false, not_false_eq_true, q_neg0 hx], by rw [h2]; rfl⟩
  · exact Or.inr ⟨by simp (disch := omega) only [q_no, q_no2, q_0, q_1, q_2, q_3, q_4, q_5, q_6, q_7, q_8, q_10, q_11, q_12, q_15, q_16, q_17, q_20, q_30, q_31, q_32, q_40, q_45, q_60, q_80, q_81, q_82, q_100, q_320, q_328, q_399, q_400, q_3280, q_nc, q_eq, q_lt, q_le, q_add, q_mul, q_in, q_inno, q_no_eq, q_no_eq', q_no_lt, q_lt_no, q_no_le, q_le_no, o1_some, o2_some, lt_do, x1_inl, x1_inr, x2_inl, x2_inr, if_true, if_false, if_pos, if_neg, rvi_t, rvi_f, bt_f, bf_t, bb_t, bb_f, not_true_eq_false, not_false_eq_true], by rw [h2]; rfl⟩
theorem d_commit {n : Nat} (gh : rC_gh) {C R : rv_Mem} (hn : n ≤ 80) (e1 : C 1 10 = nI n) (e2 : R 0 0 = nI n) (x : Int32) : (∃ m, m < n ∧ x = nI m ∧ f11_needCommit gh C x = some (.inl ()) ∧ f12_isCommit R x = some true) ∨ (f11_needCommit gh C x = some (.inr 1) ∧ f12_isCommit R x = some false) := by
  have e : f12_isCommit R x = rv_o1 (f12_isIn x 0 (nI n - 1)) (fun r2 => some r2) := by unfold f12_isCommit; rw [e2]
  unfold f11_needCommit
  rw [e, e1]
  rcases d_isIn x n (by omega) with ⟨m, h1, rfl, h2⟩ | ⟨h2, hx | ⟨m, h1, h3, rfl⟩⟩
  · exact Or.inl ⟨m, h1, rfl, by simp (disch := omega) only [q_no, q_no2, q_0, q_1, q_2, q_3, q_4, q_5, q_6, q_7, q_8, q_10, q_11, q_12, q_15, q_16, q_17, q_20, q_30, q_31, q_32, q_40, q_45, q_60, q_80, q_81, q_82, q_100, q_320, q_328, q_399, q_400, q_3280, q_nc, q_eq, q_lt, q_le, q_add, q_mul, q_in, q_inno, q_no_eq, q_no_eq', q_no_lt, q_lt_no, q_no_le, q_le_no, o1_some, o2_some, lt_do, x1_inl, x1_inr, x2_inl, x2_inr, if_true, if_false, if_pos, if_neg, rvi_t, rvi_f, bt_f, bf_t, bb_t, bb_f, not_true_eq_false, not_false_eq_true], by rw [h2]; rfl⟩
  · exact Or.inr ⟨by simp only [q_no, q_no2, q_0, q_1, q_2, q_3, q_4, q_5, q_6, q_7, q_8, q_10, q_11, q_12, q_15, q_16, q_17, q_20, q_30, q_31, q_32, q_40, q_45, q_60, q_80, q_81, q_82, q_100, q_320, q_328, q_399, q_400, q_3280, q_nc, q_eq, q_lt, q_le, q_add, q_mul, q_in, q_inno, q_no_eq, q_no_eq', q_no_lt, q_lt_no, q_no_le, q_le_no, o1_some, o2_some, lt_do, x1_inl, x1_inr, x2_inl, x2_inr, if_true, if_false, if_pos, if_neg, rvi_t, rvi_f, bt_f, bf_t, bb_t, bb_f, not_true_eq_false, not_false_eq_true, q_neg0 hx], by rw [h2]; rfl⟩
  · exact Or.inr ⟨by simp (disch := omega) only [q_no, q_no2, q_0, q_1, q_2, q_3, q_4, q_5, q_6, q_7, q_8, q_10, q_11, q_12, q_15, q_16, q_17, q_20, q_30, q_31, q_32, q_40, q_45, q_60, q_80, q_81, q_82, q_100, q_320, q_328, q_399, q_400, q_3280, q_nc, q_eq, q_lt, q_le, q_add, q_mul, q_in, q_inno, q_no_eq, q_no_eq', q_no_lt, q_lt_no, q_no_le, q_le_no, o1_some, o2_some, lt_do, x1_inl, x1_inr, x2_inl, x2_inr, if_true, if_false, if_pos, if_neg, rvi_t, rvi_f, bt_f, bf_t, bb_t, bb_f, not_true_eq_false, not_false_eq_true], by rw [h2]; rfl⟩
theorem is1 {gh : rC_gh} {h : Nat} (hh : h < gh.1 0) (hc : gh.1 0 ≤ 20) : rC_is gh 1 (100 + h) = true := by
  unfold rC_is rC_dm rC_kd
  rw [if_neg (by omega), if_pos (by omega), if_neg (by omega), if_pos (by omega)]
  simp; omega
theorem isA1 {gh : rC_gh} {h : Nat} (hh : h < gh.1 0) (hc : gh.1 0 ≤ 20) : rC_isA gh (100 + h + 20) = true := by
  unfold rC_isA rC_dm rC_kd
  rw [if_neg (by omega), if_neg (by omega), if_pos (by omega), if_neg (by omega), if_neg (by omega), if_pos (by omega)]
  simp; omega
theorem is2 {gh : rC_gh} {h : Nat} (hh : h < gh.1 1) (hc : gh.1 1 ≤ 60) : rC_is gh 2 (200 + h) = true := by
  unfold rC_is rC_dm rC_kd
  rw [if_neg (by omega), if_neg (by omega), if_neg (by omega), if_pos (by omega), if_neg (by omega), if_neg (by omega), if_neg (by omega), if_pos (by omega)]
  simp; omega
theorem d_change {gh : rC_gh} (C : rv_Mem) {R : rv_Mem} (hc : gh.1 0 ≤ 20) (e2 : R 11 0 = nI (gh.1 0)) (x : Int32) : (∃ m, m < gh.1 0 ∧ x = nI m ∧ f11_needChange gh C x = some (.inl (100 + m)) ∧ f12_isChange R x = some true) ∨ (f11_needChange gh C x = some (.inr 1) ∧ f12_isChange R x = some false) := by
  have e : f12_isChange R x = rv_o1 (f12_isIn x 0 (nI (gh.1 0) - 1)) (fun r2 => some r2) := by unfold f12_isChange; rw [e2]
  unfold f11_needChange
  rw [e]
  rcases d_isIn x (gh.1 0) (by omega) with ⟨m, h1, rfl, h2⟩ | ⟨h2, hx | ⟨m, h1, h3, rfl⟩⟩
  · exact Or.inl ⟨m, h1, rfl, by simp (disch := omega) only [q_no, q_no2, q_0, q_1, q_2, q_3, q_4, q_5, q_6, q_7, q_8, q_10, q_11, q_12, q_15, q_16, q_17, q_20, q_30, q_31, q_32, q_40, q_45, q_60, q_80, q_81, q_82, q_100, q_320, q_328, q_399, q_400, q_3280, q_nc, q_eq, q_lt, q_le, q_add, q_mul, q_in, q_inno, q_no_eq, q_no_eq', q_no_lt, q_lt_no, q_no_le, q_le_no, o1_some, o2_some, lt_do, x1_inl, x1_inr, x2_inl, x2_inr, if_true, if_false, if_pos, if_neg, rvi_t, rvi_f, bt_f, bf_t, bb_t, bb_f, not_true_eq_false, not_false_eq_true, is1 h1 hc], by rw [h2]; rfl⟩
  · exact Or.inr ⟨by simp only [q_no, q_no2, q_0, q_1, q_2, q_3, q_4, q_5, q_6, q_7, q_8, q_10, q_11, q_12, q_15, q_16, q_17, q_20, q_30, q_31, q_32, q_40, q_45, q_60, q_80, q_81, q_82, q_100, q_320, q_328, q_399, q_400, q_3280, q_nc, q_eq, q_lt, q_le, q_add, q_mul, q_in, q_inno, q_no_eq, q_no_eq', q_no_lt, q_lt_no, q_no_le, q_le_no, o1_some, o2_some, lt_do, x1_inl, x1_inr, x2_inl, x2_inr, if_true, if_false, if_pos, if_neg, rvi_t, rvi_f, bt_f, bf_t, bb_t, bb_f, not_true_eq_false, not_false_eq_true, q_neg0 hx], by rw [h2]; rfl⟩
  · exact Or.inr ⟨by simp (disch := omega) only [q_no, q_no2, q_0, q_1, q_2, q_3, q_4, q_5, q_6, q_7, q_8, q_10, q_11, q_12, q_15, q_16, q_17, q_20, q_30, q_31, q_32, q_40, q_45, q_60, q_80, q_81, q_82, q_100, q_320, q_328, q_399, q_400, q_3280, q_nc, q_eq, q_lt, q_le, q_add, q_mul, q_in, q_inno, q_no_eq, q_no_eq', q_no_lt, q_lt_no, q_no_le, q_le_no, o1_some, o2_some, lt_do, x1_inl, x1_inr, x2_inl, x2_inr, if_true, if_false, if_pos, if_neg, rvi_t, rvi_f, bt_f, bf_t, bb_t, bb_f, not_true_eq_false, not_false_eq_true], by rw [h2]; rfl⟩
theorem d_comment {gh : rC_gh} (C : rv_Mem) {R : rv_Mem} (hc : gh.1 1 ≤ 60) (e2 : R 24 0 = nI (gh.1 1)) (x : Int32) : (∃ m, m < gh.1 1 ∧ x = nI m ∧ f11_needComment gh C x = some (.inl (200 + m)) ∧ f12_isComment R x = some true) ∨ (f11_needComment gh C x = some (.inr 1) ∧ f12_isComment R x = some false) := by
  have e : f12_isComment R x = rv_o1 (f12_isIn x 0 (nI (gh.1 1) - 1)) (fun r2 => some r2) := by unfold f12_isComment; rw [e2]
  unfold f11_needComment
  rw [e]
  rcases d_isIn x (gh.1 1) (by omega) with ⟨m, h1, rfl, h2⟩ | ⟨h2, hx | ⟨m, h1, h3, rfl⟩⟩
  · exact Or.inl ⟨m, h1, rfl, by simp (disch := omega) only [q_no, q_no2, q_0, q_1, q_2, q_3, q_4, q_5, q_6, q_7, q_8, q_10, q_11, q_12, q_15, q_16, q_17, q_20, q_30, q_31, q_32, q_40, q_45, q_60, q_80, q_81, q_82, q_100, q_320, q_328, q_399, q_400, q_3280, q_nc, q_eq, q_lt, q_le, q_add, q_mul, q_in, q_inno, q_no_eq, q_no_eq', q_no_lt, q_lt_no, q_no_le, q_le_no, o1_some, o2_some, lt_do, x1_inl, x1_inr, x2_inl, x2_inr, if_true, if_false, if_pos, if_neg, rvi_t, rvi_f, bt_f, bf_t, bb_t, bb_f, not_true_eq_false, not_false_eq_true, is2 h1 hc], by rw [h2]; rfl⟩
  · exact Or.inr ⟨by simp only [q_no, q_no2, q_0, q_1, q_2, q_3, q_4, q_5, q_6, q_7, q_8, q_10, q_11, q_12, q_15, q_16, q_17, q_20, q_30, q_31, q_32, q_40, q_45, q_60, q_80, q_81, q_82, q_100, q_320, q_328, q_399, q_400, q_3280, q_nc, q_eq, q_lt, q_le, q_add, q_mul, q_in, q_inno, q_no_eq, q_no_eq', q_no_lt, q_lt_no, q_no_le, q_le_no, o1_some, o2_some, lt_do, x1_inl, x1_inr, x2_inl, x2_inr, if_true, if_false, if_pos, if_neg, rvi_t, rvi_f, bt_f, bf_t, bb_t, bb_f, not_true_eq_false, not_false_eq_true, q_neg0 hx], by rw [h2]; rfl⟩
  · exact Or.inr ⟨by simp (disch := omega) only [q_no, q_no2, q_0, q_1, q_2, q_3, q_4, q_5, q_6, q_7, q_8, q_10, q_11, q_12, q_15, q_16, q_17, q_20, q_30, q_31, q_32, q_40, q_45, q_60, q_80, q_81, q_82, q_100, q_320, q_328, q_399, q_400, q_3280, q_nc, q_eq, q_lt, q_le, q_add, q_mul, q_in, q_inno, q_no_eq, q_no_eq', q_no_lt, q_lt_no, q_no_le, q_le_no, o1_some, o2_some, lt_do, x1_inl, x1_inr, x2_inl, x2_inr, if_true, if_false, if_pos, if_neg, rvi_t, rvi_f, bt_f, bf_t, bb_t, bb_f, not_true_eq_false, not_false_eq_true], by rw [h2]; rfl⟩
/-! reading -/
theorem s9_read {gh : rC_gh} {C : rv_Mem} {k L i : Nat} (hi : i < L) (hL : rC_ln k = L) (hA : rC_isA gh k = true) (hb : L < 5000) : f9_read gh C k (nI i) = some (C k i) := by
  unfold f9_read
  simp (disch := omega) only [q_no, q_no2, q_0, q_1, q_2, q_3, q_4, q_5, q_6, q_7, q_8, q_10, q_11, q_12, q_15, q_16, q_17, q_20, q_30, q_31, q_32, q_40, q_45, q_60, q_80, q_81, q_82, q_100, q_320, q_328, q_399, q_400, q_3280, q_nc, q_eq, q_lt, q_le, q_add, q_mul, q_in, q_inno, q_no_eq, q_no_eq', q_no_lt, q_lt_no, q_no_le, q_le_no, o1_some, o2_some, lt_do, x1_inl, x1_inr, x2_inl, x2_inr, if_true, if_false, if_pos, if_neg, rvi_t, rvi_f, bt_f, bf_t, bb_t, bb_f, not_true_eq_false, not_false_eq_true, hA, hL]
theorem s9_read_no {gh : rC_gh} {C : rv_Mem} {k : Nat} : f9_read gh C k NO = some NO := by
  unfold f9_read
  simp (disch := omega) only [q_no, q_no2, q_0, q_1, q_2, q_3, q_4, q_5, q_6, q_7, q_8, q_10, q_11, q_12, q_15, q_16, q_17, q_20, q_30, q_31, q_32, q_40, q_45, q_60, q_80, q_81, q_82, q_100, q_320, q_328, q_399, q_400, q_3280, q_nc, q_eq, q_lt, q_le, q_add, q_mul, q_in, q_inno, q_no_eq, q_no_eq', q_no_lt, q_lt_no, q_no_le, q_le_no, o1_some, o2_some, lt_do, x1_inl, x1_inr, x2_inl, x2_inr, if_true, if_false, if_pos, if_neg, rvi_t, rvi_f, bt_f, bf_t, bb_t, bb_f, not_true_eq_false, not_false_eq_true]
theorem ups_find {r5 r6 : Nat → Int32} {h s : Int32} {c0 : Nat} (h0 : r5 c0 = h ∧ r6 c0 = s) : ∀ n, (∀ c, c < n → r5 c = h → r6 c = s → c = c0) → mAt n r5 r6 h s = if c0 < n then nI c0 else NO := by
  intro n hu
  have h9 := up_inv (g := mFind r5 r6 h s) (fun k a => a = if c0 < k then nI c0 else NO) n 0 NO (by simp) (fun j a _ h2 h3 => ?_)
  · rw [Nat.zero_add] at h9
    exact h9
  · subst h3
    unfold mFind
    by_cases e : r5 j = h ∧ r6 j = s
    · rw [if_pos e, hu j (by omega) e.1 e.2, if_pos (by omega)]
    · rw [if_neg e]
      have hne : c0 ≠ j := fun z => e (z ▸ h0)
      by_cases q : c0 < j
      · rw [if_pos q, if_pos (by omega)]
      · rw [if_neg q, if_neg (by omega)]

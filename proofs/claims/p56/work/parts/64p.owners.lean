/-! OWNERS -/
theorem q_div2 : ∀ f, f < 4 → nI f / nI 2 = nI (f / 2) := by decide
def ownV (R : rv_Mem) (r f : Nat) : Int32 :=
  if rv_z (R 42 (7 * r + f)) = false then ((R 41 (7 * r + f) ||| R 41 (7 * r + 4 + f / 2)) ||| (if rv_z (R 43 (2 * r + f / 2)) = true then R 41 (7 * r + 5 - f / 2) else nI 0)) ||| (if rv_z (R 42 (7 * r + 4 + f / 2)) = true then nI 0 else R 41 (7 * r + 6)) else R 41 (7 * r + f)
def ownS (R : rv_Mem) (r f : Nat) : Int32 := if ownV R r f = nI 0 then nI 1 <<< (R 44 0 &&& nI 31) else ownV R r f
theorem i_or0 (x : Int32) : x ||| nI 0 = x := Int32.or_zero
theorem s12_ownersOf {R : rv_Mem} {r f : Nat} (hr : r < 2) (hf : f < 4) : f12_ownersOf R (nI r) (nI f) = some (ownS R r f) := by
  have hl : ∀ x, f12_ownersOf_113 R x = some (if x = nI 0 then nI 1 <<< (R 44 0 &&& nI 31) else x) := fun x => by
    by_cases e : x = nI 0
    · exact (if_pos e).trans (congrArg some (if_pos e).symm)
    · exact (if_neg e).trans (congrArg some (if_neg e).symm)
  have hd : f / 2 < 2 := by omega
  unfold f12_ownersOf f12_ownersOf_78 f12_ownersOf_110 ownS ownV
  simp only [q_0, q_1, q_2, q_4, q_5, q_6, show (7 : Int32) = nI 7 from rfl, q_div2 f hf]
  simp (disch := omega) only [q_no, q_no2, q_0, q_1, q_2, q_3, q_4, q_5, q_6, q_7, q_8, q_10, q_11, q_12, q_15, q_16, q_17, q_20, q_30, q_31, q_32, q_40, q_45, q_60, q_80, q_81, q_82, q_100, q_320, q_328, q_399, q_400, q_3280, q_nc, q_eq, q_lt, q_le, q_add, q_mul, q_in, q_inno, q_no_eq, q_no_eq', q_no_lt, q_lt_no, q_no_le, q_le_no, o1_some, o2_some, lt_do, x1_inl, x1_inr, x2_inl, x2_inr, if_true, if_false, if_pos, if_neg, rvi_t, rvi_f, bt_f, bf_t, bb_t, bb_f, not_true_eq_false, not_false_eq_true, q_sub, hl]
  cases h1 : rv_z (R 42 (7 * r + f)) <;> cases h2 : rv_z (R 43 (2 * r + f / 2)) <;> cases h3 : rv_z (R 42 (7 * r + 4 + f / 2)) <;> simp only [bt_f, bf_t, if_true, if_false]
theorem s6_ownersOf {n : Nat} {gh : rC_gh} {C R : rv_Mem} (h : Rn n gh C R) {r f : Nat} (hr : r < 2) (hf : f < 4) : f6_ownersOf gh C (nI r) (nI f) = some (ownS R r f) := by
  have hd : f / 2 < 2 := by omega
  have e48 : ∀ i, i < 14 → C 48 i = R 41 i := fun i hi => by
    obtain ⟨⟨v, -, v1, v2⟩, -⟩ := h.ols.1 i hi
    rw [v1, v2]
  have e49 : ∀ i, i < 14 → rv_z (C 49 i) = rv_z (R 42 i) := fun i hi => (h.ols.1 i hi).2
  have e50 : ∀ i, i < 4 → rv_z (C 50 i) = rv_z (R 43 i) := fun i hi => h.ols.2.1 i hi
  have e5 : C 5 3 = R 44 0 := by
    obtain ⟨p, -, p1, p2⟩ := h.ols.2.2
    rw [p1, p2]
  have hl : ∀ x, f6_ownersOf_107 gh C x = some (if x = nI 0 then nI 1 <<< (R 44 0 &&& nI 31) else x) := fun x => by
    rw [← e5]
    by_cases e : x = nI 0
    · exact (if_pos e).trans (congrArg some (if_pos e).symm)
    · exact (if_neg e).trans (congrArg some (if_neg e).symm)
  have a1 : r * 7 + f = 7 * r + f := by omega
  have a2 : r * 7 + 4 + f / 2 = 7 * r + 4 + f / 2 := by omega
  have a3 : r * 2 + f / 2 = 2 * r + f / 2 := by omega
  have a4 : r * 7 + 4 + 1 - f / 2 = 7 * r + 5 - f / 2 := by omega
  have a5 : r * 7 + 6 = 7 * r + 6 := by omega
  unfold f6_ownersOf f6_ownersOf_83 ownS ownV
  simp only [q_0, q_1, q_2, q_4, q_5, q_6, show (7 : Int32) = nI 7 from rfl, q_div2 f hf]
  simp (disch := omega) only [q_no, q_no2, q_0, q_1, q_2, q_3, q_4, q_5, q_6, q_7, q_8, q_10, q_11, q_12, q_15, q_16, q_17, q_20, q_30, q_31, q_32, q_40, q_45, q_60, q_80, q_81, q_82, q_100, q_320, q_328, q_399, q_400, q_3280, q_nc, q_eq, q_lt, q_le, q_add, q_mul, q_in, q_inno, q_no_eq, q_no_eq', q_no_lt, q_lt_no, q_no_le, q_le_no, o1_some, o2_some, lt_do, x1_inl, x1_inr, x2_inl, x2_inr, if_true, if_false, if_pos, if_neg, rvi_t, rvi_f, bt_f, bf_t, bb_t, bb_f, not_true_eq_false, not_false_eq_true, q_sub, a1, a2, a3, a4, a5, e48, e49, e50, hl]
  cases h1 : rv_z (R 42 (7 * r + f)) <;> cases h2 : rv_z (R 43 (2 * r + f / 2)) <;> cases h3 : rv_z (R 42 (7 * r + 4 + f / 2)) <;> simp only [bt_f, bf_t, if_true, if_false, i_or0]
theorem ownS_scr {R R' : rv_Mem} {r f : Nat} (h41 : R' 41 = R 41) (h42 : R' 42 = R 42) (h43 : R' 43 = R 43) (h44 : R' 44 = R 44) : ownS R' r f = ownS R r f := by
  unfold ownS ownV
  rw [h41, h42, h43, h44]
theorem h_owners : ∀ gh MC MR, Rel gh MC MR → ∀ p1 p2, rS_owners Rel gh MC MR p1 p2 := fun gh C R h p1 p2 => by
  obtain ⟨n, hR⟩ := h
  unfold rS_owners f11_owners f12_owners f12_owners_19 f12_owners_20 f12_goes
  have bad : Rel gh C (rv_u R 66 0 (nI 1)) := ⟨n, Rn_66 hR⟩
  rcases d_repository gh C p1 with ⟨r, h1, rfl, e1, e2⟩ | ⟨e1, e2⟩
  · rw [e1, e2]
    rcases d_file gh C p2 with ⟨f, h2, rfl, e3, e4⟩ | ⟨e3, e4⟩
    · left
      rw [e3, e4]
      simp (disch := omega) only [q_no, q_no2, q_0, q_1, q_2, q_3, q_4, q_5, q_6, q_7, q_8, q_10, q_11, q_12, q_15, q_16, q_17, q_20, q_30, q_31, q_32, q_40, q_45, q_60, q_80, q_81, q_82, q_100, q_320, q_328, q_399, q_400, q_3280, q_nc, q_eq, q_lt, q_le, q_add, q_mul, q_in, q_inno, q_no_eq, q_no_eq', q_no_lt, q_lt_no, q_no_le, q_le_no, o1_some, o2_some, lt_do, x1_inl, x1_inr, x2_inl, x2_inr, if_true, if_false, if_pos, if_neg, rvi_t, rvi_f, bt_f, bf_t, bb_t, bb_f, not_true_eq_false, not_false_eq_true, s6_ownersOf hR h1 h2, s12_ownersOf (R := rv_u R 66 0 (nI 0)) h1 h2]
      refine ⟨ownS R r f, rv_u R 66 0 (nI 0), rfl, ?_, mu_same _ _ _ _, ⟨n, Rn_66 hR⟩⟩
      rw [ownS_scr (mu_ne (by omega)) (mu_ne (by omega)) (mu_ne (by omega)) (mu_ne (by omega))]
    · right
      rw [e3, e4]
      simp (disch := omega) only [q_no, q_no2, q_0, q_1, q_2, q_3, q_4, q_5, q_6, q_7, q_8, q_10, q_11, q_12, q_15, q_16, q_17, q_20, q_30, q_31, q_32, q_40, q_45, q_60, q_80, q_81, q_82, q_100, q_320, q_328, q_399, q_400, q_3280, q_nc, q_eq, q_lt, q_le, q_add, q_mul, q_in, q_inno, q_no_eq, q_no_eq', q_no_lt, q_lt_no, q_no_le, q_le_no, o1_some, o2_some, lt_do, x1_inl, x1_inr, x2_inl, x2_inr, if_true, if_false, if_pos, if_neg, rvi_t, rvi_f, bt_f, bf_t, bb_t, bb_f, not_true_eq_false, not_false_eq_true]
      exact ⟨rv_u R 66 0 (nI 1), nI 0, by trivial, by trivial, mu_same _ _ _ _, bad⟩
  · right
    rw [e1, e2]
    simp (disch := omega) only [q_no, q_no2, q_0, q_1, q_2, q_3, q_4, q_5, q_6, q_7, q_8, q_10, q_11, q_12, q_15, q_16, q_17, q_20, q_30, q_31, q_32, q_40, q_45, q_60, q_80, q_81, q_82, q_100, q_320, q_328, q_399, q_400, q_3280, q_nc, q_eq, q_lt, q_le, q_add, q_mul, q_in, q_inno, q_no_eq, q_no_eq', q_no_lt, q_lt_no, q_no_le, q_le_no, o1_some, o2_some, lt_do, x1_inl, x1_inr, x2_inl, x2_inr, if_true, if_false, if_pos, if_neg, rvi_t, rvi_f, bt_f, bf_t, bb_t, bb_f, not_true_eq_false, not_false_eq_true]
    exact ⟨rv_u R 66 0 (nI 1), nI 0, by trivial, by trivial, mu_same _ _ _ _, bad⟩

/-! ABANDON -/
/-- the open children of a change, counted -/
def chS (n : Nat) (R : rv_Mem) (g : Nat) (q a : Nat) : Nat := if R 13 q = nI 0 ∧ parS n R q = nI g then a + 1 else a
theorem chS_le {n : Nat} {R : rv_Mem} {g : Nat} : ∀ d k a, up (chS n R g) d k a ≤ a + d := by
  intro d
  induction d with
  | zero => intro k a; exact Nat.le_refl _
  | succ d ih =>
    intro k a
    have h9 := ih (k + 1) (chS n R g k a)
    have h8 : chS n R g k a ≤ a + 1 := by unfold chS; split <;> omega
    show up (chS n R g) d (k + 1) (chS n R g k a) ≤ a + (d + 1)
    omega
theorem Rn.children {n : Nat} {gh : rC_gh} {C R : rv_Mem} (hR : Rn n gh C R) {g : Nat} (hg : g < gh.1 0) : f11_abandon_28 gh rv_FU C (nI g) 0 0 = some (.inl (nI (up (chS n R g) (gh.1 0) 0 0), C)) ∧ f12_abandon_47 rv_FU R (nI g) 0 0 = some (nI (up (chS n R g) (gh.1 0) 0 0), R) := by
  have hc := hR.ch20
  have step : ∀ q, q < gh.1 0 → ∃ x s, s < 3 ∧ C (100 + q) 5 = nI s ∧ R 13 q = nI s ∧ f9_parentNumber gh C (nI q) = some x ∧ f12_parent R (nI q) = some x ∧ parS n R q = x := fun q hq => by
    obtain ⟨x, x1, x2, x3, -⟩ := hR.parent hq
    obtain ⟨-, -, -, ⟨s, s1, s2, s3⟩, -⟩ := hR.chg q hq
    exact ⟨x, s, s1, s2, s3, x1, x2, x3⟩
  constructor
  · have L := rv_up0 (z := (fun _ _ _ _ => none)) (F := f11_abandon_28_s gh) (fun T k (a : Nat) => T C (nI g) (nI a) (nI k)) (gh.1 0) (chS n R g) (fun a => some (.inl (nI a, C))) ?_ ?_ rv_FU 0 0 (Nat.zero_le _) (FU_lt (by omega))
    · exact L
    · intro T k a hk
      obtain ⟨x, s, s1, s2, s3, x1, x2, x3⟩ := step k hk
      show f11_abandon_28_s gh T C (nI g) (nI a) (nI k) = T C (nI g) (nI (chS n R g k a)) (nI (k + 1))
      unfold f11_abandon_28_s f11_abandon_74 chS
      rw [s3, x3]
      simp (disch := omega) only [q_0, q_1, q_lt, q_in, if_pos, q_nc, is1 hk hc, s2, q_eq, x1, o1_some, q_add, if_true]
      by_cases h0 : s = 0
      · by_cases hx : x = nI g
        · rw [if_pos h0, if_pos hx, if_pos ⟨h0, hx⟩]
        · rw [if_pos h0, if_neg hx, if_neg (fun z => hx z.2)]
      · rw [if_neg h0, if_neg (fun z => h0 z.1)]
    · intro T a
      show f11_abandon_28_s gh T C (nI g) (nI a) (nI (gh.1 0)) = _
      unfold f11_abandon_28_s
      simp (disch := omega) only [q_no, q_no2, q_0, q_1, q_2, q_3, q_4, q_5, q_6, q_7, q_8, q_10, q_11, q_12, q_15, q_16, q_17, q_20, q_30, q_31, q_32, q_40, q_45, q_60, q_80, q_81, q_82, q_100, q_320, q_328, q_399, q_400, q_3280, q_nc, q_eq, q_lt, q_le, q_add, q_mul, q_in, q_inno, q_no_eq, q_no_eq', q_no_lt, q_lt_no, q_no_le, q_le_no, o1_some, o2_some, lt_do, x1_inl, x1_inr, x2_inl, x2_inr, if_true, if_false, if_pos, if_neg, rvi_t, rvi_f, bt_f, bf_t, bb_t, bb_f, not_true_eq_false, not_false_eq_true]
  · have L := rv_up0 (z := (fun _ _ _ _ => none)) (F := f12_abandon_47_s) (fun T k (a : Nat) => T R (nI g) (nI a) (nI k)) (gh.1 0) (chS n R g) (fun a => some (nI a, R)) ?_ ?_ rv_FU 0 0 (Nat.zero_le _) (FU_lt (by omega))
    · exact L
    · intro T k a hk
      obtain ⟨x, s, s1, s2, s3, x1, x2, x3⟩ := step k hk
      show f12_abandon_47_s T R (nI g) (nI a) (nI k) = T R (nI g) (nI (chS n R g k a)) (nI (k + 1))
      unfold f12_abandon_47_s f12_abandon_81 f12_abandon_82 chS
      rw [x3]
      simp (disch := omega) only [q_0, q_1, q_lt, q_in, if_pos, q_nc, s3, q_eq, x2, o1_some, q_add, rvi_t, rvi_f, hR.1.2.2.2.2.1, Nat.add_zero]
      by_cases h0 : s = 0
      · by_cases hx : x = nI g
        · rw [if_pos h0, if_pos hx, if_pos ⟨h0, hx⟩]
        · rw [if_pos h0, if_neg hx, if_neg (fun z => hx z.2)]
      · rw [if_neg h0, if_neg (fun z => h0 z.1)]
    · intro T a
      show f12_abandon_47_s T R (nI g) (nI a) (nI (gh.1 0)) = _
      unfold f12_abandon_47_s
      simp (disch := omega) only [q_no, q_no2, q_0, q_1, q_2, q_3, q_4, q_5, q_6, q_7, q_8, q_10, q_11, q_12, q_15, q_16, q_17, q_20, q_30, q_31, q_32, q_40, q_45, q_60, q_80, q_81, q_82, q_100, q_320, q_328, q_399, q_400, q_3280, q_nc, q_eq, q_lt, q_le, q_add, q_mul, q_in, q_inno, q_no_eq, q_no_eq', q_no_lt, q_lt_no, q_no_le, q_le_no, o1_some, o2_some, lt_do, x1_inl, x1_inr, x2_inl, x2_inr, if_true, if_false, if_pos, if_neg, rvi_t, rvi_f, bt_f, bf_t, bb_t, bb_f, not_true_eq_false, not_false_eq_true, hR.1.2.2.2.2.1]
theorem h_abandon : ∀ gh MC MR, Rel gh MC MR → ∀ p1 p2, rS_abandon Rel gh MC MR p1 p2 := fun gh C R h p1 p2 => by
  obtain ⟨n, hR⟩ := h
  unfold rS_abandon f11_abandon f12_abandon f12_abandon_28 f12_goes
  rcases hR.dwrong p1 p2 with ⟨p, g, hp, hg, rfl, rfl, e1, e2, e3⟩ | ⟨e1, e2⟩
  · rw [e1, e3]
    have hR0 := Rn_66 (v := nI 0) hR
    have hR1 := Rn_66 (v := nI 0) hR0
    have k66 : ∀ v w : Int32, rv_u (rv_u R 66 0 v) 66 0 w 66 0 = w := fun v w => mu_same _ _ _ _
    rcases hR0.shut hg hp with ⟨s1, s2, s3⟩ | ⟨s1, s2⟩
    · left
      have ho : rv_u (rv_u R 66 0 (nI 0)) 66 0 (nI 0) 13 g = nI 0 := by rw [mu_ne (show 13 ≠ 66 by omega)]; exact s3
      obtain ⟨C', R', c1, r1, hR', q66, -⟩ := Rn_abandon hR1 hg ho (nI p)
      obtain ⟨k1, k2⟩ := hR'.children hg
      simp only [q_0] at k1 k2
      simp (disch := omega) only [q_no, q_no2, q_0, q_1, q_2, q_3, q_4, q_5, q_6, q_7, q_8, q_10, q_11, q_12, q_15, q_16, q_17, q_20, q_30, q_31, q_32, q_40, q_45, q_60, q_80, q_81, q_82, q_100, q_320, q_328, q_399, q_400, q_3280, q_nc, q_eq, q_lt, q_le, q_add, q_mul, q_in, q_inno, q_no_eq, q_no_eq', q_no_lt, q_lt_no, q_no_le, q_le_no, o1_some, o2_some, lt_do, x1_inl, x1_inr, x2_inl, x2_inr, if_true, if_false, if_pos, if_neg, rvi_t, rvi_f, bt_f, bf_t, bb_t, bb_f, not_true_eq_false, not_false_eq_true, e2, s1, s2, r1, k2]
      rw [show (2 : Int32) = nI 2 from rfl] at c1
      rw [c1, o1_some, k1]
      exact ⟨_, C', R', rfl, rfl, by rw [q66]; exact k66 _ _, ⟨n, hR'⟩⟩
    · right; right
      simp (disch := omega) only [q_no, q_no2, q_0, q_1, q_2, q_3, q_4, q_5, q_6, q_7, q_8, q_10, q_11, q_12, q_15, q_16, q_17, q_20, q_30, q_31, q_32, q_40, q_45, q_60, q_80, q_81, q_82, q_100, q_320, q_328, q_399, q_400, q_3280, q_nc, q_eq, q_lt, q_le, q_add, q_mul, q_in, q_inno, q_no_eq, q_no_eq', q_no_lt, q_lt_no, q_no_le, q_le_no, o1_some, o2_some, lt_do, x1_inl, x1_inr, x2_inl, x2_inr, if_true, if_false, if_pos, if_neg, rvi_t, rvi_f, bt_f, bf_t, bb_t, bb_f, not_true_eq_false, not_false_eq_true, e2, s1, s2]
      exact ⟨C, rv_u (rv_u R 66 0 (nI 0)) 66 0 (nI 2), nI 0, by trivial, by trivial, k66 _ _, ⟨n, Rn_66 hR0⟩⟩
  · right; left
    rw [e2]
    rcases e1 with e1 | ⟨e1, e3⟩
    · simp (disch := omega) only [q_no, q_no2, q_0, q_1, q_2, q_3, q_4, q_5, q_6, q_7, q_8, q_10, q_11, q_12, q_15, q_16, q_17, q_20, q_30, q_31, q_32, q_40, q_45, q_60, q_80, q_81, q_82, q_100, q_320, q_328, q_399, q_400, q_3280, q_nc, q_eq, q_lt, q_le, q_add, q_mul, q_in, q_inno, q_no_eq, q_no_eq', q_no_lt, q_lt_no, q_no_le, q_le_no, o1_some, o2_some, lt_do, x1_inl, x1_inr, x2_inl, x2_inr, if_true, if_false, if_pos, if_neg, rvi_t, rvi_f, bt_f, bf_t, bb_t, bb_f, not_true_eq_false, not_false_eq_true, e1]
      exact ⟨C, rv_u R 66 0 (nI 1), nI 0, by trivial, by trivial, mu_same _ _ _ _, ⟨n, Rn_66 hR⟩⟩
    · simp (disch := omega) only [q_no, q_no2, q_0, q_1, q_2, q_3, q_4, q_5, q_6, q_7, q_8, q_10, q_11, q_12, q_15, q_16, q_17, q_20, q_30, q_31, q_32, q_40, q_45, q_60, q_80, q_81, q_82, q_100, q_320, q_328, q_399, q_400, q_3280, q_nc, q_eq, q_lt, q_le, q_add, q_mul, q_in, q_inno, q_no_eq, q_no_eq', q_no_lt, q_lt_no, q_no_le, q_le_no, o1_some, o2_some, lt_do, x1_inl, x1_inr, x2_inl, x2_inr, if_true, if_false, if_pos, if_neg, rvi_t, rvi_f, bt_f, bf_t, bb_t, bb_f, not_true_eq_false, not_false_eq_true, e1, e3]
      exact ⟨C, rv_u R 66 0 (nI 1), nI 0, by trivial, by trivial, mu_same _ _ _ _, ⟨n, Rn_66 hR⟩⟩

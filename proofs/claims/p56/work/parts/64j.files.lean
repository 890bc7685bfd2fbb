/-! FILES -/
theorem s9_sizeOf {gh : rC_gh} {C : rv_Mem} {c f : Nat} (hc : c < 82) (hf : f < 4) : f9_sizeOf gh C (nI c) (nI f) = some (C 15 (4 * c + f)) := by
  unfold f9_sizeOf
  have e : c * 4 + f = 4 * c + f := by omega
  simp (disch := omega) only [q_no, q_no2, q_0, q_1, q_2, q_3, q_4, q_5, q_6, q_7, q_8, q_10, q_11, q_12, q_15, q_16, q_17, q_20, q_30, q_31, q_32, q_40, q_45, q_60, q_80, q_81, q_82, q_100, q_320, q_328, q_399, q_400, q_3280, q_nc, q_eq, q_lt, q_le, q_add, q_mul, q_in, q_inno, q_no_eq, q_no_eq', q_no_lt, q_lt_no, q_no_le, q_le_no, o1_some, o2_some, lt_do, x1_inl, x1_inr, x2_inl, x2_inr, if_true, if_false, if_pos, if_neg, rvi_t, rvi_f, bt_f, bf_t, bb_t, bb_f, not_true_eq_false, not_false_eq_true, e]
theorem s9_lineAt {gh : rC_gh} {C : rv_Mem} {c f p s : Nat} (hc : c < 82) (hf : f < 4) (hs : C 15 (4 * c + f) = nI s) (hs2 : s ≤ 10) (hp : p < s) : f9_lineAt gh C (nI c) (nI f) (nI p) = some (C 14 (10 * (4 * c + f) + p)) := by
  unfold f9_lineAt f9_lineAt_37
  have e : c * 4 + f = 4 * c + f := by omega
  have e2 : (4 * c + f) * 10 + p = 10 * (4 * c + f) + p := by omega
  simp (disch := omega) only [q_no, q_no2, q_0, q_1, q_2, q_3, q_4, q_5, q_6, q_7, q_8, q_10, q_11, q_12, q_15, q_16, q_17, q_20, q_30, q_31, q_32, q_40, q_45, q_60, q_80, q_81, q_82, q_100, q_320, q_328, q_399, q_400, q_3280, q_nc, q_eq, q_lt, q_le, q_add, q_mul, q_in, q_inno, q_no_eq, q_no_eq', q_no_lt, q_lt_no, q_no_le, q_le_no, o1_some, o2_some, lt_do, x1_inl, x1_inr, x2_inl, x2_inr, if_true, if_false, if_pos, if_neg, rvi_t, rvi_f, bt_f, bf_t, bb_t, bb_f, not_true_eq_false, not_false_eq_true, e, hs, e2]
theorem s9_lineAt_out {gh : rC_gh} {C : rv_Mem} {c f p s : Nat} (hc : c < 82) (hf : f < 4) (hs : C 15 (4 * c + f) = nI s) (hs2 : s ≤ 10) (hp : s ≤ p) (hp2 : p < 2147483648) : f9_lineAt gh C (nI c) (nI f) (nI p) = some NO := by
  unfold f9_lineAt f9_lineAt_36 f9_lineAt_37
  have e : c * 4 + f = 4 * c + f := by omega
  by_cases h10 : p < 10
  · simp (disch := omega) only [q_no, q_no2, q_0, q_1, q_2, q_3, q_4, q_5, q_6, q_7, q_8, q_10, q_11, q_12, q_15, q_16, q_17, q_20, q_30, q_31, q_32, q_40, q_45, q_60, q_80, q_81, q_82, q_100, q_320, q_328, q_399, q_400, q_3280, q_nc, q_eq, q_lt, q_le, q_add, q_mul, q_in, q_inno, q_no_eq, q_no_eq', q_no_lt, q_lt_no, q_no_le, q_le_no, o1_some, o2_some, lt_do, x1_inl, x1_inr, x2_inl, x2_inr, if_true, if_false, if_pos, if_neg, rvi_t, rvi_f, bt_f, bf_t, bb_t, bb_f, not_true_eq_false, not_false_eq_true, e, hs]
  · simp (disch := omega) only [q_no, q_no2, q_0, q_1, q_2, q_3, q_4, q_5, q_6, q_7, q_8, q_10, q_11, q_12, q_15, q_16, q_17, q_20, q_30, q_31, q_32, q_40, q_45, q_60, q_80, q_81, q_82, q_100, q_320, q_328, q_399, q_400, q_3280, q_nc, q_eq, q_lt, q_le, q_add, q_mul, q_in, q_inno, q_no_eq, q_no_eq', q_no_lt, q_lt_no, q_no_le, q_le_no, o1_some, o2_some, lt_do, x1_inl, x1_inr, x2_inl, x2_inr, if_true, if_false, if_pos, if_neg, rvi_t, rvi_f, bt_f, bf_t, bb_t, bb_f, not_true_eq_false, not_false_eq_true, e, hs]
theorem s12_sizeOf {M : rv_Mem} {c f : Nat} (hc : c < 82) (hf : f < 4) : f12_sizeOf M (nI c) (nI f) = some (M 3 (4 * c + f)) := by
  unfold f12_sizeOf
  simp (disch := omega) only [q_no, q_no2, q_0, q_1, q_2, q_3, q_4, q_5, q_6, q_7, q_8, q_10, q_11, q_12, q_15, q_16, q_17, q_20, q_30, q_31, q_32, q_40, q_45, q_60, q_80, q_81, q_82, q_100, q_320, q_328, q_399, q_400, q_3280, q_nc, q_eq, q_lt, q_le, q_add, q_mul, q_in, q_inno, q_no_eq, q_no_eq', q_no_lt, q_lt_no, q_no_le, q_le_no, o1_some, o2_some, lt_do, x1_inl, x1_inr, x2_inl, x2_inr, if_true, if_false, if_pos, if_neg, rvi_t, rvi_f, bt_f, bf_t, bb_t, bb_f, not_true_eq_false, not_false_eq_true]
theorem s12_lineAt {M : rv_Mem} {c f p : Nat} (hw : rv_z (M 64 0) = false) (hc : c < 82) (hf : f < 4) (hp : p < 10) : f12_lineAt M (nI c) (nI f) (nI p) = some (M 4 (10 * (4 * c + f) + p)) := by
  unfold f12_lineAt
  simp (disch := omega) only [q_no, q_no2, q_0, q_1, q_2, q_3, q_4, q_5, q_6, q_7, q_8, q_10, q_11, q_12, q_15, q_16, q_17, q_20, q_30, q_31, q_32, q_40, q_45, q_60, q_80, q_81, q_82, q_100, q_320, q_328, q_399, q_400, q_3280, q_nc, q_eq, q_lt, q_le, q_add, q_mul, q_in, q_inno, q_no_eq, q_no_eq', q_no_lt, q_lt_no, q_no_le, q_le_no, o1_some, o2_some, lt_do, x1_inl, x1_inr, x2_inl, x2_inr, if_true, if_false, if_pos, if_neg, rvi_t, rvi_f, bt_f, bf_t, bb_t, bb_f, not_true_eq_false, not_false_eq_true, hw]
/-- the lines below k of the file f of b are those of a -/
def cpl (kl : Nat) (M0 M : rv_Mem) (a b f k : Nat) : Prop := (∀ q, q ≠ kl → M q = M0 q) ∧ (∀ i, i < 10 * (4 * b + f) ∨ 10 * (4 * b + f) + k ≤ i → M kl i = M0 kl i) ∧ ∀ p, p < k → M kl (10 * (4 * b + f) + p) = M0 kl (10 * (4 * a + f) + p)
/-- the files below k of b are those of a, as far as their lines go -/
def cpf (kl ks : Nat) (M0 M : rv_Mem) (a b k : Nat) : Prop := (∀ q, q ≠ kl → q ≠ ks → M q = M0 q) ∧ (∀ i, i < 40 * b ∨ 40 * b + 40 ≤ i → M kl i = M0 kl i) ∧ (∀ i, i < 4 * b ∨ 4 * b + 4 ≤ i → M ks i = M0 ks i) ∧ ∀ f, f < k → M ks (4 * b + f) = M0 ks (4 * a + f) ∧ ∀ p s, M0 ks (4 * a + f) = nI s → s ≤ 10 → p < s → M kl (10 * (4 * b + f) + p) = M0 kl (10 * (4 * a + f) + p)
theorem cpl_step {kl : Nat} {M0 M : rv_Mem} {a b f k : Nat} (hab : a ≠ b) (hf : f < 4) (hk : k < 10) (h : cpl kl M0 M a b f k) : cpl kl M0 (rv_u M kl (10 * (4 * b + f) + k) (M kl (10 * (4 * a + f) + k))) a b f (k + 1) := by
  obtain ⟨h1, h2, h3⟩ := h
  refine ⟨fun q hq => by rw [mu_ne hq]; exact h1 q hq, fun i hi => by rw [mu_ne2 (by omega)]; exact h2 i (by omega), fun p hp => ?_⟩
  by_cases e : p = k
  · subst e
    rw [mu_same]
    exact h2 _ (by omega)
  · rw [mu_ne2 (by omega)]
    exact h3 p (by omega)
theorem s9_copyFiles {gh : rC_gh} {C : rv_Mem} {a b : Nat} (ha : a < 82) (hb : b < 82) (hab : a ≠ b) (hs : ∀ f, f < 4 → ∃ s, s ≤ 10 ∧ C 15 (4 * a + f) = nI s) : ∃ C', f9_copyFiles gh C (nI a) (nI b) = some C' ∧ cpf 14 15 C C' a b 4 := by
  have inner : ∀ (t : rv_Mem → Int32 → Int32 → Int32 → Option rv_Mem) (M0 : rv_Mem) (f s : Nat), f < 4 → s ≤ 10 → M0 15 (4 * a + f) = nI s → ∃ M', cpl 14 M0 M' a b f s ∧ f9_copyFiles_32 gh t rv_FU M0 (nI a) (nI b) (nI f) (nI s) 0 = t M' (nI a) (nI b) (nI (f + 1)) := by
    intro t M0 f s hf hs2 he
    have L := rv_ui (z := (fun _ _ _ _ _ _ => none)) (F := f9_copyFiles_32_s gh t) (fun T k M => T M (nI a) (nI b) (nI f) (nI s) (nI k)) s (fun k M => cpl 14 M0 M a b f k) (fun M => t M (nI a) (nI b) (nI (f + 1))) ?_ ?_ rv_FU 0 M0 (Nat.zero_le _) (FU_lt (by omega)) ⟨fun _ _ => rfl, fun _ _ => rfl, fun _ h => absurd h (Nat.not_lt_zero _)⟩
    · exact L
    · intro T k M hk hI
      refine ⟨_, cpl_step hab hf (by omega) hI, ?_⟩
      show f9_copyFiles_32_s gh t T M (nI a) (nI b) (nI f) (nI s) (nI k) = _
      unfold f9_copyFiles_32_s f9_startOf
      have hsz : M 15 (4 * a + f) = nI s := by rw [hI.1 15 (by omega)]; exact he
      have e2 : (b * 4 + f) * 10 + k = 10 * (4 * b + f) + k := by omega
      simp (disch := omega) only [q_no, q_no2, q_0, q_1, q_2, q_3, q_4, q_5, q_6, q_7, q_8, q_10, q_11, q_12, q_15, q_16, q_17, q_20, q_30, q_31, q_32, q_40, q_45, q_60, q_80, q_81, q_82, q_100, q_320, q_328, q_399, q_400, q_3280, q_nc, q_eq, q_lt, q_le, q_add, q_mul, q_in, q_inno, q_no_eq, q_no_eq', q_no_lt, q_lt_no, q_no_le, q_le_no, o1_some, o2_some, lt_do, x1_inl, x1_inr, x2_inl, x2_inr, if_true, if_false, if_pos, if_neg, rvi_t, rvi_f, bt_f, bf_t, bb_t, bb_f, not_true_eq_false, not_false_eq_true, s9_lineAt (gh := gh) (C := M) (c := a) (f := f) (p := k) ha hf hsz hs2 hk, e2, s9_write (gh := gh) (C := M) (k := 14) (L := 3280) (i := 10 * (4 * b + f) + k) (by omega) rfl rfl (by omega)]
    · intro T M hI
      show f9_copyFiles_32_s gh t T M (nI a) (nI b) (nI f) (nI s) (nI s) = _
      unfold f9_copyFiles_32_s
      simp (disch := omega) only [q_no, q_no2, q_0, q_1, q_2, q_3, q_4, q_5, q_6, q_7, q_8, q_10, q_11, q_12, q_15, q_16, q_17, q_20, q_30, q_31, q_32, q_40, q_45, q_60, q_80, q_81, q_82, q_100, q_320, q_328, q_399, q_400, q_3280, q_nc, q_eq, q_lt, q_le, q_add, q_mul, q_in, q_inno, q_no_eq, q_no_eq', q_no_lt, q_lt_no, q_no_le, q_le_no, o1_some, o2_some, lt_do, x1_inl, x1_inr, x2_inl, x2_inr, if_true, if_false, if_pos, if_neg, rvi_t, rvi_f, bt_f, bf_t, bb_t, bb_f, not_true_eq_false, not_false_eq_true]
  have L := rv_ui (z := (fun _ _ _ _ => none)) (F := f9_copyFiles_2_s gh) (fun T k M => T M (nI a) (nI b) (nI k)) 4 (fun k M => cpf 14 15 C M a b k) some ?_ ?_ rv_FU 0 C (Nat.zero_le _) (FU_lt (by omega)) ⟨fun _ _ _ => rfl, fun _ _ => rfl, fun _ _ => rfl, fun _ h => absurd h (Nat.not_lt_zero _)⟩
  · obtain ⟨C', h1, h2⟩ := L
    exact ⟨C', h2, h1⟩
  · intro T k M hk hI
    obtain ⟨s, hs2, hs3⟩ := hs k hk
    obtain ⟨i1, i2, i3, i4⟩ := hI
    have hsz : M 15 (4 * a + k) = nI s := by rw [i3 _ (by omega)]; exact hs3
    obtain ⟨M', ⟨j1, j2, j3⟩, j4⟩ := inner T (rv_u M 15 (4 * b + k) (nI s)) k s hk hs2 (by rw [mu_ne2 (by omega)]; exact hsz)
    refine ⟨M', ⟨fun q h1 h2 => by rw [j1 q h1, mu_ne h2]; exact i1 q h1 h2, fun i hi => ?_, fun i hi => ?_, fun f hf => ?_⟩, ?_⟩
    · rw [j2 i (by omega), mu_ne (by omega)]; exact i2 i hi
    · rw [j1 15 (by omega), mu_ne2 (by omega)]; exact i3 i hi
    · by_cases e : f = k
      · subst e
        refine ⟨by rw [j1 15 (by omega), mu_same, hs3], fun p s' h1 h2 h3 => ?_⟩
        have es : s' = s := by rw [hs3, q_eq (by omega) (by omega)] at h1; exact h1.symm
        subst es
        rw [j3 p h3, mu_ne (by omega)]
        exact i2 _ (by omega)
      · obtain ⟨g1, g2⟩ := i4 f (by omega)
        refine ⟨by rw [j1 15 (by omega), mu_ne2 (by omega)]; exact g1, fun p s' h1 h2 h3 => ?_⟩
        rw [j2 _ (by omega), mu_ne (by omega)]
        exact g2 p s' h1 h2 h3
    · show f9_copyFiles_2_s gh T M (nI a) (nI b) (nI k) = _
      unfold f9_copyFiles_2_s
      have e2 : b * 4 + k = 4 * b + k := by omega
      simp (disch := omega) only [q_no, q_no2, q_0, q_1, q_2, q_3, q_4, q_5, q_6, q_7, q_8, q_10, q_11, q_12, q_15, q_16, q_17, q_20, q_30, q_31, q_32, q_40, q_45, q_60, q_80, q_81, q_82, q_100, q_320, q_328, q_399, q_400, q_3280, q_nc, q_eq, q_lt, q_le, q_add, q_mul, q_in, q_inno, q_no_eq, q_no_eq', q_no_lt, q_lt_no, q_no_le, q_le_no, o1_some, o2_some, lt_do, x1_inl, x1_inr, x2_inl, x2_inr, if_true, if_false, if_pos, if_neg, rvi_t, rvi_f, bt_f, bf_t, bb_t, bb_f, not_true_eq_false, not_false_eq_true, s9_sizeOf (gh := gh) (C := M) (c := a) (f := k) ha hk, hsz, e2, s9_write (gh := gh) (C := M) (k := 15) (L := 328) (i := 4 * b + k) (by omega) rfl rfl (by omega)]
      simp only [q_0] at j4
      exact j4
  · intro T M hI
    show f9_copyFiles_2_s gh T M (nI a) (nI b) (nI 4) = _
    unfold f9_copyFiles_2_s
    simp (disch := omega) only [q_no, q_no2, q_0, q_1, q_2, q_3, q_4, q_5, q_6, q_7, q_8, q_10, q_11, q_12, q_15, q_16, q_17, q_20, q_30, q_31, q_32, q_40, q_45, q_60, q_80, q_81, q_82, q_100, q_320, q_328, q_399, q_400, q_3280, q_nc, q_eq, q_lt, q_le, q_add, q_mul, q_in, q_inno, q_no_eq, q_no_eq', q_no_lt, q_lt_no, q_no_le, q_le_no, o1_some, o2_some, lt_do, x1_inl, x1_inr, x2_inl, x2_inr, if_true, if_false, if_pos, if_neg, rvi_t, rvi_f, bt_f, bf_t, bb_t, bb_f, not_true_eq_false, not_false_eq_true]

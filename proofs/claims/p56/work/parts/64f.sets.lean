/-! COMMITS OF SETS -/
theorem Rn.cnt {n : Nat} {gh : rC_gh} {C R : rv_Mem} (h : Rn n gh C R) : A_cnt n gh C R := h.1
theorem Rn.fil {n : Nat} {gh : rC_gh} {C R : rv_Mem} (h : Rn n gh C R) : A_fil n (C 14) (C 15) (R 3) (R 4) := h.2.1
theorem Rn.bas {n : Nat} {gh : rC_gh} {C R : rv_Mem} (h : Rn n gh C R) : A_bas n (C 16) (C 17) (C 18) (R 1) (R 2) (R 8) := h.2.2.1
theorem Rn.tip {n : Nat} {gh : rC_gh} {C R : rv_Mem} (h : Rn n gh C R) : A_tip n (C 22) (C 51) (R 1) (R 9) (R 10) := h.2.2.2.1
theorem Rn.own {n : Nat} {gh : rC_gh} {C R : rv_Mem} (h : Rn n gh C R) : A_own n (gh.1 0) C (C 19) (C 20) (R 5) (R 6) (R 7) (R 14) := h.2.2.2.2.1
theorem Rn.set {n : Nat} {gh : rC_gh} {C R : rv_Mem} (h : Rn n gh C R) : A_set n (gh.1 0) C (R 5) (R 6) (R 14) := h.2.2.2.2.2.1
theorem Rn.chg {n : Nat} {gh : rC_gh} {C R : rv_Mem} (h : Rn n gh C R) : A_chg n (gh.1 0) C R := h.2.2.2.2.2.2.1
theorem Rn.nw {n : Nat} {gh : rC_gh} {C R : rv_Mem} (h : Rn n gh C R) : A_new (gh.1 0) R := h.2.2.2.2.2.2.2.1
theorem Rn.par {n : Nat} {gh : rC_gh} {C R : rv_Mem} (h : Rn n gh C R) : A_par n (gh.1 0) R := h.2.2.2.2.2.2.2.2.1
theorem Rn.kin {n : Nat} {gh : rC_gh} {C R : rv_Mem} (h : Rn n gh C R) : A_kin n C R := h.2.2.2.2.2.2.2.2.2.1
theorem Rn.rev {n : Nat} {gh : rC_gh} {C R : rv_Mem} (h : Rn n gh C R) : A_rev n (gh.1 0) (gh.1 1) C R := h.2.2.2.2.2.2.2.2.2.2.1
theorem Rn.vot {n : Nat} {gh : rC_gh} {C R : rv_Mem} (h : Rn n gh C R) : A_vot n (C 41) (C 42) (R 22) (R 23) := h.2.2.2.2.2.2.2.2.2.2.2.1
theorem Rn.cmt {n : Nat} {gh : rC_gh} {C R : rv_Mem} (h : Rn n gh C R) : A_cmt (gh.1 0) (gh.1 1) n gh C R := h.2.2.2.2.2.2.2.2.2.2.2.2.1
theorem Rn.fnd {n : Nat} {gh : rC_gh} {C R : rv_Mem} (h : Rn n gh C R) : A_fnd (gh.1 0) (gh.1 2) n C R := h.2.2.2.2.2.2.2.2.2.2.2.2.2.1
theorem Rn.ols {n : Nat} {gh : rC_gh} {C R : rv_Mem} (h : Rn n gh C R) : A_ols C R := h.2.2.2.2.2.2.2.2.2.2.2.2.2.2.1
theorem Rn.rul {n : Nat} {gh : rC_gh} {C R : rv_Mem} (h : Rn n gh C R) : A_rul C R := h.2.2.2.2.2.2.2.2.2.2.2.2.2.2.2.1
theorem Rn.mis {n : Nat} {gh : rC_gh} {C R : rv_Mem} (h : Rn n gh C R) : A_mis C R := h.2.2.2.2.2.2.2.2.2.2.2.2.2.2.2.2.1
theorem Rn.ok {n : Nat} {gh : rC_gh} {C R : rv_Mem} (h : Rn n gh C R) : rC_ok gh = true := h.2.2.2.2.2.2.2.2.2.2.2.2.2.2.2.2.2
theorem s12_commitAt {M : rv_Mem} {n : Nat} (hN : M 0 0 = nI n) (hn : n ≤ 80) (h s : Int32) : f12_commitAt M h s = some (mAt n (M 5) (M 6) h s) := by
  have L := rv_up0 (z := (fun _ _ _ _ => none)) (F := f12_commitAt_5_s M) (fun t k a => t h s a (nI k)) n (mFind (M 5) (M 6) h s) some ?_ ?_ rv_FU 0 NO (Nat.zero_le _) (FU_lt (by omega))
  · exact L
  · intro t k a hk
    show f12_commitAt_5_s M t h s a (nI k) = t h s (mFind (M 5) (M 6) h s k a) (nI (k + 1))
    unfold f12_commitAt_5_s f12_commitAt_41 f12_commitAt_42 mFind
    simp (disch := omega) only [q_no, q_no2, q_0, q_1, q_2, q_3, q_4, q_5, q_6, q_7, q_8, q_10, q_11, q_12, q_15, q_16, q_17, q_20, q_30, q_31, q_32, q_40, q_45, q_60, q_80, q_81, q_82, q_100, q_320, q_328, q_399, q_400, q_3280, q_nc, q_eq, q_lt, q_le, q_add, q_mul, q_in, q_inno, q_no_eq, q_no_eq', q_no_lt, q_lt_no, q_no_le, q_le_no, o1_some, o2_some, lt_do, x1_inl, x1_inr, x2_inl, x2_inr, if_true, if_false, if_pos, if_neg, rvi_t, rvi_f, bt_f, bf_t, bb_t, bb_f, not_true_eq_false, not_false_eq_true, hN]
    (repeat' split) <;> simp_all
  · intro t a
    show f12_commitAt_5_s M t h s a (nI n) = some a
    unfold f12_commitAt_5_s
    simp (disch := omega) only [q_no, q_no2, q_0, q_1, q_2, q_3, q_4, q_5, q_6, q_7, q_8, q_10, q_11, q_12, q_15, q_16, q_17, q_20, q_30, q_31, q_32, q_40, q_45, q_60, q_80, q_81, q_82, q_100, q_320, q_328, q_399, q_400, q_3280, q_nc, q_eq, q_lt, q_le, q_add, q_mul, q_in, q_inno, q_no_eq, q_no_eq', q_no_lt, q_lt_no, q_no_le, q_le_no, o1_some, o2_some, lt_do, x1_inl, x1_inr, x2_inl, x2_inr, if_true, if_false, if_pos, if_neg, rvi_t, rvi_f, bt_f, bf_t, bb_t, bb_f, not_true_eq_false, not_false_eq_true, hN]
theorem Rn.sets {n : Nat} {gh : rC_gh} {C R : rv_Mem} (hR : Rn n gh C R) {h : Nat} (hh : h < gh.1 0) : ∃ k, 1 ≤ k ∧ k ≤ 80 ∧ C (100 + h) 4 = nI k ∧ R 14 h = nI k ∧ C 23 h = C (120 + h) (k - 1) := by
  obtain ⟨k2, k3, k4, e1, e2, e3, e4⟩ := hR.set.1 h hh
  exact ⟨k2, k3, k4, e1, e2, e3⟩
/-- the s-th set of the change h: its commit -/
theorem Rn.at {n : Nat} {gh : rC_gh} {C R : rv_Mem} (hR : Rn n gh C R) {h : Nat} (hh : h < gh.1 0) {k s : Nat} (hk80 : k ≤ 80) (hk : R 14 h = nI k) (hs : s < k) : ∃ c, 2 ≤ c ∧ c < n ∧ C (120 + h) s = nI c ∧ R 5 c = nI h ∧ R 6 c = nI s ∧ mAt n (R 5) (R 6) (nI h) (nI s) = nI c := by
  obtain ⟨k2, k3, k4, e1, e2, e3, e4⟩ := hR.set.1 h hh
  have ek : k2 = k := by
    have h9 : nI k2 = nI k := by rw [← e2, hk]
    rw [q_eq (by omega) (by omega)] at h9; exact h9
  subst ek
  obtain ⟨c, c1, c2, c3, c4, c5⟩ := e4 s hs
  refine ⟨c, c1, c2, c3, c4, c5, ?_⟩
  rw [ups_find (c0 := c) ⟨c4, c5⟩ n (fun c' h1 h2 h3 => ?_), if_pos c2]
  rcases hR.own c' h1 with ⟨o1, o2⟩ | ⟨h', s', p', o1, o2, o3, o4, o5, o6, o7, -⟩
  · rw [o2] at h2
    have hb := hR.cnt.2.2.2.1
    rw [q_no_eq' (by omega)] at h2
    exact h2.elim
  · have hb := hR.cnt.2.2.2.1
    have eh : h' = h := by rw [o4, q_eq (by omega) (by omega)] at h2; exact h2
    subst eh
    rw [e2, q_nc (by omega)] at o6
    have es : s' = s := by rw [o5, q_eq (by omega) (by omega)] at h3; exact h3
    subst es
    have e9 : nI c' = nI c := by rw [← o7, c3]
    have hn := hR.cnt.1.2
    rw [q_eq (by omega) (by omega)] at e9
    exact e9
theorem Rn.n80 {n : Nat} {gh : rC_gh} {C R : rv_Mem} (h : Rn n gh C R) : n ≤ 80 := h.1.1.2
theorem Rn.ch20 {n : Nat} {gh : rC_gh} {C R : rv_Mem} (h : Rn n gh C R) : gh.1 0 ≤ 20 := h.1.2.2.2.1
theorem Rn.dcommit {n : Nat} {gh : rC_gh} {C R : rv_Mem} (h : Rn n gh C R) (x : Int32) : (∃ m, m < n ∧ x = nI m ∧ f11_needCommit gh C x = some (.inl ()) ∧ f12_isCommit R x = some true) ∨ (f11_needCommit gh C x = some (.inr 1) ∧ f12_isCommit R x = some false) := d_commit gh h.1.1.2 h.1.2.1 h.1.2.2.1 x
theorem Rn.dchange {n : Nat} {gh : rC_gh} {C R : rv_Mem} (h : Rn n gh C R) (x : Int32) : (∃ m, m < gh.1 0 ∧ x = nI m ∧ f11_needChange gh C x = some (.inl (100 + m)) ∧ f12_isChange R x = some true) ∨ (f11_needChange gh C x = some (.inr 1) ∧ f12_isChange R x = some false) := d_change C h.1.2.2.2.1 h.1.2.2.2.2.1 x
theorem Rn.dcomment {n : Nat} {gh : rC_gh} {C R : rv_Mem} (h : Rn n gh C R) (x : Int32) : (∃ m, m < gh.1 1 ∧ x = nI m ∧ f11_needComment gh C x = some (.inl (200 + m)) ∧ f12_isComment R x = some true) ∨ (f11_needComment gh C x = some (.inr 1) ∧ f12_isComment R x = some false) := d_comment C h.1.2.2.2.2.2.1 h.1.2.2.2.2.2.2.1 x
/-- a set of a change, asked for from outside -/
theorem Rn.dset {n : Nat} {gh : rC_gh} {C R : rv_Mem} (hR : Rn n gh C R) {h : Nat} (hh : h < gh.1 0) (x : Int32) : (∃ s c, x = nI s ∧ s < 80 ∧ s < (R 14 h).toNatClampNeg ∧ 2 ≤ c ∧ c < n ∧ C (120 + h) s = nI c ∧ R 5 c = nI h ∧ R 6 c = nI s ∧ mAt n (R 5) (R 6) (nI h) (nI s) = nI c ∧ f11_needSet gh C (100 + h) x = some (.inl (nI c)) ∧ f12_isSet R (nI h) x = some true ∧ f12_commitAt R (nI h) (nI s) = some (nI c)) ∨ (f11_needSet gh C (100 + h) x = some (.inr 1) ∧ f12_isSet R (nI h) x = some false) := by
  obtain ⟨k, k1, k2, k3, k4, -⟩ := hR.sets hh
  have hc := hR.ch20
  have ei := is1 hh hc
  have e0 : f12_isChange R (nI h) = some true := by
    rcases hR.dchange (nI h) with ⟨m, m1, m2, -, m3⟩ | ⟨-, m3⟩
    · exact m3
    · have e : f12_isChange R (nI h) = rv_o1 (f12_isIn (nI h) 0 (nI (gh.1 0) - 1)) (fun r2 => some r2) := by unfold f12_isChange; rw [hR.1.2.2.2.2.1]
      rw [e, q_0, q_1, q_sub (by omega), s12_isIn (by omega) (by omega) (by omega)]
      show some (decide _) = _
      rw [decide_eq_true (by omega)]
  have e1 : f12_isSet R (nI h) x = rv_o1 (f12_isIn x 0 (nI k - 1)) (fun r4 => if r4 = true then some true else some false) := by
    unfold f12_isSet
    rw [e0]
    simp (disch := omega) only [q_no, q_no2, q_0, q_1, q_2, q_3, q_4, q_5, q_6, q_7, q_8, q_10, q_11, q_12, q_15, q_16, q_17, q_20, q_30, q_31, q_32, q_40, q_45, q_60, q_80, q_81, q_82, q_100, q_320, q_328, q_399, q_400, q_3280, q_nc, q_eq, q_lt, q_le, q_add, q_mul, q_in, q_inno, q_no_eq, q_no_eq', q_no_lt, q_lt_no, q_no_le, q_le_no, o1_some, o2_some, lt_do, x1_inl, x1_inr, x2_inl, x2_inr, if_true, if_false, if_pos, if_neg, rvi_t, rvi_f, bt_f, bf_t, bb_t, bb_f, not_true_eq_false, not_false_eq_true, k4]
  rw [e1]
  unfold f11_needSet f0_commitAt
  rw [ei, k3]
  rcases d_isIn x k (by omega) with ⟨s, h1, rfl, h2⟩ | ⟨h2, hx | ⟨m, h1, h3, rfl⟩⟩
  · obtain ⟨c, c1, c2, c3, c4, c5, c6⟩ := hR.at hh k2 k4 h1
    refine Or.inl ⟨s, c, rfl, by omega, by rw [k4, q_nc (by omega)]; exact h1, c1, c2, c3, c4, c5, c6, ?_, by rw [h2]; rfl, by rw [s12_commitAt hR.1.2.2.1 hR.n80, c6]⟩
    simp (disch := omega) only [q_no, q_no2, q_0, q_1, q_2, q_3, q_4, q_5, q_6, q_7, q_8, q_10, q_11, q_12, q_15, q_16, q_17, q_20, q_30, q_31, q_32, q_40, q_45, q_60, q_80, q_81, q_82, q_100, q_320, q_328, q_399, q_400, q_3280, q_nc, q_eq, q_lt, q_le, q_add, q_mul, q_in, q_inno, q_no_eq, q_no_eq', q_no_lt, q_lt_no, q_no_le, q_le_no, o1_some, o2_some, lt_do, x1_inl, x1_inr, x2_inl, x2_inr, if_true, if_false, if_pos, if_neg, rvi_t, rvi_f, bt_f, bf_t, bb_t, bb_f, not_true_eq_false, not_false_eq_true]
    rw [s9_read (L := 80) (by omega) (by unfold rC_ln; rw [if_neg (by omega)]) (isA1 hh hc) (by omega), show 100 + h + 20 = 120 + h by omega, c3]
    rfl
  · exact Or.inr ⟨by simp only [q_no, q_no2, q_0, q_1, q_2, q_3, q_4, q_5, q_6, q_7, q_8, q_10, q_11, q_12, q_15, q_16, q_17, q_20, q_30, q_31, q_32, q_40, q_45, q_60, q_80, q_81, q_82, q_100, q_320, q_328, q_399, q_400, q_3280, q_nc, q_eq, q_lt, q_le, q_add, q_mul, q_in, q_inno, q_no_eq, q_no_eq', q_no_lt, q_lt_no, q_no_le, q_le_no, o1_some, o2_some, lt_do, x1_inl, x1_inr, x2_inl, x2_inr, if_true, if_false, if_pos, if_neg, rvi_t, rvi_f, bt_f, bf_t, bb_t, bb_f, not_true_eq_false, not_false_eq_true, q_neg0 hx], by rw [h2]; rfl⟩
  · exact Or.inr ⟨by simp (disch := omega) only [q_no, q_no2, q_0, q_1, q_2, q_3, q_4, q_5, q_6, q_7, q_8, q_10, q_11, q_12, q_15, q_16, q_17, q_20, q_30, q_31, q_32, q_40, q_45, q_60, q_80, q_81, q_82, q_100, q_320, q_328, q_399, q_400, q_3280, q_nc, q_eq, q_lt, q_le, q_add, q_mul, q_in, q_inno, q_no_eq, q_no_eq', q_no_lt, q_lt_no, q_no_le, q_le_no, o1_some, o2_some, lt_do, x1_inl, x1_inr, x2_inl, x2_inr, if_true, if_false, if_pos, if_neg, rvi_t, rvi_f, bt_f, bf_t, bb_t, bb_f, not_true_eq_false, not_false_eq_true], by rw [h2]; rfl⟩

/-! CURRENT COMMITS, PARENTS -/
theorem s12_tells {M : rv_Mem} {h r : Nat} {x : Int32} (hh : h < 20) (hrv : f12_reviewersOf M (nI h) = some x) (hrp : f12_repoOf M (nI h) = some (nI r)) (hr : r < 2) (who : Int32) : ∃ M', f12_tells M (nI h) who = some M' ∧ (∀ q, q ≠ 51 → q ≠ 21 → M' q = M q) ∧ (∀ p, M' 51 p = mlU (M 51) ((x ||| (1 <<< (M 12 h &&& 31))) ||| (if rv_z (M 16 h) = false ∧ rv_z (M 15 h) = false then M 50 r else 0)) who 6 p) ∧ M' 21 h = M 52 0 ∧ ∀ q, q ≠ h → M' 21 q = M 21 q := by
  unfold f12_tells f12_tells_34 f12_tells_48
  have hin : rv_in (nI h) 20 = true := q_inb hh (by omega)
  have hir : rv_in (nI r) 2 = true := q_inb hr (by omega)
  simp only [hrv, hrp, o1_some, hin, hir, if_true, q_nc (show h < 2147483648 by omega), q_nc (show r < 2147483648 by omega)]
  by_cases h7 : rv_z (M 16 h) = false
  · by_cases h6 : rv_z (M 15 h) = true
    · have h6' : ¬ rv_z (M 15 h) = false := by rw [h6]; decide
      rw [if_pos h7, if_pos h6, if_neg (fun z => h6' z.2)]
      exact s12_tells_53 hh who _
    · have h6' : rv_z (M 15 h) = false := by simpa using h6
      rw [if_pos h7, if_neg h6, if_pos ⟨h7, h6'⟩]
      exact s12_tells_53 hh who _
  · rw [if_neg h7, if_neg (fun z => h7 z.1)]
    exact s12_tells_53 hh who _
/-- the current commit of a change -/
theorem Rn.cur {n : Nat} {gh : rC_gh} {C R : rv_Mem} (hR : Rn n gh C R) {h : Nat} (hh : h < gh.1 0) : ∃ k c, 1 ≤ k ∧ k ≤ 80 ∧ R 14 h = nI k ∧ C (100 + h) 4 = nI k ∧ 2 ≤ c ∧ c < n ∧ C 23 h = nI c ∧ R 5 c = nI h ∧ R 6 c = nI (k - 1) ∧ C (120 + h) (k - 1) = nI c ∧ curS n R h = nI c ∧ f12_current R (nI h) = some (nI c) := by
  have hc := hR.ch20
  obtain ⟨k, k1, k2, k3, k4, k5⟩ := hR.sets hh
  obtain ⟨c, c1, c2, c3, c4, c5, c6⟩ := hR.at hh k2 k4 (show k - 1 < k by omega)
  have e : R 14 h - 1 = nI (k - 1) := by rw [k4, q_1, q_sub k1]
  refine ⟨k, c, k1, k2, k4, k3, c1, c2, by rw [k5, c3], c4, c5, c3, ?_, ?_⟩
  · unfold curS; rw [e, c6]
  · unfold f12_current
    rw [if_pos (q_inb (show h < 20 by omega) (by omega)), q_nc (by omega), e, s12_commitAt hR.1.2.2.1 hR.n80, c6]
    rfl
/-- the parent of a change, and whether it is outdated -/
theorem Rn.parent {n : Nat} {gh : rC_gh} {C R : rv_Mem} (hR : Rn n gh C R) {h : Nat} (hh : h < gh.1 0) : ∃ x : Int32, f9_parentNumber gh C (nI h) = some x ∧ f12_parent R (nI h) = some x ∧ parS n R h = x ∧ (x = NO ∨ ∃ g, g < gh.1 0 ∧ x = nI g) := by
  have hc := hR.ch20
  have hn := hR.n80
  obtain ⟨k, c, k1, k2, k3, k4, c1, c2, c3, c4, c5, c6, c7, c8⟩ := hR.cur hh
  obtain ⟨b, b1, b2, b3, -⟩ := hR.base c1 c2
  have hown : C 19 b = R 5 b ∧ (R 5 b = NO ∨ ∃ g, g < gh.1 0 ∧ R 5 b = nI g) := by
    rcases hR.own b (by omega) with ⟨o1, o2⟩ | ⟨g, s, p, o1, -, o2, o3, -⟩
    · exact ⟨by rw [o1, o2], Or.inl o2⟩
    · exact ⟨by rw [o2, o3], Or.inr ⟨g, o1, o3⟩⟩
  refine ⟨R 5 b, ?_, ?_, ?_, hown.2⟩
  · unfold f9_parentNumber
    rw [s9_read (gh := gh) (C := C) (k := 23) (L := 20) (i := h) (by omega) rfl rfl (by omega), c3, o1_some, s9_read (gh := gh) (C := C) (k := 17) (L := 82) (i := c) (by omega) rfl rfl (by omega), b2, o1_some, s9_read (gh := gh) (C := C) (k := 19) (L := 82) (i := b) (by omega) rfl rfl (by omega), hown.1]
    rfl
  · unfold f12_parent
    simp (disch := omega) only [c8, o1_some, q_in, if_pos, q_nc, b3]
  · unfold parS
    rw [c7, q_nc (by omega), b3, q_nc (by omega)]
theorem Rn.outd {n : Nat} {gh : rC_gh} {C R : rv_Mem} (hR : Rn n gh C R) {h : Nat} (hh : h < gh.1 0) : ∃ w : Bool, f9_isOutdated gh C (nI h) = some w ∧ f12_isOutdated R (nI h) = some w := by
  have hc := hR.ch20
  have hn := hR.n80
  obtain ⟨k, c, k1, k2, k3, k4, c1, c2, c3, c4, c5, c6, c7, c8⟩ := hR.cur hh
  obtain ⟨b, b1, b2, b3, -⟩ := hR.base c1 c2
  obtain ⟨x, x1, x2, x3, x4⟩ := hR.parent hh
  have hx : R 5 b = x := by
    rw [← x3]
    unfold parS
    rw [c7, q_nc (by omega), b3, q_nc (by omega)]
  unfold f9_isOutdated f12_isOutdated f9_currentOf f9_baseOf
  rw [x1, c8]
  rcases x4 with rfl | ⟨g, g1, rfl⟩
  · refine ⟨false, by simp only [o1_some, q_no, not_true_eq_false, if_false], ?_⟩
    simp (disch := omega) only [o1_some, q_in, if_pos, q_nc, b3, hx, q_no, not_true_eq_false, if_false]
  · obtain ⟨k', c', -, -, -, -, d1, d2, d3, -, -, -, -, d8⟩ := hR.cur g1
    have hne : ¬ nI g = -1 := by rw [q_no, q_no_eq (by omega)]; exact id
    refine ⟨decide (¬ c' = b), ?_, ?_⟩
    · simp only [o1_some]
      rw [if_pos hne, s9_read (gh := gh) (C := C) (k := 23) (L := 20) (i := g) (by omega) rfl rfl (by omega), d3, o1_some, o1_some, s9_read (gh := gh) (C := C) (k := 23) (L := 20) (i := h) (by omega) rfl rfl (by omega), c3, o1_some, o1_some, s9_read (gh := gh) (C := C) (k := 17) (L := 82) (i := c) (by omega) rfl rfl (by omega), b2, o1_some, o1_some]
      simp (disch := omega) only [q_eq]
      by_cases e : c' = b
      · rw [if_neg (fun z => z e)]; simp [e]
      · rw [if_pos e]; simp [e]
    · simp (disch := omega) only [o1_some, q_in, if_pos, q_nc, b3, hx, d8]
      simp (disch := omega) only [q_eq]
      by_cases e : c' = b
      · rw [if_neg (fun z => z e.symm)]; simp [e]
      · rw [if_pos (fun z => e z.symm)]; simp [e]
theorem h_parentOf : ∀ gh MC MR, Rel gh MC MR → ∀ p1, rS_parentOf Rel gh MC MR p1 := fun gh C R h p1 => by
  obtain ⟨n, hR⟩ := h
  unfold rS_parentOf f11_parentOf f12_parentOf f11_parentOf_44 f12_parentOf_44 f12_asks f12_asks_14 f12_goes
  rcases hR.dchange p1 with ⟨g, hg, rfl, e1, e2⟩ | ⟨e1, e2⟩
  · left
    have hR' := Rn_66 (v := nI 0) hR
    obtain ⟨x, x1, x2, -, x4⟩ := hR'.parent hg
    obtain ⟨w, w1, w2⟩ := hR'.outd hg
    rw [e1, e2]
    have k66 : rv_u R 66 0 (nI 0) 66 0 = 0 := mu_same _ _ _ _
    have fin : Rel gh C (rv_u R 66 0 (nI 0)) := ⟨n, hR'⟩
    simp only [o1_some, x1_inl, x1, if_true, rvi_f, lt_do, q_0, o2_some, bt_f, if_false, x2]
    rcases x4 with rfl | ⟨q, q1, rfl⟩
    · exact ⟨NO, rv_u R 66 0 (nI 0), rfl, rfl, k66, fin⟩
    · have hb := hR.ch20
      have hne : ¬ nI q = -1 := by rw [q_no, q_no_eq (by omega)]; exact id
      rw [if_neg hne, if_neg hne, w1, w2]
      cases w
      · exact ⟨_, rv_u R 66 0 (nI 0), rfl, rfl, k66, fin⟩
      · exact ⟨_, rv_u R 66 0 (nI 0), rfl, rfl, k66, fin⟩
  · right
    rw [e1, e2]
    simp (disch := omega) only [q_no, q_no2, q_0, q_1, q_2, q_3, q_4, q_5, q_6, q_7, q_8, q_10, q_11, q_12, q_15, q_16, q_17, q_20, q_30, q_31, q_32, q_40, q_45, q_60, q_80, q_81, q_82, q_100, q_320, q_328, q_399, q_400, q_3280, q_nc, q_eq, q_lt, q_le, q_add, q_mul, q_in, q_inno, q_no_eq, q_no_eq', q_no_lt, q_lt_no, q_no_le, q_le_no, o1_some, o2_some, lt_do, x1_inl, x1_inr, x2_inl, x2_inr, if_true, if_false, if_pos, if_neg, rvi_t, rvi_f, bt_f, bf_t, bb_t, bb_f, not_true_eq_false, not_false_eq_true]
    exact ⟨rv_u R 66 0 (nI 1), nI 0, by trivial, by trivial, mu_same _ _ _ _, ⟨n, Rn_66 hR⟩⟩
